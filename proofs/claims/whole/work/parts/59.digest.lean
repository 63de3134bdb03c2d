/-! digest() -/
def itr (f : Nat → Int64 → Int64) : Nat → Int64 → Int64
  | 0, h => h
  | k + 1, h => f k (itr f k h)
theorem itr_s (f : Nat → Int64 → Int64) (k : Nat) (h : Int64) : itr f (k + 1) h = f k (itr f k h) := rfl
def mx (h : Int64) (x : Int32) : Int64 := (31 * h) + Int32.toInt64 x
def gh (A : AS) (i : Nat) : Nat → Int64 → Int64 := fun j h => mx h (ht A i j)
def gH (A : AS) : Nat → Int64 → Int64 := fun i h => itr (gh A i) 7 h
def gL (A : AS) : Nat → Int64 → Int64 := fun k h => mx h (nI (A.2 9 k))
def gt (A : AS) (v : Nat) : Nat → Int64 → Int64 := fun j h => mx h (nI (A.2 (13 + j) v))
def gd (D : DS) : Nat → Int64 → Int64 := fun j h => mx h (nI (dt D j))
def gV (A : AS) : Nat → Int64 → Int64 := fun v h => if A.1 0 = 0 then itr (gt A v) 4 h else mx (itr (gd (zday A (A.2 6) v 0 99 (A.2 14 v) 300 0)) 6 (itr (gt A v) 4 h)) (zlst A v (A.2 14 v) 0)
def gP (A : AS) : Nat → Int64 → Int64 := fun k h => mx h (nI (A.2 18 k))
def gC (A : AS) : Nat → Int64 → Int64 := fun j h => mx h (nI (hw A j))
def gAll (A : AS) : Int64 := itr (gC A) 7 (itr (gP A) (A.1 17) (itr (gV A) (A.1 12) (itr (gL A) 5 (itr (gH A) (A.1 0) 541))))
section
variable {A : AS} {em : Nat} {g : XG}
theorem x_dg20 {σ : XS} {P : Int64 → XS → Prop} {e48 : XS → Int64 → Int32 → Prop} {i : Nat} {h : Int64} (hA : Tok A) (hX : KX em A g σ) (hi : i < A.1 0) (hP : e48 σ (itr (gh A i) 7 h) (nI i)) : ∀ (m j : Nat), j + m = 7 → qX10_digest_L20 g e48 P (m + 1) σ (itr (gh A i) j h) (nI i) (nI j)
  | 0, j, e => by
    have e0 : j = 7 := by omega
    subst e0
    rw [qX10_digest_L20, if_pos (by decide)]; exact hP
  | m + 1, j, e => by
    have n6 : ¬ (6 : Int32) < nI j := nI_nlt (a := 6) (b := j) (by omega) (by decide)
    have ih := x_dg20 (P := P) hA hX hi hP m (j + 1) (by omega)
    rw [qX10_digest_L20, if_neg n6]
    refine x_toldOf hA hX hi (by omega) ?_
    rw [bnd_eq, bnd_eq, nI_1]; exact ih
theorem x_dg6 {σ : XS} {P : Int64 → XS → Prop} {e54 : XS → Int64 → Prop} {h : Int64} (hA : Tok A) (hX : KX em A g σ) (hP : e54 σ (itr (gH A) (A.1 0) h)) : ∀ (m i : Nat), i + m = A.1 0 → qX10_digest_L6 g e54 P (m + 1) σ (itr (gH A) i h) (nI i)
  | 0, i, e => by
    have e0 : i = A.1 0 := by omega
    subst e0
    rw [qX10_digest_L6, hX.1.1, if_pos (Int32.le_refl _)]; exact hP
  | m + 1, i, e => by
    have h10 := hA.1
    have ih := x_dg6 (P := P) hA hX hP m (i + 1) (by omega)
    rw [qX10_digest_L6, hX.1.1, if_neg (nI_ge (by omega) (by omega))]
    refine ⟨_, x_dg20 hA hX (by omega) ?_ 7 0 rfl⟩
    rw [bnd_eq, nI_1]; exact ih
theorem x_dg56 {σ : XS} {P : Int64 → XS → Prop} {e84 : XS → Int64 → Prop} {h : Int64} (hX : KX em A g σ) (hP : e84 σ (itr (gL A) 5 h)) : ∀ (m k : Nat), k + m = 5 → qX10_digest_L56 g e84 P (m + 1) σ (itr (gL A) k h) (nI k)
  | 0, k, e => by
    have e0 : k = 5 := by omega
    subst e0
    rw [qX10_digest_L56, if_pos (by decide)]; exact hP
  | m + 1, k, e => by
    have ih := x_dg56 (P := P) hX hP m (k + 1) (by omega)
    rw [qX10_digest_L56, if_neg (nge5 (by omega)), xgTN (by omega), hX.2.1.2.2.1 k (by omega), bnd_eq, bnd_eq, nI_1]
    exact ⟨vp_in_nI (by omega) (by decide), ih⟩
theorem x_vd6 {σ : XS} {P : Int64 → XS → Prop} {v : Fin (nV g)} {e34 : XS → Fin (nV g) → Int64 → Prop} {h : Int64} (hG : KXg em A g) (hv : Vok A v.val) (hP : e34 σ v (itr (gt A v.val) 4 h)) : ∀ (m j : Nat), j + m = 4 → qX10_vowDigested_L6 g e34 P (m + 1) σ v (itr (gt A v.val) j h) (nI j)
  | 0, j, e => by
    have e0 : j = 4 := by omega
    subst e0
    rw [qX10_vowDigested_L6, if_pos (by decide)]; exact hP
  | m + 1, j, e => by
    have n3 : ¬ (3 : Int32) < nI j := nI_nlt (a := 3) (b := j) (by omega) (by decide)
    have ih := x_vd6 (P := P) hG hv hP m (j + 1) (by omega)
    rw [qX10_vowDigested_L6, if_neg n3]
    refine x_told hG hv (by omega) ?_
    rw [bnd_eq, bnd_eq, nI_1]; exact ih
theorem x_vd64 {σ : XS} {P : Int64 → XS → Prop} {D : DS} {w : Nat} {e95 : XS → Int64 → Prop} {h : Int64} (hP : e95 (xov D (D.1 41) (zleft D) w σ) (itr (gd D) 6 h)) : ∀ (m j : Nat), j + m = 6 → qX10_vowDigested_L64 g e95 P (m + 1) (xov D (D.1 41) (zleft D) w σ) (itr (gd D) j h) (nI j)
  | 0, j, e => by
    have e0 : j = 6 := by omega
    subst e0
    rw [qX10_vowDigested_L64, if_pos (by decide)]; exact hP
  | m + 1, j, e => by
    have n5 : ¬ (5 : Int32) < nI j := nI_nlt (a := 5) (b := j) (by omega) (by decide)
    have ih := x_vd64 (P := P) hP m (j + 1) (by omega)
    rw [qX10_vowDigested_L64, if_neg n5]
    refine x_dtold (by omega) ?_
    rw [bnd_eq, bnd_eq, nI_1]; exact ih
theorem x_vd {σ : XS} {P : Int64 → XS → Prop} {v : Fin (nV g)} {h : Int64} (hA : WFA A) (hX : KX em A g σ) (hv : v.val < A.1 12) (hP : ∀ τ, KX em A g τ → P (gV A v.val h) τ) : qX10_vowDigested g σ h v P := by
  have h10 := hA.1.1
  have w := hA.2.1.2 _ hv
  have l0 : (nI (nH g) = 0) ↔ A.1 0 = 0 := by rw [hX.1.1]; exact nI_eq (b := 0) (by omega) (by decide)
  unfold qX10_vowDigested
  refine ⟨_, x_vd6 hX.1 w ?_ 4 0 rfl⟩
  rw [bnd_eq]
  unfold gV at hP
  by_cases z : A.1 0 = 0
  · rw [if_pos (l0.mpr z), if_neg (by decide)]
    rw [if_pos z] at hP; exact hP σ hX
  · rw [if_neg (fun q => z (l0.mp q)), if_pos (by decide)]
    rw [if_neg z] at hP
    refine x_wholeDay (seat := 0) (fs := 0) hA.1 w (by decide) hA.1.2.2.2.2.1 hX.1 hX.2.1 (by omega) (fun D hD => ?_)
    refine ⟨_, x_vd64 ?_ 6 0 rfl⟩
    refine x_least hA.1 hX.1 hX.2.1.1 hA.1.2.2.2.2.1 ?_
    rw [← hD] at hP
    have h2 := hP _ (KX.ov (d := D) (t := D.1 41) (l := zleft D) (w := 601) (u := 0) hX)
    unfold zlst mx at h2
    rw [← hD] at h2
    exact h2
theorem x_dg86 {P : Int64 → XS → Prop} {e120 : XS → Int64 → Prop} {h : Int64} (hA : WFA A) (hP : ∀ τ, KX em A g τ → e120 τ (itr (gV A) (A.1 12) h)) : ∀ (m v : Nat) (σ : XS), v + m = A.1 12 → KX em A g σ → qX10_digest_L86 g e120 P (m + 1) σ (itr (gV A) v h) (nI v)
  | 0, v, σ, e, hX => by
    have e0 : v = A.1 12 := by omega
    subst e0
    have eV : nI (nV g) = nI (A.1 12) := congrArg nI hX.1.2.1
    rw [qX10_digest_L86, eV, if_pos (Int32.le_refl _)]; exact hP σ hX
  | m + 1, v, σ, e, hX => by
    have h6 := hA.2.1.1
    have hn := hX.1.2.1
    have eV : nI (nV g) = nI (A.1 12) := congrArg nI hX.1.2.1
    rw [qX10_digest_L86, eV, if_neg (nI_ge (by omega) (by omega))]
    refine ⟨vp_in_nI (by omega) (by omega), fun j hj => ?_⟩
    have ej : j.val = v := by rw [hj, nI_clamp (by omega)]
    refine x_vd hA hX (by omega) (fun τ hτ => ?_)
    rw [bnd_eq, nI_1, ej]
    exact x_dg86 hA hP m (v + 1) τ (by omega) hτ
theorem x_dg122 {σ : XS} {P : Int64 → XS → Prop} {e156 : XS → Int64 → Prop} {h : Int64} (hA : WFA A) (hX : KX em A g σ) (hP : e156 σ (itr (gP A) (A.1 17) h)) : ∀ (m k : Nat), k + m = A.1 17 → qX10_digest_L122 g e156 P (m + 1) σ (itr (gP A) k h) (nI k)
  | 0, k, e => by
    have e0 : k = A.1 17 := by omega
    subst e0
    rw [qX10_digest_L122, hX.2.2.1.1, if_pos (Int32.le_refl _)]; exact hP
  | m + 1, k, e => by
    have h16 := hA.2.2.1.1
    have ih := x_dg122 (P := P) hA hX hP m (k + 1) (by omega)
    rw [qX10_digest_L122, hX.2.2.1.1, if_neg (nI_ge (by omega) (by omega)), xgSN (by omega), hX.2.2.1.2 k (by omega), bnd_eq, bnd_eq, nI_1]
    exact ⟨vp_in_nI (by omega) (by decide), ih⟩
theorem x_dg158 {σ : XS} {P : Int64 → XS → Prop} {h : Int64} (hA : WFA A) (hX : KX em A g σ) (hP : P (itr (gC A) 7 h) σ) : ∀ (m j : Nat), j + m = 7 → qX10_digest_L158 g P (m + 1) σ (itr (gC A) j h) (nI j)
  | 0, j, e => by
    have e0 : j = 7 := by omega
    subst e0
    rw [qX10_digest_L158, if_pos (by decide)]; exact hP
  | m + 1, j, e => by
    have n6 : ¬ (6 : Int32) < nI j := nI_nlt (a := 6) (b := j) (by omega) (by decide)
    have ih := x_dg158 hA hX hP m (j + 1) (by omega)
    rw [qX10_digest_L158, if_neg n6]
    refine x_counted hA hX (by omega) ?_
    rw [bnd_eq, bnd_eq, nI_1]; exact ih
theorem x_digest {σ : XS} {P : Int64 → XS → Prop} (hA : WFA A) (hX : KX em A g σ) (hP : ∀ τ, KX em A g τ → P (gAll A) τ) : qX10_digest g σ P := by
  unfold qX10_digest
  refine ⟨_, x_dg6 hA.1 hX ?_ (A.1 0) 0 (by omega)⟩
  refine ⟨_, x_dg56 hX ?_ 5 0 rfl⟩
  refine ⟨_, x_dg86 hA (fun τ hτ => ?_) (A.1 12) 0 σ (by omega) hX⟩
  refine ⟨_, x_dg122 hA hτ ?_ (A.1 17) 0 (by omega)⟩
  exact ⟨_, x_dg158 hA hτ (hP τ hτ) 7 0 rfl⟩
/- the model -/
theorem m_dg19 {μ : MS} {P : Int64 → MS → Prop} {e42 : MS → Int32 → Prop} {i : Nat} {h : Int64} (hA : Tok A) (hM : KMt A μ) (hi : i < A.1 0) (hP : e42 (msetl μ (itr (gh A i) 7 h)) (nI i)) : ∀ (m j : Nat), j + m = 7 → qX11_digest_L19 e42 P (m + 1) (msetl μ (itr (gh A i) j h)) (nI i) (nI j)
  | 0, j, e => by
    have e0 : j = 7 := by omega
    subst e0
    rw [qX11_digest_L19, if_pos (by decide)]; exact hP
  | m + 1, j, e => by
    have n7 : ¬ (7 : Int32) ≤ nI j := nI_ge (b := 7) (by omega) (by decide)
    have ih := m_dg19 (P := P) hA hM hi hP m (j + 1) (by omega)
    have hM' : KMt A (msetl μ (itr (gh A i) j h)) := hM
    rw [qX11_digest_L19, if_neg n7]
    refine m_hermitNow hA hM' hi (by omega) ?_
    unfold qX11_mix
    rw [bnd_eq]; dsimp only; rw [bnd_eq, nI_1]; exact ih
theorem m_dg9 {μ : MS} {P : Int64 → MS → Prop} {e48 : MS → Prop} {h : Int64} (hA : Tok A) (hM : KMt A μ) (hP : e48 (msetl μ (itr (gH A) (A.1 0) h))) : ∀ (m i : Nat), i + m = A.1 0 → qX11_digest_L9 e48 P (m + 1) (msetl μ (itr (gH A) i h)) (nI i)
  | 0, i, e => by
    have e0 : i = A.1 0 := by omega
    subst e0
    rw [qX11_digest_L9, show (msetl μ (itr (gH A) (A.1 0) h)).1 0 = nI (A.1 0) from hM.1, if_pos (Int32.le_refl _)]; exact hP
  | m + 1, i, e => by
    have h10 := hA.1
    have ih := m_dg9 (P := P) hA hM hP m (i + 1) (by omega)
    rw [qX11_digest_L9, show (msetl μ (itr (gH A) i h)).1 0 = nI (A.1 0) from hM.1, if_neg (nI_ge (by omega) (by omega))]
    refine ⟨_, m_dg19 hA hM (by omega) ?_ 7 0 rfl⟩
    rw [bnd_eq, nI_1]; exact ih
theorem m_dg50 {μ : MS} {P : Int64 → MS → Prop} {e72 : MS → Prop} {h : Int64} (hM : KMt A μ) (hP : e72 (msetl μ (itr (gL A) 5 h))) : ∀ (m k : Nat), k + m = 5 → qX11_digest_L50 e72 P (m + 1) (msetl μ (itr (gL A) k h)) (nI k)
  | 0, k, e => by
    have e0 : k = 5 := by omega
    subst e0
    rw [qX11_digest_L50, if_pos (by decide)]; exact hP
  | m + 1, k, e => by
    have ih := m_dg50 (P := P) hM hP m (k + 1) (by omega)
    have e9 : mgeta (msetl μ (itr (gL A) k h)) 9 (nI k) = nI (A.2 9 k) := by rw [mgN (by omega)]; exact hM.2.2.2.2.2 k (by omega)
    rw [qX11_digest_L50, if_neg (nge5 (by omega)), e9]
    refine ⟨vp_in_nI (by omega) (by decide), ?_⟩
    unfold qX11_mix
    rw [bnd_eq]; dsimp only; rw [bnd_eq, nI_1]; exact ih
theorem m_mv2 {μ : MS} {P : MS → Prop} {v : Nat} {e24 : MS → Int32 → Prop} {h : Int64} (hA : WFA A) (hM : KM A μ) (hv : v < A.1 12) (hP : e24 (msetl μ (itr (gt A v) 4 h)) (nI v)) : ∀ (m j : Nat), j + m = 4 → qX11_mixVow_L2 e24 P (m + 1) (msetl μ (itr (gt A v) j h)) (nI v) (nI j)
  | 0, j, e => by
    have e0 : j = 4 := by omega
    subst e0
    rw [qX11_mixVow_L2, if_pos (by decide)]; exact hP
  | m + 1, j, e => by
    have n4 : ¬ (4 : Int32) ≤ nI j := nI_ge (b := 4) (by omega) (by decide)
    have ih := m_mv2 (P := P) hA hM hv hP m (j + 1) (by omega)
    have hM' : KM A (msetl μ (itr (gt A v) j h)) := hM
    rw [qX11_mixVow_L2, if_neg n4]
    refine m_vowNow hA hM' hv (by omega) ?_
    unfold qX11_mix
    rw [bnd_eq]; dsimp only; rw [bnd_eq, nI_1]; exact ih
theorem m_mv40 {μ : MS} {P : MS → Prop} {D : DS} {e62 : MS → Prop} {h : Int64} (hP : e62 (ov D (msetl μ (itr (gd D) 6 h)))) : ∀ (m j : Nat), j + m = 6 → qX11_mixVow_L40 e62 P (m + 1) (ov D (msetl μ (itr (gd D) j h))) (nI j)
  | 0, j, e => by
    have e0 : j = 6 := by omega
    subst e0
    rw [qX11_mixVow_L40, if_pos (by decide)]; exact hP
  | m + 1, j, e => by
    have n6 : ¬ (6 : Int32) ≤ nI j := nI_ge (b := 6) (by omega) (by decide)
    have ih := m_mv40 (P := P) hP m (j + 1) (by omega)
    rw [qX11_mixVow_L40, if_neg n6]
    refine m_dayNow (by omega) ?_
    unfold qX11_mix
    rw [bnd_eq]; dsimp only; rw [bnd_eq, nI_1]; exact ih
theorem msetl_self {μ : MS} {h : Int64} (e : μ.2.2 = h) : msetl μ h = μ := by rw [← e]; rfl
theorem m_mv {μ : MS} {P : MS → Prop} {v : Nat} {h : Int64} (hA : WFA A) (hM : KM A μ) (hv : v < A.1 12) (hP : ∀ τ, KM A τ → P (msetl τ (gV A v h))) : qX11_mixVow (msetl μ h) (nI v) P := by
  have h10 := hA.1.1
  have w := hA.2.1.2 v hv
  unfold qX11_mixVow
  refine ⟨_, m_mv2 hA hM hv ?_ 4 0 rfl⟩
  have e0 : (msetl μ (itr (gt A v) 4 h)).1 0 = nI (A.1 0) := hM.1.1
  rw [e0]
  unfold gV at hP
  by_cases z : A.1 0 = 0
  · rw [if_pos (show nI (A.1 0) ≤ 0 by rw [z]; decide)]
    rw [if_pos z] at hP; exact hP μ hM
  · rw [if_neg (nI_nle (by omega) (by omega))]
    rw [if_neg z] at hP
    have hM' : KM A (msetl μ (itr (gt A v) 4 h)) := hM
    refine m_layDay (seat := 0) (fs := 0) hA hM' hv (by omega) (by decide) (fun μ' f hU => ?_)
    have e2 : μ'.2.2 = itr (gt A v) 4 h := f.2.2
    have zJ := zday_ZJ (T := 300) hA.1 w (by omega) (st := A.2 6) (fs := 0) (th := 99) w.2.1 (seat := 0) (by omega)
    rw [← msetl_self e2]
    refine ⟨_, m_mv40 ?_ 6 0 rfl⟩
    have hK := hM'.fr f
    have hKt : KMt A (msetl μ' (itr (gd (zday A (A.2 6) v 0 99 (A.2 14 v) 300 0)) 6 (itr (gt A v) 4 h))) := hK.1
    refine m_least hA.1 hKt hU.2.2.2.2.2.2 hA.1.2.2.2.2.1 (ZJ_meals zJ) ?_
    unfold qX11_mix
    rw [bnd_eq]
    exact hP (ov (zday A (A.2 6) v 0 99 (A.2 14 v) 300 0) μ') (hK.fr (FrM.ov _ _))
theorem m_dg74 {P : Int64 → MS → Prop} {e93 : MS → Prop} {h : Int64} (hA : WFA A) (hP : ∀ τ, KM A τ → e93 (msetl τ (itr (gV A) (A.1 12) h))) : ∀ (m v : Nat) (μ : MS), v + m = A.1 12 → KM A μ → qX11_digest_L74 e93 P (m + 1) (msetl μ (itr (gV A) v h)) (nI v)
  | 0, v, μ, e, hM => by
    have e0 : v = A.1 12 := by omega
    subst e0
    rw [qX11_digest_L74, show (msetl μ (itr (gV A) (A.1 12) h)).1 12 = nI (A.1 12) from hM.2.1.1, if_pos (Int32.le_refl _)]; exact hP μ hM
  | m + 1, v, μ, e, hM => by
    have h6 := hA.2.1.1
    rw [qX11_digest_L74, show (msetl μ (itr (gV A) v h)).1 12 = nI (A.1 12) from hM.2.1.1, if_neg (nI_ge (by omega) (by omega))]
    refine m_mv hA hM (by omega) (fun τ hτ => ?_)
    rw [bnd_eq, nI_1]
    exact m_dg74 hA hP m (v + 1) τ (by omega) hτ
theorem m_dg95 {μ : MS} {P : Int64 → MS → Prop} {e120 : MS → Prop} {h : Int64} (hA : WFA A) (hM : KM A μ) (hP : e120 (msetl μ (itr (gP A) (A.1 17) h))) : ∀ (m k : Nat), k + m = A.1 17 → qX11_digest_L95 e120 P (m + 1) (msetl μ (itr (gP A) k h)) (nI k)
  | 0, k, e => by
    have e0 : k = A.1 17 := by omega
    subst e0
    rw [qX11_digest_L95, show (msetl μ (itr (gP A) (A.1 17) h)).1 17 = nI (A.1 17) from hM.2.2.1.1, if_pos (Int32.le_refl _)]; exact hP
  | m + 1, k, e => by
    have h16 := hA.2.2.1.1
    have ih := m_dg95 (P := P) hA hM hP m (k + 1) (by omega)
    have e18 : mgeta (msetl μ (itr (gP A) k h)) 18 (nI k) = nI (A.2 18 k) := by rw [mgN (by omega)]; exact hM.2.2.1.2 k (by omega)
    rw [qX11_digest_L95, show (msetl μ (itr (gP A) k h)).1 17 = nI (A.1 17) from hM.2.2.1.1, if_neg (nI_ge (by omega) (by omega)), e18]
    refine ⟨vp_in_nI (by omega) (by decide), ?_⟩
    unfold qX11_mix
    rw [bnd_eq]; dsimp only; rw [bnd_eq, nI_1]; exact ih
theorem m_dg122 {μ : MS} {P : Int64 → MS → Prop} {h : Int64} (hA : WFA A) (hM : KM A μ) (hP : P (itr (gC A) 7 h) (msetl μ (itr (gC A) 7 h))) : ∀ (m j : Nat), j + m = 7 → qX11_digest_L122 P (m + 1) (msetl μ (itr (gC A) j h)) (nI j)
  | 0, j, e => by
    have e0 : j = 7 := by omega
    subst e0
    rw [qX11_digest_L122, if_pos (by decide)]; exact hP
  | m + 1, j, e => by
    have n7 : ¬ (7 : Int32) ≤ nI j := nI_ge (b := 7) (by omega) (by decide)
    have ih := m_dg122 hA hM hP m (j + 1) (by omega)
    have hM' : KM A (msetl μ (itr (gC A) j h)) := hM
    rw [qX11_digest_L122, if_neg n7]
    refine m_howMany hA hM' (by omega) ?_
    unfold qX11_mix
    rw [bnd_eq]; dsimp only; rw [bnd_eq, nI_1]; exact ih
theorem m_digest {μ : MS} {P : Int64 → MS → Prop} (hA : WFA A) (hM : KM A μ) (hP : ∀ τ, KM A τ → P (gAll A) τ) : qX11_digest μ P := by
  unfold qX11_digest
  rw [bnd_eq]
  refine ⟨_, m_dg9 (h := 541) hA.1 hM.1 ?_ (A.1 0) 0 (by omega)⟩
  refine ⟨_, m_dg50 hM.1 ?_ 5 0 rfl⟩
  refine ⟨_, m_dg74 hA (fun τ hτ => ?_) (A.1 12) 0 μ (by omega) hM⟩
  refine ⟨_, m_dg95 hA hτ ?_ (A.1 17) 0 (by omega)⟩
  exact ⟨_, m_dg122 hA hτ (hP _ hτ) 7 0 rfl⟩
theorem ok_digest {σ : XS} {μ : MS} (hK : KK em g σ μ) : qX10_digest g σ (fun r σ1 => qX11_digest μ (fun r2 μ1 => r = r2 ∧ KK em g σ1 μ1)) := by
  obtain ⟨A, hA, hX, hM⟩ := hK
  exact x_digest hA hX (fun τ hτ => m_digest hA hM (fun τ2 h2 => ⟨rfl, KK.mk hA hτ h2⟩))
end
theorem law_ok (em : Nat) : LawOK em (KK em) :=
  ⟨fun _ _ _ _ h => ok_letters h, fun _ _ _ h => ok_blank h, fun _ _ _ h => ok_fault h, fun _ _ _ h => ok_vow h, fun _ _ _ _ _ h => ok_vowTold h, fun _ _ _ _ _ _ _ _ _ h => ok_hermit h, fun _ _ _ _ _ h => ok_as h, fun _ _ _ _ _ h => ok_about h, fun _ _ _ _ _ h => ok_store h, fun _ _ _ _ _ h => ok_change h, fun _ _ _ _ _ h => ok_soup h, fun _ _ _ _ h => ok_heat h, fun _ _ _ _ h h0 => ok_feast h h0, fun _ _ _ _ _ _ _ h => ok_day h, fun _ _ _ _ _ _ _ h => ok_meal h, fun _ _ _ _ _ _ _ _ h => ok_bite h, fun _ _ _ _ _ h => ok_least h, fun _ _ _ _ h => ok_bestStart h, fun _ _ _ _ _ h => ok_bestSwap h, fun _ _ _ _ _ h => ok_bestStir h, fun _ _ _ _ _ _ h => ok_live h, fun _ _ _ _ _ _ h => ok_starves h, fun _ _ _ _ _ _ h => ok_fasting h, fun _ _ _ _ _ h => ok_schism h, fun _ _ _ _ _ _ _ h => ok_twice h, fun _ _ _ h => ok_image h, fun _ _ _ h => ok_restore h, fun _ _ _ _ h => ok_count h, fun _ _ _ h => ok_digest h⟩
