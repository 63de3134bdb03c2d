/-! bestStart(), bestStir(), bestSwap() -/
def bs (f : Nat → Int32) : Nat → Nat × Int32
  | 0 => (0, f 0)
  | k + 1 => if f (k + 1) ≤ (bs f k).2 then bs f k else (k + 1, f (k + 1))
theorem bs_s (f : Nat → Int32) (k : Nat) : bs f (k + 1) = if f (k + 1) ≤ (bs f k).2 then bs f k else (k + 1, f (k + 1)) := rfl
theorem far_lt {x : Int32} (h : -99 ≤ x.toInt) : ¬ x ≤ -268435456 := by
  intro q
  rw [Int32.le_iff_toInt_le] at q
  have : (-268435456 : Int32).toInt = -268435456 := rfl
  omega
section
variable {g : XG} {em : Nat} {A : AS}
theorem x_start_L {P : Int32 → XS → Prop} (hA : WFA A) (hG : KXg em A g) {v : Fin (nV g)} (hv : v.val < A.1 12) (hP : ∀ τ, KX em A g τ → P (nI (bs (zlst A v.val (A.2 14 v.val)) (A.1 0 - 1)).1) τ) : ∀ (j k : Nat) (τ : XS), k + 1 + j = A.1 0 → KX em A g τ → qX0_startAdvised_L21 g P (j + 1) τ 0 v (nI (bs (zlst A v.val (A.2 14 v.val)) k).1) (bs (zlst A v.val (A.2 14 v.val)) k).2 (nI (k + 1))
  | 0, k, τ, e, h => by
    have h10 := hA.1.1
    have ek : k = A.1 0 - 1 := by omega
    rw [qX0_startAdvised_L21, hG.1, if_pos (nI_le (by omega) (by omega)), ek]; exact hP τ h
  | j + 1, k, τ, e, h => by
    have h10 := hA.1.1
    have w := hA.2.1.2 _ hv
    have ih := fun τ hτ => x_start_L hA hG hv hP j (k + 1) τ (by omega) hτ
    rw [qX0_startAdvised_L21, hG.1, if_neg (nI_ge (by omega) (by omega)), show vF1 g v = nI (A.2 14 v.val) from (hG.2.2.2.1 v).2.1]
    refine x_leastOf hA.1 w w.2.1 hG h.2.1 (by omega) (fun D => ?_)
    have ih := ih _ (KX.ov (d := D) (t := D.1 41) (l := zleft D) (w := 601) (u := 0) h)
    rw [bs_s] at ih
    unfold qX0_startAdvised_J64
    by_cases q : zlst A v.val (A.2 14 v.val) (k + 1) ≤ (bs (zlst A v.val (A.2 14 v.val)) k).2
    · rw [if_pos q, bnd_eq, nI_1]
      rw [if_pos q] at ih; exact ih
    · rw [if_neg q, bnd_eq, nI_1]
      rw [if_neg q] at ih; exact ih
theorem m_start_L {P : Int32 → MS → Prop} (hA : WFA A) {v : Nat} (hv : v < A.1 12) (hP : ∀ τ, KM A τ → P (nI (bs (zlst A v (A.2 14 v)) (A.1 0 - 1)).1) τ) : ∀ (j k : Nat) (τ : MS), k + 1 + j = A.1 0 → KM A τ → qX11_bestStart_L30 P (j + 1) τ (nI v) (nI (bs (zlst A v (A.2 14 v)) k).1) (bs (zlst A v (A.2 14 v)) k).2 (nI (k + 1))
  | 0, k, τ, e, h => by
    have h10 := hA.1.1
    have ek : k = A.1 0 - 1 := by omega
    rw [qX11_bestStart_L30, h.1.1, if_pos (nI_le (by omega) (by omega)), ek]; exact hP τ h
  | j + 1, k, τ, e, h => by
    have h10 := hA.1.1
    have ih := fun τ hτ => m_start_L hA hv hP j (k + 1) τ (by omega) hτ
    rw [qX11_bestStart_L30, h.1.1, if_neg (nI_ge (by omega) (by omega))]
    refine m_leastOf hA h hv (by omega) (fun μ' f => ?_)
    have ih := ih _ (h.fr f)
    rw [bs_s] at ih
    rw [bnd_eq, bnd_eq, bnd_eq, nI_1]
    by_cases q : zlst A v (A.2 14 v) (k + 1) ≤ (bs (zlst A v (A.2 14 v)) k).2
    · rw [if_pos q, if_pos q]
      rw [if_pos q] at ih; exact ih
    · rw [if_neg q, if_neg q]
      rw [if_neg q] at ih; exact ih
theorem m_start {P : Int32 → MS → Prop} {μ : MS} (hA : WFA A) (hM : KM A μ) {v : Nat} (hv : v < A.1 12) (h1 : 1 ≤ A.1 0) (hP : ∀ τ, KM A τ → P (nI (bs (zlst A v (A.2 14 v)) (A.1 0 - 1)).1) τ) : ∃ f30, qX11_bestStart_L30 P f30 μ (nI v) 0 (-268435456) 0 := by
  have h10 := hA.1.1
  refine ⟨A.1 0 - 1 + 1 + 1, ?_⟩
  rw [qX11_bestStart_L30, hM.1.1, if_neg (nI_nle (by omega) (by omega))]
  refine m_leastOf hA hM hv (seat := 0) (by omega) (fun μ' f => ?_)
  have b := zlst_bd hA.1 (hA.2.1.2 v hv) (hA.2.1.2 v hv).2.1 (seat := 0) (by omega)
  rw [bnd_eq, bnd_eq, bnd_eq, if_neg (far_lt b.1), if_neg (far_lt b.1)]
  exact m_start_L hA hv hP (A.1 0 - 1) 0 μ' (by omega) (hM.fr f)
theorem ok_bestStart {σ : XS} {μ : MS} {a0 : Int32} (hK : KK em g σ μ) : qX10_bestStart g σ a0 (fun r σ1 => qX11_bestStart μ a0 (fun r2 μ1 => r = r2 ∧ KK em g σ1 μ1)) := by
  obtain ⟨A, hA, hX, hM⟩ := hK
  have fin := KK.mk hA hX hM
  have h10 := hA.1.1
  unfold qX10_bestStart
  refine x_vowK hA hX.1 (fun v hv e => ?_) (fun h => ?_)
  · subst e
    have w := hA.2.1.2 _ hv
    have l0 : (nI (nH g) = 0) ↔ A.1 0 = 0 := by rw [hX.1.1]; exact nI_eq (b := 0) (by omega) (by decide)
    have m0 : (μ.1 0 = 0) ↔ A.1 0 = 0 := by rw [hM.1.1]; exact nI_eq (b := 0) (by omega) (by decide)
    rw [bnd_eq]
    by_cases z : A.1 0 = 0
    · rw [if_pos (l0.mpr z), if_neg (by decide)]
      refine m_vowK hA hM (fun _ => ?_) (fun q => absurd ⟨_, hv, rfl⟩ q)
      rw [if_pos (m0.mpr z)]; exact ⟨rfl, fin⟩
    · rw [if_neg (fun q => z (l0.mp q)), if_pos (by decide)]
      unfold qX0_startAdvised
      rw [show vF1 g v = nI (A.2 14 v.val) from (hX.1.2.2.2.1 v).2.1]
      refine x_leastOf (seat := 0) hA.1 w w.2.1 hX.1 hX.2.1 (by omega) (fun D => ?_)
      refine ⟨_, x_start_L hA hX.1 hv (fun τ hτ => ?_) (A.1 0 - 1) 0 _ (by omega) hX.ov⟩
      refine m_vowK hA hM (fun _ => ?_) (fun q => absurd ⟨_, hv, rfl⟩ q)
      rw [if_neg (fun q => z (m0.mp q))]
      exact m_start hA hM hv (by omega) (fun τ2 h2 => ⟨rfl, KK.mk hA hτ h2⟩)
  · exact m_vowK hA hM (fun q => absurd q h) (fun _ => ⟨rfl, fin⟩)
/- how often to stir -/
theorem x_stirA_L {P : Int32 → XS → Prop} (hA : WFA A) (hG : KXg em A g) {v : Fin (nV g)} (hv : v.val < A.1 12) {seat : Nat} (hs : seat < A.1 0) (hP : ∀ τ, KX em A g τ → P (nI (bs (fun t => zlst A v.val t seat) 9).1) τ) : ∀ (j k : Nat) (τ : XS), k + 1 + j = 10 → KX em A g τ → qX0_stirAdvised_L19 g P (j + 1) τ 0 v (nI seat) (nI (bs (fun t => zlst A v.val t seat) k).1) (bs (fun t => zlst A v.val t seat) k).2 (nI (k + 1))
  | 0, k, τ, e, h => by
    have ek : k = 9 := by omega
    subst ek
    rw [qX0_stirAdvised_L19, if_pos (by decide)]; exact hP τ h
  | j + 1, k, τ, e, h => by
    have w := hA.2.1.2 _ hv
    have n9 : ¬ (9 : Int32) < nI (k + 1) := nI_nlt (a := 9) (b := k + 1) (by omega) (by decide)
    rw [qX0_stirAdvised_L19, if_neg n9]
    refine x_leastOf hA.1 w (by omega) hG h.2.1 hs (fun D => ?_)
    have ih := x_stirA_L hA hG hv hs hP j (k + 1) _ (by omega) (KX.ov (d := D) (t := D.1 41) (l := zleft D) (w := 601) (u := 0) h)
    rw [bs_s] at ih
    unfold qX0_stirAdvised_J55
    by_cases q : zlst A v.val (k + 1) seat ≤ (bs (fun t => zlst A v.val t seat) k).2
    · rw [if_pos q, bnd_eq, nI_1]
      rw [if_pos q] at ih; exact ih
    · rw [if_neg q, bnd_eq, nI_1]
      rw [if_neg q] at ih; exact ih
theorem m_stirA_1 {P : Int32 → MS → Prop} {μ : MS} {f : Nat} {x3 x4 : Int32} (hA : WFA A) (hM : KM A μ) {v : Nat} (hv : v < A.1 12) {seat t : Nat} (hs : seat < A.1 0) (ht : t ≤ 9) (hP : ∀ τ, KM A τ → qX11_bestStir_L22 P f τ (nI v) (nI seat) (if zlst A v t seat ≤ x4 then x3 else nI t) (if zlst A v t seat ≤ x4 then x4 else zlst A v t seat) (nI (t + 1))) : qX11_bestStir_L22 P (f + 1) μ (nI v) (nI seat) x3 x4 (nI t) := by
  have w := hA.2.1.2 v hv
  rw [qX11_bestStir_L22, if_neg (nge10 (by omega))]
  refine m_useVow hA hM.2.1 hv (m_useStores ?_)
  rw [bnd_eq]
  have fr : FrM μ (mset (usK (uv A v μ) 10) 33 (nI t)) := uv_fr.trans (usK_fr.trans (mset_fr (by decide)))
  have hU := us_UM hA hM hv
  have hU2 : UM A (A.2 6) v 0 99 t (mset (usK (uv A v μ) 10) 33 (nI t)) := ⟨rfl, rfl, rfl, rfl, rfl, hU.2.2.2.2.2.1, hU.2.2.2.2.2.2⟩
  refine m_goDayF hA.1 w (by omega) ht (by decide) hA.1.2.2.2.2.1 (hM.1.fr fr) hU2 hs ?_
  have z := zday_ZJ (T := 300) hA.1 w (by omega) (st := A.2 6) (fs := 0) (th := 99) ht hs
  have ml := fun {Q : Int32 → MS → Prop} (hQ : Q (zlst A v t seat) (ov (zday A (A.2 6) v 0 99 t 300 seat) (mset (usK (uv A v μ) 10) 33 (nI t)))) => m_least (P := Q) hA.1 (hM.1.fr fr) hU2.2.2.2.2.2.2 hA.1.2.2.2.2.1 (ZJ_meals z) hQ
  have hK := hM.fr (fr.trans (FrM.ov (zday A (A.2 6) v 0 99 t 300 seat) _))
  have h2 := hP _ hK
  refine ml ?_
  rw [bnd_eq]
  refine ml ?_
  unfold qX11_bestStir_J85
  by_cases q : zlst A v t seat ≤ x4
  · simp only [if_pos q] at h2 ⊢
    rw [bnd_eq, nI_1]; exact h2
  · simp only [if_neg q] at h2 ⊢
    refine ml ?_
    rw [bnd_eq, nI_1]; exact h2
theorem m_stirA_L {P : Int32 → MS → Prop} (hA : WFA A) {v : Nat} (hv : v < A.1 12) {seat : Nat} (hs : seat < A.1 0) (hP : ∀ τ, KM A τ → P (nI (bs (fun t => zlst A v t seat) 9).1) τ) : ∀ (j k : Nat) (τ : MS), k + 1 + j = 10 → KM A τ → qX11_bestStir_L22 P (j + 1) τ (nI v) (nI seat) (nI (bs (fun t => zlst A v t seat) k).1) (bs (fun t => zlst A v t seat) k).2 (nI (k + 1))
  | 0, k, τ, e, h => by
    have ek : k = 9 := by omega
    subst ek
    rw [qX11_bestStir_L22, if_pos (by decide)]; exact hP τ h
  | j + 1, k, τ, e, h => by
    refine m_stirA_1 hA h hv hs (by omega) (fun τ2 h2 => ?_)
    have ih := m_stirA_L hA hv hs hP j (k + 1) τ2 (by omega) h2
    rw [bs_s] at ih
    by_cases q : zlst A v (k + 1) seat ≤ (bs (fun t => zlst A v t seat) k).2
    · rw [if_pos q, if_pos q]
      rw [if_pos q] at ih; exact ih
    · rw [if_neg q, if_neg q]
      rw [if_neg q] at ih; exact ih
theorem ok_bestStir {σ : XS} {μ : MS} {a0 a1 : Int32} (hK : KK em g σ μ) : qX10_bestStir g σ a0 a1 (fun r σ1 => qX11_bestStir μ a0 a1 (fun r2 μ1 => r = r2 ∧ KK em g σ1 μ1)) := by
  obtain ⟨A, hA, hX, hM⟩ := hK
  have fin := KK.mk hA hX hM
  unfold qX10_bestStir
  refine x_vowK hA hX.1 (fun v hv e => ?_) (fun h => ?_)
  · subst e
    refine x_seatK hA.1 hX.1 (fun s => ?_) (fun s => ?_)
    · obtain ⟨seat, hs, rfl⟩ := s
      have w := hA.2.1.2 _ hv
      unfold qX0_stirAdvised
      refine x_leastOf (tu := 0) hA.1 w (by decide) hX.1 hX.2.1 hs (fun D => ?_)
      refine ⟨_, x_stirA_L hA hX.1 hv hs (fun τ hτ => ?_) 9 0 _ rfl hX.ov⟩
      refine m_dayK hA hM (fun _ _ => ?_) (fun z => absurd ⟨⟨_, hv, rfl⟩, ⟨_, hs, rfl⟩⟩ z)
      have b := zlst_bd hA.1 w (tu := 0) (by decide) hs
      refine ⟨11, m_stirA_1 (t := 0) hA hM hv hs (by decide) (fun τ2 h2 => ?_)⟩
      rw [if_neg (far_lt b.1), if_neg (far_lt b.1)]
      exact m_stirA_L hA hv hs (fun τ3 h3 => ⟨rfl, KK.mk hA hτ h3⟩) 9 0 τ2 rfl h2
    · exact m_dayK hA hM (fun _ z => absurd z s) (fun _ => ⟨rfl, fin⟩)
  · exact m_dayK hA hM (fun z _ => absurd z h) (fun _ => ⟨rfl, fin⟩)
end
