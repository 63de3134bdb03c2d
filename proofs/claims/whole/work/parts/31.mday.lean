/-! the model's day is the day in numbers -/
def ovA (f : Nat → Nat) (N : Nat) (g : Nat → Int32) : Nat → Int32 := fun i => if i < N then nI (f i) else g i
def ov1 (d : DS) (μ : MS) : Nat → Int32 := fun k => if k = 40 ∨ k = 41 ∨ k = 42 ∨ k = 43 ∨ k = 44 then nI (d.1 k) else μ.1 k
def ov2 (d : DS) (μ : MS) : Nat → Nat → Int32 := fun k => if k = 39 then ovA (d.2 39) 5 (μ.2.1 39) else if k = 45 ∨ k = 46 ∨ k = 47 then ovA (d.2 k) 10 (μ.2.1 k) else if k = 48 then ovA (d.2 48) (5 * d.1 43) (μ.2.1 48) else μ.2.1 k
def ov (d : DS) (μ : MS) : MS := (ov1 d μ, ov2 d μ, μ.2.2)
theorem ovA_lt {f : Nat → Nat} {N : Nat} {g : Nat → Int32} {i : Nat} (h : i < N) : ovA f N g i = nI (f i) := if_pos h
theorem ovA_upd {f : Nat → Nat} {N : Nat} {g : Nat → Int32} {i v : Nat} (h : i < N) : upd (ovA f N g) i (nI v) = ovA (va_up f i v) N g := by
  funext j; unfold upd ovA va_up
  by_cases e : j = i
  · subst e; simp [h]
  · simp [e]
theorem ov_39 {d : DS} {μ : MS} : (ov d μ).2.1 39 = ovA (d.2 39) 5 (μ.2.1 39) := rfl
theorem ov_45 {d : DS} {μ : MS} : (ov d μ).2.1 45 = ovA (d.2 45) 10 (μ.2.1 45) := rfl
theorem ov_46 {d : DS} {μ : MS} : (ov d μ).2.1 46 = ovA (d.2 46) 10 (μ.2.1 46) := rfl
theorem ov_47 {d : DS} {μ : MS} : (ov d μ).2.1 47 = ovA (d.2 47) 10 (μ.2.1 47) := rfl
theorem ov_48 {d : DS} {μ : MS} : (ov d μ).2.1 48 = ovA (d.2 48) (5 * d.1 43) (μ.2.1 48) := rfl
theorem ov_s39 {d : DS} {μ : MS} {i v : Nat} (h : i < 5) : mseta (ov d μ) 39 (nI i) (nI v) = ov (dsta d 39 i v) μ := by
  unfold mseta
  rw [ov_39, nI_clamp (by omega), ovA_upd h]
  refine Prod.ext rfl (Prod.ext (funext fun j => ?_) rfl)
  by_cases e : j = 39
  · subst e; rfl
  · simp [va_up, e, ov, ov2, dsta]
theorem ov_s45 {d : DS} {μ : MS} {i v : Nat} (h : i < 10) : mseta (ov d μ) 45 (nI i) (nI v) = ov (dsta d 45 i v) μ := by
  unfold mseta
  rw [ov_45, nI_clamp (by omega), ovA_upd h]
  refine Prod.ext rfl (Prod.ext (funext fun j => ?_) rfl)
  by_cases e : j = 45
  · subst e; rfl
  · simp [va_up, e, ov, ov2, dsta]
theorem ov_s46 {d : DS} {μ : MS} {i v : Nat} (h : i < 10) : mseta (ov d μ) 46 (nI i) (nI v) = ov (dsta d 46 i v) μ := by
  unfold mseta
  rw [ov_46, nI_clamp (by omega), ovA_upd h]
  refine Prod.ext rfl (Prod.ext (funext fun j => ?_) rfl)
  by_cases e : j = 46
  · subst e; rfl
  · simp [va_up, e, ov, ov2, dsta]
theorem ov_s47 {d : DS} {μ : MS} {i v : Nat} (h : i < 10) : mseta (ov d μ) 47 (nI i) (nI v) = ov (dsta d 47 i v) μ := by
  unfold mseta
  rw [ov_47, nI_clamp (by omega), ovA_upd h]
  refine Prod.ext rfl (Prod.ext (funext fun j => ?_) rfl)
  by_cases e : j = 47
  · subst e; rfl
  · simp [va_up, e, ov, ov2, dsta]
theorem ov_set {d : DS} {μ : MS} (k v : Nat) (hk : k = 40 ∨ k = 41 ∨ k = 42 ∨ k = 44) : mset (ov d μ) k (nI v) = ov (dset d k v) μ := by
  refine Prod.ext (funext fun j => ?_) (Prod.ext (funext fun j => ?_) rfl)
  · rcases hk with rfl | rfl | rfl | rfl <;> (simp only [mset, ov, ov1, dset, upd, va_up]; split <;> simp_all)
  · rcases hk with rfl | rfl | rfl | rfl <;> rfl
/- the five entries of a bite -/
theorem ov_log {d : DS} {μ : MS} (a b x y z : Nat) (hb : d.1 43 ≤ 495) : mset (mset (mseta (mseta (mseta (mseta (mseta (ov d μ) 48 (nI (5 * d.1 43)) (nI a)) 48 (nI (5 * d.1 43 + 1)) (nI b)) 48 (nI (5 * d.1 43 + 2)) (nI x)) 48 (nI (5 * d.1 43 + 3)) (nI y)) 48 (nI (5 * d.1 43 + 4)) (nI z)) 43 (nI (d.1 43 + 1))) 44 (nI (d.1 44 + z)) = ov (zlog d a b x y z) μ := by
  refine Prod.ext (funext fun j => ?_) (Prod.ext (funext fun j => ?_) rfl)
  · simp only [mset, mseta, ov, ov1, zlog, upd, va_up]
    by_cases e4 : j = 44
    · subst e4; rfl
    · by_cases e3 : j = 43
      · subst e3; rfl
      · simp [e4, e3]
  · by_cases e : j = 48
    · subst e
      show upd (upd (upd (upd (upd (ovA (d.2 48) (5 * d.1 43) (μ.2.1 48)) _ _) _ _) _ _) _ _) _ _ = ovA (zrow (d.2 48) (d.1 43) a b x y z) (5 * (d.1 43 + 1)) (μ.2.1 48)
      rw [nI_clamp (by omega), nI_clamp (by omega), nI_clamp (by omega), nI_clamp (by omega), nI_clamp (by omega)]
      funext i
      simp only [upd, ovA, zrow, va_up]
      by_cases h4 : i = 5 * d.1 43 + 4
      · subst h4; rw [if_pos rfl, if_pos (by omega), if_pos rfl]
      by_cases h3 : i = 5 * d.1 43 + 3
      · subst h3; rw [if_neg h4, if_pos rfl, if_pos (by omega), if_neg h4, if_pos rfl]
      by_cases h2 : i = 5 * d.1 43 + 2
      · subst h2; rw [if_neg h4, if_neg h3, if_pos rfl, if_pos (by omega), if_neg h4, if_neg h3, if_pos rfl]
      by_cases h1 : i = 5 * d.1 43 + 1
      · subst h1; rw [if_neg h4, if_neg h3, if_neg h2, if_pos rfl, if_pos (by omega), if_neg h4, if_neg h3, if_neg h2, if_pos rfl]
      by_cases h0 : i = 5 * d.1 43
      · subst h0; rw [if_neg h4, if_neg h3, if_neg h2, if_neg h1, if_pos rfl, if_pos (by omega), if_neg h4, if_neg h3, if_neg h2, if_neg h1, if_pos rfl]
      rw [if_neg h4, if_neg h3, if_neg h2, if_neg h1, if_neg h0, if_neg h4, if_neg h3, if_neg h2, if_neg h1, if_neg h0]
      by_cases h : i < 5 * d.1 43
      · rw [if_pos h, if_pos (by omega)]
      · rw [if_neg h, if_neg (by omega)]
    · simp [mset, mseta, va_up, e, ov, ov2, zlog]
/- what of the model stays all day -/
def MC (c : DC) (μ : MS) : Prop := WFc c ∧ μ.1 0 = nI (c.1 0) ∧ μ.1 11 = nI (c.1 11) ∧ True ∧ μ.1 33 = nI (c.1 33) ∧ μ.1 35 = nI (c.1 35) ∧ (∀ h, h < 10 → (nI h = μ.1 37 ↔ h = c.1 37)) ∧ (∀ h, h < c.1 0 → (c.2.2 h = true ↔ (μ.2.1 38 h < 0 ∨ ((jshr (μ.1 36) (nI h)) &&& 1) = 1 ∨ (¬ μ.1 34 = 0 ∧ μ.2.1 1 h = 2)))) ∧ ∀ h, h < c.1 0 → μ.2.1 1 h = nI (c.2.1 1 h) ∧ μ.2.1 2 h = nI (c.2.1 2 h) ∧ μ.2.1 3 h = nI (c.2.1 3 h) ∧ μ.2.1 4 h = nI (c.2.1 4 h) ∧ μ.2.1 5 h = nI (c.2.1 5 h) ∧ μ.2.1 7 h = nI (c.2.1 7 h) ∧ μ.2.1 8 h = nI (c.2.1 8 h)
theorem nge5 {k : Nat} (h : k < 5) : ¬ (5 : Int32) ≤ nI k := nI_ge (b := 5) h (by decide)
theorem nge10 {k : Nat} (h : k < 10) : ¬ (10 : Int32) ≤ nI k := nI_ge (b := 10) h (by decide)
section
variable {c : DC} {d : DS} {μ : MS}
theorem m_left_s {P : Int32 → MS → Prop} {f a k v : Nat} {σ : MS} (hk : k < 5) (hv : σ.2.1 39 k = nI v) (h : qX11_soupLeft_L4 P f σ (nI (a + v)) (nI (k + 1))) : qX11_soupLeft_L4 P (f + 1) σ (nI a) (nI k) := by
  simp only [qX11_soupLeft_L4, bnd_eq, mgeta]
  rw [if_neg (nge5 hk), nI_clamp (by omega), hv, nI_add, nI_1]
  exact ⟨vp_in_nI hk (by decide), h⟩
theorem m_left {P : Int32 → MS → Prop} (h : P (nI (zleft d)) (ov d μ)) : qX11_soupLeft (ov d μ) P := by
  refine ⟨6, m_left_s (a := 0) (k := 0) (v := d.2 39 0) (by decide) rfl (m_left_s (v := d.2 39 1) (by decide) rfl (m_left_s (v := d.2 39 2) (by decide) rfl (m_left_s (v := d.2 39 3) (by decide) rfl (m_left_s (v := d.2 39 4) (by decide) rfl ?_))))⟩
  have e : 0 + d.2 39 0 + d.2 39 1 + d.2 39 2 + d.2 39 3 + d.2 39 4 = zleft d := by unfold zleft; omega
  rw [e]
  show (if (5 : Int32) ≤ nI 5 then _ else _)
  rw [if_pos (by decide)]; exact h
def bI (b : Bool) : Int32 := if b = true then 1 else 0
theorem m_skip {P : Int32 → MS → Prop} (hM : MC c μ) (hd : ZI d) {h : Nat} (hh : h < c.1 0) (hP : P (bI (zskip c d h)) (ov d μ)) : qX11_isSkipped (ov d μ) (nI h) P := by
  obtain ⟨hc, m0, m11, m32, m33, m35, m37, mo, mr⟩ := hM
  have hn := hc.2.1
  have ho := mo h hh
  have hm := hc.2.2.2.2.2.1
  have hbt := hd.2.2.2.1 h
  have hb1 := hd.1
  have hcl : (nI h).toNatClampNeg = h := nI_clamp (by omega)
  have e46 : (ov d μ).2.1 46 h = nI (d.2 46 h) := ovA_lt (by omega)
  have e35 : (ov d μ).1 35 = nI (c.1 35) := m35
  have e36 : (ov d μ).1 36 = μ.1 36 := rfl
  have e34 : (ov d μ).1 34 = μ.1 34 := rfl
  have e38 : (ov d μ).2.1 38 = μ.2.1 38 := rfl
  have e1 : (ov d μ).2.1 1 = μ.2.1 1 := rfl
  have hin : vp_in (nI h) 10 := vp_in_nI (by omega) (by decide)
  have l0 : (nI (c.1 35) ≤ 0) ↔ c.1 35 = 0 := by rw [show (0 : Int32) = nI 0 from rfl, nI_leI (by omega) (by decide)]; omega
  have l1 : (nI (d.2 46 h) < nI (c.1 35)) ↔ d.2 46 h < c.1 35 := nI_ltI (by omega) (by omega)
  refine ⟨hin, ?_⟩
  simp only [qX11_isSkipped_J37, qX11_isSkipped_J41, qX11_isSkipped_J42, qX11_isSkipped_J67, qX11_has, bnd_eq, mgeta, hcl, e46, e35, e36, e34, e38, e1, l0, l1]
  have hz : zskip c d h = (c.2.2 h || (decide (0 < c.1 35) && decide (c.1 35 ≤ d.2 46 h))) := rfl
  by_cases hA : μ.2.1 38 h < 0
  · have : c.2.2 h = true := ho.mpr (Or.inl hA)
    rw [hz, this] at hP
    simpa [hA, bI] using hP
  by_cases hB : ((jshr (μ.1 36) (nI h)) &&& 1) = 1
  · have : c.2.2 h = true := ho.mpr (Or.inr (Or.inl hB))
    rw [hz, this] at hP
    simpa [hA, hB, bI] using hP
  by_cases hC : ¬ μ.1 34 = 0 ∧ μ.2.1 1 h = 2
  · have : c.2.2 h = true := ho.mpr (Or.inr (Or.inr hC))
    rw [hz, this] at hP
    simpa [hA, hB, hC.1, hC.2, bI] using hP
  have h0 : c.2.2 h = false := by
    cases e : c.2.2 h
    · rfl
    · exact absurd (ho.mp e) (by simp only [hA, hB, hC]; simp)
  rw [hz, h0] at hP
  have key : (if c.1 35 = 0 then P 0 (ov d μ) else vp_in (nI h) 10 ∧ (if d.2 46 h < c.1 35 then P 0 (ov d μ) else P 1 (ov d μ))) := by
    by_cases q0 : c.1 35 = 0
    · rw [if_pos q0]; simpa [q0, bI] using hP
    · rw [if_neg q0]; refine ⟨hin, ?_⟩
      by_cases q1 : d.2 46 h < c.1 35
      · rw [if_pos q1]; simpa [q0, show ¬ c.1 35 ≤ d.2 46 h by omega, bI] using hP
      · rw [if_neg q1]; simpa [q0, show c.1 35 ≤ d.2 46 h by omega, show 0 < c.1 35 by omega, bI] using hP
  simp only [hA, hB, if_true, if_false]
  by_cases hD : μ.1 34 = 0
  · simp only [hD, if_true]; exact key
  · have hE : ¬ μ.2.1 1 h = 2 := fun e => hC ⟨hD, e⟩
    simp only [hD, hE, if_true, if_false]
    by_cases q0 : c.1 35 = 0
    · rw [if_pos q0] at key ⊢; exact key
    · rw [if_neg q0] at key ⊢; exact key.2
/- all skipped -/
def zallN (c : DC) (d : DS) : Nat → Bool
  | 0 => true
  | k + 1 => zallN c d k && zskip c d k
theorem m_all_L {P : Int32 → MS → Prop} (hM : MC c μ) (hd : ZI d) (hP : P (bI (zallN c d (c.1 0))) (ov d μ)) : ∀ (j k : Nat), k + j = c.1 0 → qX11_areAllSkipped_L4 P (j + 1) (ov d μ) (bI (zallN c d k)) (nI k)
  | 0, k, e => by
    have e0 : k = c.1 0 := by omega
    subst e0
    have m0 : (ov d μ).1 0 = nI (c.1 0) := hM.2.1
    simp only [qX11_areAllSkipped_L4]
    rw [m0, if_pos (Int32.le_refl _)]
    refine ⟨?_, hP⟩
    unfold bI; split
    · exact isB_1
    · exact isB_0
  | j + 1, k, e => by
    have m0 : (ov d μ).1 0 = nI (c.1 0) := hM.2.1
    have hn := hM.1.2.1
    have ih := m_all_L hM hd hP j (k + 1) (by omega)
    rw [qX11_areAllSkipped_L4, m0, if_neg (nI_ge (by omega) (by omega))]
    have hz : zallN c d (k + 1) = (zallN c d k && zskip c d k) := rfl
    cases ha : zallN c d k
    · rw [if_pos (show bI false = 0 from rfl)]
      simp only [qX11_areAllSkipped_J28, qX11_areAllSkipped_J29, bnd_eq, nI_1]
      rw [hz, ha] at ih; exact ih
    · rw [if_neg (by decide)]
      refine m_skip hM hd (by omega) ?_
      simp only [bnd_eq, nI_1]
      rw [hz, ha] at ih
      cases hs : zskip c d k
      · rw [hs] at ih; exact ih
      · rw [hs] at ih; exact ih
theorem m_all {P : Int32 → MS → Prop} (hM : MC c μ) (hd : ZI d) (hP : P (bI (zallN c d (c.1 0))) (ov d μ)) : qX11_areAllSkipped (ov d μ) P :=
  ⟨_, m_all_L hM hd hP (c.1 0) 0 (by omega)⟩
def zover (c : DC) (d : DS) : Bool := decide (zleft d = 0) || decide (300 ≤ d.1 42) || zallN c d (c.1 0)
theorem m_over {P : Int32 → MS → Prop} (hM : MC c μ) (hd : ZI d) (hP : P (bI (zover c d)) (ov d μ)) : qX11_isOver (ov d μ) P := by
  refine m_left ?_
  have hz : zover c d = (decide (zleft d = 0) || decide (300 ≤ d.1 42) || zallN c d (c.1 0)) := rfl
  have h1 := hd.1
  have h6 := hd.2.2.2.2.2.1
  have l0 : (nI (zleft d) = 0) ↔ zleft d = 0 := nI_eq (b := 0) (by omega) (by decide)
  have l1 : (300 ≤ (ov d μ).1 42) ↔ 300 ≤ d.1 42 := nI_leI (a := 300) (by decide) (by omega)
  simp only [l0, l1, qX11_isOver_J24]
  by_cases a0 : zleft d = 0
  · rw [if_pos a0]; rw [hz] at hP; simpa [a0, bI] using hP
  rw [if_neg a0]
  by_cases a1 : 300 ≤ d.1 42
  · rw [if_pos a1]; rw [hz] at hP; simpa [a1, bI] using hP
  rw [if_neg a1]
  refine m_all hM hd ?_
  have e : zover c d = zallN c d (c.1 0) := by rw [hz]; simp [a0, a1]
  rw [e] at hP
  cases ha : zallN c d (c.1 0)
  · rw [ha] at hP; exact hP
  · rw [ha] at hP; exact hP
theorem jremN {a b : Nat} (ha : a < 2 ^ 31) (h0 : 0 < b) (hb : b < 2 ^ 31) : jrem (nI a) (nI b) = nI (a % b) := pk_rem ha h0 hb
theorem m_onw {P : Int32 → MS → Prop} (hM : MC c μ) {x k : Nat} (hx : x ≤ 1) (hk : k < c.1 0) (hP : P (nI (zonw c x k)) (ov d μ)) : qX11_onward (ov d μ) (nI k) (nI x) P := by
  have m0 : (ov d μ).1 0 = nI (c.1 0) := hM.2.1
  have h1 := hM.1.1
  have hn := hM.1.2.1
  have hne : ¬ nI (c.1 0) = 0 := nI_ne0 (by omega) (by omega)
  unfold qX11_onward zonw at *
  rw [m0]
  rcases (by omega : x = 0 ∨ x = 1) with rfl | rfl
  · rw [if_pos (show nI 0 = 0 from rfl)]
    refine ⟨hne, ?_⟩
    rw [show nI (c.1 0) - 1 = nI (c.1 0 - 1) from pk_sub (b := 1) h1, nI_add, jremN (by omega) (by omega) (by omega)]
    exact hP
  · rw [if_neg (show ¬ nI 1 = 0 by decide)]
    refine ⟨hne, ?_⟩
    rw [nI_1, jremN (by omega) (by omega) (by omega)]
    exact hP
/- stir -/
def zstK (d : DS) (k : Nat) : DS := (d.1, va_up d.2 39 (fun i => if i < k then zlay (zleft d) i else d.2 39 i))
theorem zstK_s (d : DS) (k : Nat) : dsta (zstK d k) 39 k (zlay (zleft d) k) = zstK d (k + 1) := by
  refine Prod.ext rfl (funext fun j => ?_)
  by_cases e : j = 39
  · subst e
    show va_up (fun i => if i < k then zlay (zleft d) i else d.2 39 i) k (zlay (zleft d) k) = fun i => if i < k + 1 then zlay (zleft d) i else d.2 39 i
    funext i; unfold va_up
    by_cases h : i = k
    · subst h; simp
    · simp only [h, if_false]; by_cases h2 : i < k
      · rw [if_pos h2, if_pos (by omega)]
      · rw [if_neg h2, if_neg (by omega)]
  · simp [dsta, zstK, va_up, e]
theorem zstK_0 (d : DS) : zstK d 0 = d := by
  refine Prod.ext rfl (funext fun j => ?_)
  by_cases e : j = 39
  · subst e; show (fun i => if i < 0 then zlay (zleft d) i else d.2 39 i) = d.2 39; funext i; simp
  · simp [zstK, va_up, e]
theorem ov_zst (d : DS) (μ : MS) : ov (zstK d 5) μ = ov (zstir d) μ := by
  refine Prod.ext rfl (Prod.ext (funext fun j => ?_) rfl)
  by_cases e : j = 39
  · subst e
    show ovA (fun i => if i < 5 then zlay (zleft d) i else d.2 39 i) 5 _ = ovA (fun i => zlay (zleft d) i) 5 _
    funext i; unfold ovA; by_cases h : i < 5
    · simp [h]
    · simp [h]
  · simp [ov, ov2, zstK, zstir, va_up, e]
theorem m_stir_L {P : MS → Prop} (hl : zleft d ≤ 495) (hP : P (ov (zstir d) μ)) : ∀ (j k : Nat), k + j = 5 → qX11_stir_L7 P (j + 1) (ov (zstK d k) μ) (nI (zleft d)) (nI k)
  | 0, k, e => by
    have e0 : k = 5 := by omega
    subst e0
    rw [qX11_stir_L7, if_pos (by decide), ov_zst]; exact hP
  | j + 1, k, e => by
    have ih := m_stir_L hl hP j (k + 1) (by omega)
    have hk : k < 5 := by omega
    rw [qX11_stir_L7, if_neg (nge5 hk)]
    simp only [bnd_eq]
    refine ⟨vp_in_nI hk (by decide), ?_⟩
    have e1 : (if jrem (nI (zleft d)) 5 ≤ 4 - nI k then 0 else 1 : Int32) = nI (if 4 - k < zleft d % 5 then 1 else 0) := by
      rw [show (4 : Int32) - nI k = nI (4 - k) from pk_sub (a := 4) (by omega), show jrem (nI (zleft d)) 5 = nI (zleft d % 5) from jremN (b := 5) (by omega) (by decide) (by decide)]
      by_cases h : 4 - k < zleft d % 5
      · rw [if_pos h, if_neg (nI_ge h (by omega))]; rfl
      · rw [if_neg h, if_pos (nI_le (by omega) (by omega))]; rfl
    have e2 : nI (zleft d) / 5 = nI (zleft d / 5) := pk_div (d := 5) (by omega) (by decide) (by decide)
    rw [e1, e2, nI_add, ov_s39 hk, nI_1]
    have e3 := zstK_s d k
    unfold zlay at e3 ih
    rw [e3]; exact ih
theorem m_stir {P : MS → Prop} (hd : ZI d) (hP : P (ov (zstir d) μ)) : qX11_stir (ov d μ) P := by
  refine m_left ⟨6, ?_⟩
  have h := m_stir_L (μ := μ) (P := P) (d := d) (by have := hd.1; omega) hP 5 0 rfl
  rw [zstK_0] at h; exact h
end
