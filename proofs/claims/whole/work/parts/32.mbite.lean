/-! the model's bites and turns -/
theorem zfirst_before {d : DS} {i : Nat} (h : i < zfirst d) : d.2 39 i = 0 := by
  unfold zfirst at h
  by_cases h0 : d.2 39 0 = 0
  · by_cases h1 : d.2 39 1 = 0
    · by_cases h2 : d.2 39 2 = 0
      · by_cases h3 : d.2 39 3 = 0
        · simp [h0, h1, h2, h3] at h
          rcases (by omega : i = 0 ∨ i = 1 ∨ i = 2 ∨ i = 3) with rfl | rfl | rfl | rfl <;> assumption
        · simp [h0, h1, h2, h3] at h
          rcases (by omega : i = 0 ∨ i = 1 ∨ i = 2) with rfl | rfl | rfl <;> assumption
      · simp [h0, h1, h2] at h
        rcases (by omega : i = 0 ∨ i = 1) with rfl | rfl <;> assumption
    · simp [h0, h1] at h
      rcases (by omega : i = 0) with rfl; assumption
  · simp [h0] at h
theorem mseta_1 (σ : MS) (k : Nat) (i v : Int32) : (mseta σ k i v).1 = σ.1 := rfl
theorem ov_40 {d : DS} {μ : MS} : (ov d μ).1 40 = nI (d.1 40) := rfl
theorem ov_41 {d : DS} {μ : MS} : (ov d μ).1 41 = nI (d.1 41) := rfl
theorem ov_42 {d : DS} {μ : MS} : (ov d μ).1 42 = nI (d.1 42) := rfl
theorem ov_43 {d : DS} {μ : MS} : (ov d μ).1 43 = nI (d.1 43) := rfl
theorem ov_44 {d : DS} {μ : MS} : (ov d μ).1 44 = nI (d.1 44) := rfl
theorem mul5 (n : Nat) : (5 : Int32) * nI n = nI (5 * n) := pk_mul 5 n
theorem add1N (n : Nat) : nI n + 1 = nI (n + 1) := nI_add n 1
theorem add2N (n : Nat) : nI n + 2 = nI (n + 2) := nI_add n 2
theorem add3N (n : Nat) : nI n + 3 = nI (n + 3) := nI_add n 3
theorem add4N (n : Nat) : nI n + 4 = nI (n + 4) := nI_add n 4
theorem mgN {σ : MS} {k i : Nat} (h : i < 2 ^ 31) : mgeta σ k (nI i) = σ.2.1 k i := by rw [mgeta, nI_clamp h]
section
variable {c : DC} {d : DS} {μ : MS}
theorem mg39 {i : Nat} (h : i < 5) : mgeta (ov d μ) 39 (nI i) = nI (d.2 39 i) := by rw [mgN (by omega), ov_39, ovA_lt h]
theorem mg45 {i : Nat} (h : i < 10) : mgeta (ov d μ) 45 (nI i) = nI (d.2 45 i) := by rw [mgN (by omega), ov_45, ovA_lt h]
theorem mg46 {i : Nat} (h : i < 10) : mgeta (ov d μ) 46 (nI i) = nI (d.2 46 i) := by rw [mgN (by omega), ov_46, ovA_lt h]
theorem mg47 {i : Nat} (h : i < 10) : mgeta (ov d μ) 47 (nI i) = nI (d.2 47 i) := by rw [mgN (by omega), ov_47, ovA_lt h]
theorem m_seek {e25 : MS → Int32 → Int32 → Prop} {P : MS → Prop} {x : Int32} (hl : 0 < zleft d) (hz : zleft d ≤ 495) (hP : e25 (ov d μ) x (nI (zfirst d))) : ∀ (j k : Nat), k + j = zfirst d → qX11_biteOnce_L10 e25 P (j + 1) (ov d μ) x (nI k)
  | 0, k, e => by
    have e0 : k = zfirst d := by omega
    subst e0
    have h5 := zfirst_lt d
    have hp := zfirst_pos hl
    have hq := zfirst_le d
    rw [qX11_biteOnce_L10, mg39 h5, if_neg (nI_ne0 hp (by omega))]
    exact ⟨vp_in_nI h5 (by decide), hP⟩
  | j + 1, k, e => by
    have h5 := zfirst_lt d
    have ih := m_seek (e25 := e25) (P := P) hl hz hP j (k + 1) (by omega)
    have h0 : d.2 39 k = 0 := zfirst_before (by omega)
    rw [qX11_biteOnce_L10]
    refine ⟨vp_in_nI (by omega) (by decide), ?_⟩
    rw [mg39 (by omega), h0, if_pos (show nI 0 = 0 from rfl), bnd_eq, nI_1]
    exact ih
theorem m_J193 {P : MS → Prop} (hb : d.1 43 ≤ 495) {x1 wh la mu wo : Nat} (hw : wh < 10) (h : P (ov (zlog (dsta d 45 wh (d.2 45 wh + wo)) x1 wh la mu wo) μ)) : qX11_biteOnce_J193 P (ov d μ) (nI x1) (nI la) (nI mu) (nI wh) (nI wo) := by
  refine ⟨vp_in_nI hw (by decide), ?_⟩
  rw [mg45 hw, nI_add, ov_s45 hw, bnd_eq]
  generalize hd' : dsta d 45 wh (d.2 45 wh + wo) = d' at h ⊢
  have hb' : d'.1 43 ≤ 495 := by rw [← hd']; exact hb
  rw [ov_43, if_neg (show ¬ (600 : Int32) ≤ nI (d'.1 43) from nI_ge (b := 600) (by omega) (by decide))]
  simp only [bnd_eq, mseta_1, ov_43, mul5, add1N, add2N, add3N, add4N, qX11_biteOnce_J287]
  refine ⟨vp_in_nI (by omega) (by decide), vp_in_nI (by omega) (by decide), vp_in_nI (by omega) (by decide), vp_in_nI (by omega) (by decide), vp_in_nI (by omega) (by decide), ?_⟩
  have e44 : (mset (mseta (mseta (mseta (mseta (mseta (ov d' μ) 48 (nI (5 * d'.1 43)) (nI x1)) 48 (nI (5 * d'.1 43 + 1)) (nI wh)) 48 (nI (5 * d'.1 43 + 2)) (nI la)) 48 (nI (5 * d'.1 43 + 3)) (nI mu)) 48 (nI (5 * d'.1 43 + 4)) (nI wo)) 43 (nI (d'.1 43 + 1))).1 44 + nI wo = nI (d'.1 44 + wo) := by
    show nI (d'.1 44) + nI wo = _
    exact nI_add _ _
  rw [e44, ov_log x1 wh la mu wo hb']
  exact h
theorem m_J163 {P : MS → Prop} (hM : MC c μ) {x1 wh la mu wa : Nat} (hw : wh < c.1 0) (hla : la < 5) (h : qX11_biteOnce_J193 P (ov d μ) (nI x1) (nI la) (nI mu) (nI wh) (nI (if c.1 11 = 1 ∧ la = 4 ∧ c.2.1 4 wh = 0 then 0 else wa))) : qX11_biteOnce_J163 P (ov d μ) (nI x1) (nI la) (nI mu) (nI wh) (nI wa) := by
  obtain ⟨hc, m0, m11, m32, m33, m35, m37, mo, mr⟩ := hM
  have hn := hc.2.1
  have hf := hc.2.2.1
  have ht := (hc.2.2.2.2.2.2 wh hw).2.2.2.2.1
  have e11 : (ov d μ).1 11 = nI (c.1 11) := m11
  have e4 : (ov d μ).2.1 4 wh = nI (c.2.1 4 wh) := (mr wh hw).2.2.2.1
  have l11 : (nI (c.1 11) = 0) ↔ c.1 11 = 0 := nI_eq (b := 0) (by omega) (by decide)
  have l4 : (nI la = 4) ↔ la = 4 := nI_eq (b := 4) (by omega) (by decide)
  have lt : (nI (c.2.1 4 wh) = 0) ↔ c.2.1 4 wh = 0 := nI_eq (b := 0) (by omega) (by decide)
  unfold qX11_biteOnce_J163 qX11_biteOnce_J191
  rw [e11]
  by_cases a : c.1 11 = 0
  · rw [if_pos (l11.mpr a)]
    rw [if_neg (by omega)] at h; exact h
  rw [if_neg (fun q => a (l11.mp q))]
  by_cases b : la = 4
  · rw [if_pos (l4.mpr b)]
    refine ⟨h.1, ?_⟩
    have e : (if mgeta (ov d μ) 4 (nI wh) = 0 then 0 else nI wa : Int32) = nI (if c.1 11 = 1 ∧ la = 4 ∧ c.2.1 4 wh = 0 then 0 else wa) := by
      rw [mgeta, nI_clamp (by omega), e4]
      by_cases q : c.2.1 4 wh = 0
      · rw [if_pos (lt.mpr q), if_pos ⟨by omega, b, q⟩]; rfl
      · rw [if_neg (fun z => q (lt.mp z)), if_neg (fun z => q z.2.2)]
    rw [bnd_eq, e]; exact h.2
  · rw [if_neg (fun q => b (l4.mp q))]
    rw [if_neg (fun z => b z.2.1)] at h; exact h
theorem m_J136 {P : MS → Prop} (hM : MC c μ) (hh : d.1 40 ≤ 300) {x1 wh la mu : Nat} (hw : wh < c.1 0) (hla : la < 5) (hmu : mu ≤ 99) (h : qX11_biteOnce_J193 P (ov d μ) (nI x1) (nI la) (nI mu) (nI wh) (nI (if c.1 11 = 1 ∧ la = 4 ∧ c.2.1 4 wh = 0 then 0 else if d.1 40 < 20 then mu * (1 + la) / 2 else mu * (1 + la)))) : qX11_biteOnce_J136 P (ov d μ) (nI x1) (nI la) (nI mu) (nI wh) := by
  unfold qX11_biteOnce_J136
  have hm : mu * (1 + la) ≤ 99 * 5 := Nat.mul_le_mul hmu (by omega)
  rw [bnd_eq, show (1 : Int32) + nI la = nI (1 + la) from nI_add 1 la, pk_mul, ov_40, show nI (mu * (1 + la)) / 2 = nI (mu * (1 + la) / 2) from pk_div (d := 2) (by omega) (by decide) (by decide)]
  have l : (20 ≤ nI (d.1 40)) ↔ 20 ≤ d.1 40 := nI_leI (a := 20) (by decide) (by omega)
  by_cases a : d.1 40 < 20
  · rw [if_neg (fun q => by have := l.mp q; omega)]
    rw [if_pos a] at h; exact m_J163 hM hw hla h
  · rw [if_pos (l.mpr (by omega))]
    rw [if_neg a] at h; exact m_J163 hM hw hla h
theorem m_bite {P : MS → Prop} (hM : MC c μ) (hd : ZI d) {h : Nat} (hh : h < c.1 0) (hP : P (ov (zonce c d h) μ)) : qX11_biteOnce (ov d μ) (nI h) P := by
  obtain ⟨hc, m0, m11, m32, m33, m35, m37, mo, mr⟩ := hM
  have hM : MC c μ := ⟨hc, m0, m11, m32, m33, m35, m37, mo, mr⟩
  have hn := hc.2.1
  have hl := hd.1
  have h5 := zfirst_lt d
  have hb := hc.2.2.2.2.2.2 h hh
  refine m_left ?_
  have l0 : (nI (zleft d) = 0) ↔ zleft d = 0 := nI_eq (b := 0) (by omega) (by decide)
  by_cases a0 : zleft d = 0
  · rw [if_pos (l0.mpr a0)]
    unfold zonce at hP; rw [if_pos a0] at hP; exact hP
  rw [if_neg (fun q => a0 (l0.mp q))]
  unfold zonce at hP; rw [if_neg a0] at hP
  refine ⟨_, m_seek (by omega) (by omega) ?_ (zfirst d) 0 (by omega)⟩
  have hle := zfirst_le d
  have e5 : (ov d μ).2.1 5 h = nI (c.2.1 5 h) := (mr h hh).2.2.2.2.1
  refine ⟨vp_in_nI (by omega) (by decide), vp_in_nI h5 (by decide), ?_⟩
  rw [mg39 h5, mgN (by omega), e5]
  have key : qX11_biteOnce_J55 P (ov d μ) (nI h) (nI (zfirst d)) (nI (zmuch c d h)) := by
    have hmu1 : zmuch c d h ≤ d.2 39 (zfirst d) := Nat.min_le_right _ _
    have hmu2 : zmuch c d h ≤ c.2.1 5 h := Nat.min_le_left _ _
    refine ⟨vp_in_nI h5 (by decide), ?_⟩
    rw [mg39 h5, pk_sub hmu1, ov_s39 h5, bnd_eq]
    refine ⟨vp_in_nI (by omega) (by decide), ?_⟩
    rw [mg46 (by omega), nI_1, ov_s46 (by omega), bnd_eq]
    have e46 : (dsta d 39 (zfirst d) (d.2 39 (zfirst d) - zmuch c d h)).2 46 h = d.2 46 h := rfl
    rw [e46]
    generalize hd2 : dsta (dsta d 39 (zfirst d) (d.2 39 (zfirst d) - zmuch c d h)) 46 h (d.2 46 h + 1) = d2
    have f46 : d2.2 46 h = d.2 46 h + 1 := by
      rw [← hd2]; show (va_up (d.2 46) h (d.2 46 h + 1)) h = _; exact va_up_self _ _ _
    have f1 : d2.1 = d.1 := by rw [← hd2]; rfl
    have f45 : d2.2 45 = d.2 45 := by rw [← hd2]; rfl
    have e1 : (ov d2 μ).2.1 1 h = nI (c.2.1 1 h) := (mr h hh).1
    have e2 : (ov d2 μ).2.1 2 h = nI (c.2.1 2 h) := (mr h hh).2.1
    have e7 : (ov d2 μ).2.1 7 h = nI (c.2.1 7 h) := (mr h hh).2.2.2.2.2.1
    have e0 : (ov d2 μ).1 0 = nI (c.1 0) := m0
    have hwl := zwhom_lt hc d hh
    have last : qX11_biteOnce_J136 P (ov d2 μ) (nI h) (nI (zfirst d)) (nI (zmuch c d h)) (nI (zwhom c d h)) := by
      refine m_J136 hM (by rw [f1]; exact hd.2.2.2.2.2.2.1) hwl h5 (by omega) ?_
      refine m_J193 (by rw [f1]; omega) (by omega) ?_
      rw [f1, f45, ← hd2]
      exact hP
    have l4 : (nI (c.2.1 1 h) = 4) ↔ c.2.1 1 h = 4 := nI_eq (b := 4) (by omega) (by decide)
    simp only [mgeta, nI_clamp (show h < 2 ^ 31 by omega), e1, e2, e7, e0, ov_46, ovA_lt (show h < 10 by omega), f46, bnd_eq]
    by_cases k4 : c.2.1 1 h = 4
    · rw [if_pos (l4.mpr k4)]
      have hnum : 1 ≤ c.2.1 2 h := hb.2.2.1 (by omega)
      refine ⟨nI_ne0 (by omega) (by omega), ?_⟩
      have h46 := hd.2.2.2.1 h
      rw [jremN (by omega) (by omega) (by omega)]
      have l : (nI ((d.2 46 h + 1) % c.2.1 2 h) = 0) ↔ (d.2 46 h + 1) % c.2.1 2 h = 0 := nI_eq (b := 0) (by have := Nat.mod_lt (d.2 46 h + 1) (show 0 < c.2.1 2 h by omega); omega) (by decide)
      by_cases f : (d.2 46 h + 1) % c.2.1 2 h = 0
      · have hs := hb.2.2.2.2.2.2.2.1
        have hlt : (c.2.1 7 h + 1) % c.1 0 < c.1 0 := Nat.mod_lt _ hc.1
        have e8 : (ov d2 μ).2.1 8 ((c.2.1 7 h + 1) % c.1 0) = nI (c.2.1 8 ((c.2.1 7 h + 1) % c.1 0)) := (mr _ hlt).2.2.2.2.2.2
        rw [if_pos (l.mpr f), if_neg (by decide)]
        refine ⟨nI_ne0 (by omega) (by omega), ?_⟩
        rw [nI_1, jremN (by omega) (by omega) (by omega), nI_clamp (by omega), e8]
        refine ⟨vp_in_nI (by omega) (by decide), ?_⟩
        have ew : zwhom c d h = c.2.1 8 ((c.2.1 7 h + 1) % c.1 0) := by unfold zwhom; rw [if_pos ⟨k4, f⟩]
        rw [← ew]; exact last
      · rw [if_neg (fun q => f (l.mp q)), if_pos rfl]
        have ew : zwhom c d h = h := by unfold zwhom; rw [if_neg (fun q => f q.2)]
        rw [ew] at last; exact last
    · rw [if_neg (fun q => k4 (l4.mp q))]
      have ew : zwhom c d h = h := by unfold zwhom; rw [if_neg (fun q => k4 q.1)]
      rw [ew] at last
      exact last
  by_cases q : d.2 39 (zfirst d) ≤ c.2.1 5 h
  · rw [if_pos (nI_le q (by omega))]
    have e : zmuch c d h = d.2 39 (zfirst d) := Nat.min_eq_right q
    rw [e] at key; exact key
  · rw [if_neg (nI_ge (by omega) (by omega))]
    have e : zmuch c d h = c.2.1 5 h := Nat.min_eq_left (by omega)
    rw [e] at key; exact key
theorem m_times {P : MS → Prop} (hM : MC c μ) {h : Nat} (hh : h < c.1 0) {m : Nat} (hm : m ≤ 3) : ∀ (j k : Nat) (d : DS), ZI d → k + j = m → P (ov (ztimes c j d h) μ) → qX11_biteTurn_L71 P (j + 1) (ov d μ) (nI h) (nI m) (nI k)
  | 0, k, d, hd, e, hP => by
    rw [qX11_biteTurn_L71, if_pos (nI_le (by omega) (by omega))]; exact hP
  | j + 1, k, d, hd, e, hP => by
    rw [qX11_biteTurn_L71, if_neg (nI_ge (by omega) (by omega))]
    refine m_bite hM hd hh ?_
    rw [bnd_eq, nI_1]
    exact m_times hM hh hm j (k + 1) _ (zonce_ZI hM.1 hd hh) (by omega) hP
theorem m_eat {P : MS → Prop} (hM : MC c μ) (hd : ZI d) (h47 : ∀ i, d.2 47 i ≤ d.1 42) {h : Nat} (hh : h < c.1 0) (hP : P (ov (zeat c d h) μ)) : qX11_biteTurn (ov d μ) (nI h) P := by
  obtain ⟨hc, m0, m11, m32, m33, m35, m37, mo, mr⟩ := hM
  have hM : MC c μ := ⟨hc, m0, m11, m32, m33, m35, m37, mo, mr⟩
  have hn := hc.2.1
  have hb := hc.2.2.2.2.2.2 h hh
  have h4 := h47 h
  have h42 := hd.2.2.2.2.2.1
  refine ⟨vp_in_nI (by omega) (by decide), ?_⟩
  rw [mg47 (by omega), nI_1, ov_s47 (by omega), bnd_eq]
  have hd2 : ZI (zeat0 d h) := by
    refine ⟨?_, ?_, hd.2.2.1, hd.2.2.2.1, hd.2.2.2.2.1, hd.2.2.2.2.2.1, hd.2.2.2.2.2.2.1, ?_⟩
    · unfold zeat0; rw [zleft_ne _ _ _ _ (by decide)]; exact hd.1
    · unfold zeat0; rw [zleft_ne _ _ _ _ (by decide)]; exact hd.2.1
    · intro i
      have e1 : (zeat0 d h).2 47 i = if i = h then d.2 47 h + 1 else d.2 47 i := rfl
      have e2 : (zeat0 d h).1 42 = d.1 42 := rfl
      rw [e1, e2]; have := h47 i; split <;> omega
  unfold zeat at hP
  have f47 : (zeat0 d h).2 47 h = d.2 47 h + 1 := va_up_self _ _ _
  rw [show dsta d 47 h (d.2 47 h + 1) = zeat0 d h from rfl]
  generalize zeat0 d h = d2 at hP hd2 f47 ⊢
  have e1 : (ov d2 μ).2.1 1 h = nI (c.2.1 1 h) := (mr h hh).1
  have e2 : (ov d2 μ).2.1 2 h = nI (c.2.1 2 h) := (mr h hh).2.1
  have e37 : (ov d2 μ).1 37 = μ.1 37 := rfl
  have e47 : (ov d2 μ).2.1 47 h = nI (d2.2 47 h) := ovA_lt (by omega)
  have key : ∀ v : Nat, v = (if c.2.1 1 h = 3 ∧ d2.2 47 h % c.2.1 2 h = 0 then 1 else 0) → ∃ f71, qX11_biteTurn_L71 P f71 (ov d2 μ) (nI h) (1 + nI v + (if nI h = μ.1 37 then 1 else 0)) 0 := by
    intro v hv
    have e : (1 + nI v + (if nI h = μ.1 37 then 1 else 0 : Int32)) = nI (zmany c d2 h) := by
      unfold zmany
      rw [← hv, show (1 : Int32) + nI v = nI (1 + v) from nI_add 1 v]
      by_cases q : h = c.1 37
      · rw [if_pos ((m37 h (by omega)).mpr q), if_pos q]; exact nI_add _ 1
      · rw [if_neg (fun z => q ((m37 h (by omega)).mp z)), if_neg q]; exact nI_add _ 0
    rw [e]
    have hv1 : v ≤ 1 := by rw [hv]; split <;> omega
    have hm3 : zmany c d2 h ≤ 3 := by
      unfold zmany; rw [← hv]; split <;> omega
    exact ⟨_, m_times hM hh hm3 (zmany c d2 h) 0 d2 hd2 (by omega) hP⟩
  have l3 : (nI (c.2.1 1 h) = 3) ↔ c.2.1 1 h = 3 := nI_eq (b := 3) (by omega) (by decide)
  simp only [mgeta, nI_clamp (show h < 2 ^ 31 by omega), e1, e2, e37, e47, f47, bnd_eq, qX11_biteTurn_J40, qX11_biteTurn_J41]
  rw [f47] at key
  by_cases k3 : c.2.1 1 h = 3
  · rw [if_pos (l3.mpr k3)]
    have hnum : 1 ≤ c.2.1 2 h := hb.2.2.1 (by omega)
    refine ⟨nI_ne0 (by omega) (by omega), ?_⟩
    rw [jremN (by omega) (by omega) (by omega)]
    have l : (nI ((d.2 47 h + 1) % c.2.1 2 h) = 0) ↔ (d.2 47 h + 1) % c.2.1 2 h = 0 := nI_eq (b := 0) (by have := Nat.mod_lt (d.2 47 h + 1) (show 0 < c.2.1 2 h by omega); omega) (by decide)
    by_cases f : (d.2 47 h + 1) % c.2.1 2 h = 0
    · rw [if_pos (l.mpr f), if_neg (show ¬ (1 : Int32) = 0 by decide)]
      exact key 1 (by rw [if_pos ⟨k3, f⟩])
    · rw [if_neg (fun q => f (l.mp q)), if_pos rfl]
      exact key 0 (by rw [if_neg (fun q => f q.2)])
  · rw [if_neg (fun q => k3 (l3.mp q))]
    simp only [if_true]
    exact key 0 (by rw [if_neg (fun q => k3 q.1)])
end
