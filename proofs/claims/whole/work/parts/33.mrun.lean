/-! the model's day, from a seat on -/
def zitN (n x : Nat) : Nat → Nat → Nat
  | 0, k => k
  | i + 1, k => zitN n x i (if x = 0 then (k + (n - 1)) % n else (k + 1) % n)
set_option maxRecDepth 20000 in
theorem zreachB : ((List.range 11).all fun n => (List.range 2).all fun x => (List.range n).all fun k => (List.range n).all fun s => (List.range n).any fun i => zitN n x i k == s) = true := by decide +kernel
theorem zreach {n x k s : Nat} (hn : n ≤ 10) (hx : x ≤ 1) (hk : k < n) (hs : s < n) : ∃ i, i < n ∧ zitN n x i k = s := by
  have h := zreachB
  have h1 := List.all_eq_true.mp h n (List.mem_range.mpr (by omega))
  have h2 := List.all_eq_true.mp h1 x (List.mem_range.mpr (by omega))
  have h3 := List.all_eq_true.mp h2 k (List.mem_range.mpr hk)
  have h4 := List.all_eq_true.mp h3 s (List.mem_range.mpr hs)
  obtain ⟨i, hi, e⟩ := List.any_eq_true.mp h4
  exact ⟨i, List.mem_range.mp hi, by simpa using e⟩
theorem zseek_none {c : DC} {d : DS} {x : Nat} : ∀ (m k : Nat), zseek c d x m k = none → ∀ i, i < m → zskip c d (c.2.1 8 (zitN (c.1 0) x i k)) = true
  | 0, _, _, i, hi => by omega
  | m + 1, k, h, i, hi => by
    unfold zseek at h
    cases hs : zskip c d (c.2.1 8 k)
    · rw [hs] at h; simp at h
    · rw [hs] at h
      cases i with
      | zero => exact hs
      | succ i => exact zseek_none m _ h i (by omega)
theorem zallN_of {c : DC} {d : DS} : ∀ (m : Nat), (∀ h, h < m → zskip c d h = true) → zallN c d m = true
  | 0, _ => rfl
  | m + 1, h => by unfold zallN; rw [zallN_of m (fun i hi => h i (by omega)), h m (by omega)]; rfl
theorem zallN_no {c : DC} {d : DS} {h : Nat} (hs : zskip c d h = false) : ∀ (m : Nat), h < m → zallN c d m = false
  | 0, e => by omega
  | m + 1, e => by
    unfold zallN
    by_cases q : h = m
    · subst q; rw [hs]; simp
    · rw [zallN_no hs m (by omega)]; rfl
theorem zseek_all {c : DC} (hc : WFc c) {d : DS} {x k : Nat} (hx : x ≤ 1) (hk : k < c.1 0) (h : zseek c d x (c.1 0) k = none) : zallN c d (c.1 0) = true := by
  refine zallN_of _ (fun i hi => ?_)
  have a := (hc.2.2.2.2.2.2 i hi)
  obtain ⟨j, hj, e⟩ := zreach hc.2.1 hx hk a.2.2.2.2.2.2.2.1
  have q := zseek_none _ _ h j hj
  rw [e, a.2.2.2.2.2.2.2.2.2.1] at q
  exact q
theorem zseek_ns {c : DC} {d : DS} {x : Nat} : ∀ (m k q : Nat), zseek c d x m k = some q → zskip c d (c.2.1 8 q) = false
  | 0, _, _, h => by simp [zseek] at h
  | m + 1, k, q, h => by
    unfold zseek at h
    split at h
    · rename_i e; injection h with h; subst h; exact e
    · exact zseek_ns m _ q h
section
variable {c : DC} {d : DS} {μ : MS}
theorem m_beats {P : Int32 → MS → Prop} (hM : MC c μ) {h : Nat} (hh : h < c.1 0) (hP : P (nI (zbeats c h)) (ov d μ)) : qX11_beatsOf (ov d μ) (nI h) P := by
  obtain ⟨hc, m0, m11, m32, m33, m35, m37, mo, mr⟩ := hM
  have hn := hc.2.1
  have hb := hc.2.2.2.2.2.2 h hh
  have e1 : mgeta (ov d μ) 1 (nI h) = nI (c.2.1 1 h) := by rw [mgN (by omega)]; exact (mr h hh).1
  have e2 : mgeta (ov d μ) 2 (nI h) = nI (c.2.1 2 h) := by rw [mgN (by omega)]; exact (mr h hh).2.1
  have hi : vp_in (nI h) 10 := vp_in_nI (by omega) (by decide)
  have l1 : (nI (c.2.1 1 h) = 1) ↔ c.2.1 1 h = 1 := nI_eq (b := 1) (by omega) (by decide)
  have l4 : (nI (c.2.1 1 h) = 4) ↔ c.2.1 1 h = 4 := nI_eq (b := 4) (by omega) (by decide)
  refine ⟨hi, ?_⟩
  unfold qX11_beatsOf_J20
  rw [e1, e2]
  by_cases a : c.2.1 1 h = 1
  · rw [if_pos (l1.mpr a)]; refine ⟨hi, ?_⟩
    unfold zbeats at hP; rw [if_pos (Or.inl a)] at hP; exact hP
  rw [if_neg (fun q => a (l1.mp q))]
  by_cases b : c.2.1 1 h = 4
  · rw [if_pos (l4.mpr b)]; refine ⟨hi, ?_⟩
    unfold zbeats at hP; rw [if_pos (Or.inr b)] at hP; exact hP
  rw [if_neg (fun q => b (l4.mp q))]
  unfold zbeats at hP; rw [if_neg (by omega)] at hP; exact hP
theorem m_take {P : MS → Prop} {b : Nat} (hb : b ≤ 4) (h40 : d.1 40 ≤ 300) (hP : P (ov (zpass d b) μ)) : qX11_takeBeats (ov d μ) (nI b) P := by
  unfold qX11_takeBeats
  rw [bnd_eq, ov_41, nI_1, ov_set 41 _ (by omega), bnd_eq, ov_42, nI_add, ov_set 42 _ (by omega), bnd_eq, ov_40]
  have e : (if nI b ≤ nI ((dset (dset d 41 (d.1 41 + 1)) 42 ((dset d 41 (d.1 41 + 1)).1 42 + b)).1 40) then nI ((dset (dset d 41 (d.1 41 + 1)) 42 ((dset d 41 (d.1 41 + 1)).1 42 + b)).1 40) - nI b else 0 : Int32) = nI (d.1 40 - b) := by
    show (if nI b ≤ nI (d.1 40) then nI (d.1 40) - nI b else 0 : Int32) = _
    by_cases q : b ≤ d.1 40
    · rw [if_pos (nI_le q (by omega)), pk_sub q]
    · rw [if_neg (nI_ge (by omega) (by omega)), show d.1 40 - b = 0 by omega]; rfl
  rw [e, ov_set 40 _ (by omega), bnd_eq]
  exact hP
theorem m_J82 {k6 : MS → Int32 → Int32 → Prop} {P : MS → Prop} (hM : MC c μ) (h32 : μ.1 32 = nI (c.1 32)) {x2 : Int32} {k : Nat} (hk : k < c.1 0) (hP : k6 (ov d μ) x2 (nI (zonw c (c.1 32) k))) : qX11_goDay_J82 k6 P (ov d μ) x2 (nI k) := by
  unfold qX11_goDay_J82
  rw [show (ov d μ).1 32 = nI (c.1 32) from h32]
  exact m_onw hM hM.1.2.2.2.1 hk hP
theorem m_J72 {k6 : MS → Int32 → Int32 → Prop} {P : MS → Prop} (hM : MC c μ) (h32 : μ.1 32 = nI (c.1 32)) (h40 : d.1 40 ≤ 300) {x2 : Int32} {k h : Nat} (hk : k < c.1 0) (hh : h < c.1 0) (hP : k6 (ov (zpass d (zbeats c h)) μ) x2 (nI (zonw c (c.1 32) k))) : qX11_goDay_J72 k6 P (ov d μ) x2 (nI k) (nI h) := by
  unfold qX11_goDay_J72
  refine m_beats hM hh ?_
  refine m_take (zbeats_le hM.1 hh).2 h40 ?_
  exact m_J82 hM h32 hk hP
theorem zover_no (hl : 0 < zleft d) (hb : d.1 42 < 300) (ha : zallN c d (c.1 0) = false) : zover c d = false := by
  unfold zover; rw [ha]; simp; omega
theorem m_head {P : MS → Prop} (hM : MC c μ) (hd : ZI d) {T k f : Nat} (hT : d.1 41 < T) (hT2 : T < 2 ^ 31) (hl : 0 < zleft d) (hb : d.1 42 < 300) (ha : zallN c d (c.1 0) = false) (hk : k < c.1 0)
    (h1 : zskip c d (c.2.1 8 k) = true → qX11_goDay_J82 (fun z0 z1 z2 => qX11_goDay_L6 P f z0 z1 z2) P (ov d μ) (nI T) (nI k))
    (h0 : zskip c d (c.2.1 8 k) = false → (if (ov d μ).1 33 ≤ 0 then (qX11_goDay_J66 (fun z0 z1 z2 => qX11_goDay_L6 P f z0 z1 z2) P (ov d μ) (nI T) (nI k) (nI (c.2.1 8 k))) else ((¬ (ov d μ).1 33 = 0) ∧ (if (jrem ((ov d μ).1 41 + 1) ((ov d μ).1 33)) = 0 then (qX11_stir (ov d μ) fun σ_7 => qX11_goDay_J72 (fun z0 z1 z2 => qX11_goDay_L6 P f z0 z1 z2) P σ_7 (nI T) (nI k) (nI (c.2.1 8 k))) else (qX11_goDay_J66 (fun z0 z1 z2 => qX11_goDay_L6 P f z0 z1 z2) P (ov d μ) (nI T) (nI k) (nI (c.2.1 8 k))))))) : qX11_goDay_L6 P (f + 1) (ov d μ) (nI T) (nI k) := by
  have hc := hM.1
  have hn := hc.2.1
  have e8 : mgeta (ov d μ) 8 (nI k) = nI (c.2.1 8 k) := by rw [mgN (by omega)]; exact (hM.2.2.2.2.2.2.2.2 k hk).2.2.2.2.2.2
  have hh := (hc.2.2.2.2.2.2 k hk).2.2.2.2.2.2.2.2.1
  rw [qX11_goDay_L6, ov_41, if_neg (nI_ge hT hT2)]
  refine m_over hM hd ?_
  rw [zover_no hl hb ha, if_pos (show bI false = 0 from rfl)]
  refine ⟨vp_in_nI (by omega) (by decide), ?_⟩
  rw [bnd_eq, e8]
  refine m_skip hM hd hh ?_
  cases hs : zskip c d (c.2.1 8 k)
  · rw [if_pos (show bI false = 0 from rfl)]; exact h0 hs
  · rw [if_neg (show ¬ bI true = 0 by decide)]; exact h1 hs
theorem m_serve {P : MS → Prop} (hM : MC c μ) (h32 : μ.1 32 = nI (c.1 32)) (hd : ZJ d) {T k f : Nat} (hT : d.1 41 < T) (hT2 : T < 2 ^ 31) (hl : 0 < zleft d) (hb : d.1 42 < 300) (hk : k < c.1 0) (hs : zskip c d (c.2.1 8 k) = false) (hP : qX11_goDay_L6 P f (ov (zserve c d k) μ) (nI T) (nI (zonw c (c.1 32) k))) : qX11_goDay_L6 P (f + 1) (ov d μ) (nI T) (nI k) := by
  have hc := hM.1
  have hh := (hc.2.2.2.2.2.2 k hk).2.2.2.2.2.2.2.2.1
  have h9 := hc.2.2.2.2.1
  have ha := zact_ZI hc hd hk
  have h40 : (zact c d k).1 40 ≤ 300 := by rw [ha.2.2.2.1]; exact hd.1.2.2.2.2.2.2.1
  have h41 : d.1 41 ≤ d.1 42 := hd.1.2.2.2.2.1
  have e33 : (ov d μ).1 33 = nI (c.1 33) := hM.2.2.2.2.1
  refine m_head hM hd.1 hT hT2 hl hb (zallN_no hs _ hh) hk (fun q => by rw [hs] at q; exact absurd q (by decide)) (fun _ => ?_)
  rw [e33, ov_41, nI_1]
  have l0 : (nI (c.1 33) ≤ 0) ↔ c.1 33 = 0 := by rw [show (0 : Int32) = nI 0 from rfl, nI_leI (by omega) (by decide)]; omega
  have eat : zact c d k = zeat c d (c.2.1 8 k) → qX11_goDay_J66 (fun z0 z1 z2 => qX11_goDay_L6 P f z0 z1 z2) P (ov d μ) (nI T) (nI k) (nI (c.2.1 8 k)) := by
    intro e
    unfold qX11_goDay_J66
    refine m_eat hM hd.1 hd.2.2 hh ?_
    rw [← e]
    exact m_J72 hM h32 h40 hk hh hP
  by_cases z : c.1 33 = 0
  · rw [if_pos (l0.mpr z)]
    exact eat (by unfold zact; rw [if_neg (by omega)])
  rw [if_neg (fun q => z (l0.mp q))]
  refine ⟨nI_ne0 (by omega) (by omega), ?_⟩
  rw [jremN (by omega) (by omega) (by omega)]
  have hm : (d.1 41 + 1) % c.1 33 < c.1 33 := Nat.mod_lt _ (by omega)
  have lz : (nI ((d.1 41 + 1) % c.1 33) = 0) ↔ (d.1 41 + 1) % c.1 33 = 0 := nI_eq (b := 0) (by omega) (by decide)
  by_cases r : (d.1 41 + 1) % c.1 33 = 0
  · rw [if_pos (lz.mpr r)]
    have e : zact c d k = zstir d := by unfold zact; rw [if_pos ⟨by omega, r⟩]
    refine m_stir hd.1 ?_
    rw [← e]
    exact m_J72 hM h32 h40 hk hh hP
  · rw [if_neg (fun q => r (lz.mp q))]
    exact eat (by unfold zact; rw [if_neg (fun q => r q.2)])
theorem m_pass {P : MS → Prop} (hM : MC c μ) (h32 : μ.1 32 = nI (c.1 32)) (hd : ZJ d) {T f : Nat} (hT : d.1 41 < T) (hT2 : T < 2 ^ 31) (hl : 0 < zleft d) (hb : d.1 42 < 300) (ha : zallN c d (c.1 0) = false) {q : Nat} (hP : qX11_goDay_L6 P f (ov d μ) (nI T) (nI q)) : ∀ (m k : Nat), k < c.1 0 → zseek c d (c.1 32) m k = some q → ∃ f, qX11_goDay_L6 P f (ov d μ) (nI T) (nI k)
  | 0, _, _, h => by simp [zseek] at h
  | m + 1, k, hk, h => by
    unfold zseek at h
    cases hs : zskip c d (c.2.1 8 k)
    · rw [hs] at h; simp at h; subst h; exact ⟨f, hP⟩
    · rw [hs] at h
      obtain ⟨f2, h2⟩ := m_pass hM h32 hd hT hT2 hl hb ha hP m (zonw c (c.1 32) k) (zonw_lt hM.1 _ _) h
      refine ⟨f2 + 1, m_head hM hd.1 hT hT2 hl hb ha hk (fun _ => m_J82 hM h32 hk h2) (fun z => by rw [hs] at z; exact absurd z (by decide))⟩
theorem m_run {P : MS → Prop} (hM : MC c μ) (h32 : μ.1 32 = nI (c.1 32)) {T : Nat} (hT2 : T < 2 ^ 31) : ∀ (f : Nat) (d : DS) (k : Nat), ZJ d → k < c.1 0 → 300 - d.1 42 < f → P (ov (zrun c T f d k) μ) → ∃ fm, qX11_goDay_L6 P fm (ov d μ) (nI T) (nI k)
  | 0, _, _, _, _, h, _ => by omega
  | f + 1, d, k, hd, hk, hf, hP => by
    have hc := hM.1
    have h41 : d.1 41 ≤ d.1 42 := hd.1.2.2.2.2.1
    have h42 := hd.2.1
    unfold zrun at hP
    by_cases a : T ≤ d.1 41
    · rw [if_pos a] at hP
      refine ⟨1, ?_⟩
      rw [qX11_goDay_L6, ov_41, if_pos (nI_le a (by omega))]; exact hP
    rw [if_neg a] at hP
    have over : zover c d = true → P (ov d μ) → ∃ fm, qX11_goDay_L6 P fm (ov d μ) (nI T) (nI k) := by
      intro e hP
      refine ⟨1, ?_⟩
      rw [qX11_goDay_L6, ov_41, if_neg (nI_ge (by omega) hT2)]
      refine m_over hM hd.1 ?_
      rw [e, if_neg (show ¬ bI true = 0 by decide)]; exact hP
    by_cases b : zleft d = 0 ∨ 300 ≤ d.1 42
    · rw [if_pos b] at hP
      refine over ?_ hP
      unfold zover
      rcases b with b | b <;> simp [b]
    rw [if_neg b] at hP
    split at hP
    · rename_i e
      refine over ?_ hP
      unfold zover; rw [zseek_all hc hc.2.2.2.1 hk e]; simp
    · rename_i q e
      have hq := zseek_lt hc _ _ q hk e
      have hs := zseek_ns _ _ q e
      have hh := (hc.2.2.2.2.2.2 q hq).2.2.2.2.2.2.2.2.1
      have s := zserve_ZJ hc hd (by omega) hq
      obtain ⟨f1, h1⟩ := m_run hM h32 hT2 f (zserve c d q) (zonw c (c.1 32) q) s.1 (zonw_lt hc _ _) (by omega) hP
      exact m_pass hM h32 hd (by omega) hT2 (by omega) (by omega) (zallN_no hs _ hh) (m_serve hM h32 hd (by omega) hT2 (by omega) (by omega) hq hs h1) _ k hk e
end
