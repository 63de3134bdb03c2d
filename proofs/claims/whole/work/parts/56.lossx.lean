/-! the component's days to come; starves(), fasting() -/
theorem arow_ne : ∀ a, a < 10 → ∀ b, b < 10 → a ≠ b → arow (nI a) ≠ arow (nI b) := by decide +kernel
theorem arow_0 : ∀ a, a < 10 → arow (nI a) ≠ 0 := by decide +kernel
section
variable {A : AS} {em : Nat} {g : XG} {seat k : Nat}
theorem x_fas_L {σ : XS} {P : Int32 → XS → Prop} {d : Nat} (hA : Tok A) (h1 : 1 ≤ A.1 0) (hT : ∀ s, s < A.1 0 → xTB σ 2 1 s = nI (A.2 8 s)) (hd : d ≤ 60) (hk : k ≤ 10) (hP : P (nI (dfs (A.2 8) (A.1 0) k d k)) σ) : ∀ (j i : Nat), i + j = k → qX0_fastersOf_L17 g P (j + 1) σ (nI d) (nI k) (nI (A.1 0)) (nI (dfs (A.2 8) (A.1 0) k d i)) (nI i)
  | 0, i, e => by
    have e0 : i = k := by omega
    subst e0
    rw [qX0_fastersOf_L17, if_pos (Int32.le_refl _)]; exact hP
  | j + 1, i, e => by
    have h10 := hA.1
    have hm : d * k ≤ 60 * 10 := Nat.mul_le_mul hd hk
    have hr : (d * k + i) % A.1 0 < A.1 0 := Nat.mod_lt _ h1
    have hp := (pq_of hA _ hr).2.1
    have ih := x_fas_L hA h1 hT hd hk hP j (i + 1) (by omega)
    rw [qX0_fastersOf_L17, if_neg (nI_ge (by omega) (by omega)), if_neg (nI_nle (by omega) (by omega)), pk_mul, nI_add, jremN (by omega) (by omega) (by omega), xgTN (by omega), hT _ hr, shl1 _ (by omega), nx_or, bnd_eq, bnd_eq, nI_1]
    exact ⟨nI_ne0 (by omega) (by omega), vp_in_nI (by omega) (by decide), ih⟩
/-- what holds at the beginning of day d, the same ones living since day ss -/
def DlI (em : Nat) (A : AS) (g : XG) (v seat k d ss : Nat) (τ : XS) : Prop := KX em A g τ ∧ TabA A (dst A v seat k d) (A.2 8) τ 2 ∧ ss ≤ d ∧ (∀ i, ss ≤ i → i ≤ d → ∀ h, (dst A v seat k i h = 0 ↔ dst A v seat k d h = 0)) ∧ ∀ i, ss ≤ i → i < d → d ≤ i + A.1 0 → ∀ h, h < A.1 0 → xR τ (arow (nI (i % A.1 0))) h = nI (dml A v seat k (dst A v seat k i) i h)
theorem mod_ne {i d n : Nat} (h1 : i < d) (h2 : d < i + n) : i % n ≠ d % n := by
  intro e
  have a := Nat.div_add_mod i n
  have b := Nat.div_add_mod d n
  rw [e] at a
  have c : i / n ≤ d / n := Nat.div_le_div_right (by omega)
  rcases Nat.lt_or_ge (i / n) (d / n) with q | q
  · have : n * (i / n + 1) ≤ n * (d / n) := Nat.mul_le_mul_left _ q
    rw [Nat.mul_add, Nat.mul_one] at this
    omega
  · have : i / n = d / n := by omega
    rw [this] at a
    omega
theorem x_J100 {v : Fin (nV g)} {hit : Nat → Bool} {x6 : Int32} {days m d ss : Nat} {τ : XS} {P : Int32 → XS → Prop} {k28 : XS → Fin (nV g) → Int32 → Int32 → Int32 → Int32 → Int32 → Int32 → Int32 → Prop} (hA : WFA A) (hv : v.val < A.1 12) (h1 : 1 ≤ A.1 0) (hd : d < 60) (hx : ∀ b, b < 1024 → ((nI b &&& x6 = 0) ↔ hit b = false)) (h : DlI em A g v.val seat k d ss τ) (hr : ∀ h, h < A.1 0 → xR τ (arow (nI (d % A.1 0))) h = nI (dml A v.val seat k (dst A v.val seat k d) d h))
    (hn : ∀ ss' τ', DlI em A g v.val seat k (d + 1) ss' τ' → ss' ≤ d + 1 → hit (dbt A v.val seat k d) = false → k28 τ' v (nI k) (nI days) x6 (nI (A.1 0)) (nI (dso (A.1 0) (A.2 13 v.val) seat (d + 1))) (nI ss') (nI (d + 1))) (hP : ∀ τ', KX em A g τ' → hit (dbt A v.val seat k d) = true → P (nI (d + 1)) τ') : qX0_dayOfLoss_J100 g k28 P τ v (nI k) (nI days) x6 (nI (A.1 0)) (nI (dso (A.1 0) (A.2 13 v.val) seat d)) (nI ss) (nI d) (arow (nI (d % A.1 0))) := by
  obtain ⟨hX, hT, hss, hal, hrw⟩ := h
  have h10 := hA.1.1
  have w := hA.2.1.2 _ hv
  have hb := dbt_lt (v := v.val) (seat := seat) (k := k) hA.1 (d := d)
  unfold qX0_dayOfLoss_J100
  refine x_end (ml := dml A v.val seat k (dst A v.val seat k d) d) hA.1 hX.1 hT hr (dst_le hA.1 d) (fun i _ => dml_le hA.1 w h1 i) (fun τ2 f2 r2 hT2 => ?_)
  have hX2 := hX.frT f2
  have eb : db (A.1 0) (dst A v.val seat k d) (dml A v.val seat k (dst A v.val seat k d) d) (A.2 3) (A.1 0) = dbt A v.val seat k d := rfl
  rw [eb]
  have l0 : (nI (dbt A v.val seat k d) = 0) ↔ dbt A v.val seat k d = 0 := nI_eq (b := 0) (by omega) (by decide)
  cases q : hit (dbt A v.val seat k d)
  · rw [if_pos ((hx _ hb).mpr q), bnd_eq, nI_1, (hX.1.2.2.2.1 v).1]
    refine x_onwS hX.1.1 h1 h10 w.1 (dso_lt h1) ?_
    rw [dso_s, bnd_eq]
    by_cases z : dbt A v.val seat k d = 0
    · rw [if_pos (l0.mpr z)]
      have al : ∀ h, dst A v.val seat k (d + 1) h = 0 ↔ dst A v.val seat k d h = 0 := fun h => by
        rw [dst_s]; exact de_alive z h
      refine hn ss τ2 ⟨hX2, hT2, by omega, fun i a b h => ?_, fun i a b c h hh => ?_⟩ (by omega) q
      · rw [al]
        by_cases y : i = d + 1
        · rw [y]; exact al h
        · exact hal i a (by omega) h
      · rw [r2]
        by_cases y : i = d
        · rw [y]; exact hr h hh
        · exact hrw i a (by omega) (by omega) h hh
    · rw [if_neg (fun y => z (l0.mp y))]
      refine hn (d + 1) τ2 ⟨hX2, hT2, Nat.le_refl _, fun i a b h => ?_, fun i a b => by omega⟩ (Nat.le_refl _) q
      rw [show i = d + 1 by omega]
  · rw [if_neg (fun y => by rw [(hx _ hb).mp y] at q; exact absurd q (by decide)), nI_1]
    exact hP τ2 hX2 q
theorem x_loss_L {v : Fin (nV g)} {hit : Nat → Bool} {x6 : Int32} {days : Nat} {P : Int32 → XS → Prop} (hA : WFA A) (hv : v.val < A.1 12) (h1 : 1 ≤ A.1 0) (hd : days ≤ 60) (hk : k ≤ 10) (hx : ∀ b, b < 1024 → ((nI b &&& x6 = 0) ↔ hit b = false)) : ∀ (m d ss : Nat) (τ : XS), d + m = days → DlI em A g v.val seat k d ss τ → (∀ τ, KX em A g τ → P (lres (dls hit A v.val seat k m d)) τ) → qX0_dayOfLoss_L28 g P (m + 1) τ v (nI k) (nI days) x6 (nI (A.1 0)) (nI (dso (A.1 0) (A.2 13 v.val) seat d)) (nI ss) (nI d)
  | 0, d, ss, τ, e, h, hP => by
    have e0 : d = days := by omega
    subst e0
    rw [qX0_dayOfLoss_L28, if_pos (Int32.le_refl _)]; exact hP τ h.1
  | m + 1, d, ss, τ, e, h, hP => by
    have h10 := hA.1.1
    have w := hA.2.1.2 _ hv
    have hss := h.2.2.1
    have hr : d % A.1 0 < A.1 0 := Nat.mod_lt _ h1
    rw [dls_s] at hP
    rw [qX0_dayOfLoss_L28, if_neg (nI_ge (by omega) (by omega)), if_neg (nI_nle (by omega) (by omega)), jremN (by omega) (by omega) (by omega), pk_sub hss]
    refine ⟨nI_ne0 (by omega) (by omega), vp_in_nI (by omega) (by decide), ?_⟩
    have nxt : ∀ ss' τ', DlI em A g v.val seat k (d + 1) ss' τ' → ss' ≤ d + 1 → hit (dbt A v.val seat k d) = false → (fun z0 z1 z2 z3 z4 z5 z6 z7 z8 => qX0_dayOfLoss_L28 g P (m + 1) z0 z1 z2 z3 z4 z5 z6 z7 z8) τ' v (nI k) (nI days) x6 (nI (A.1 0)) (nI (dso (A.1 0) (A.2 13 v.val) seat (d + 1))) (nI ss') (nI (d + 1)) := fun ss' τ' hD _ q => by
      rw [if_neg (by rw [q]; decide)] at hP
      exact x_loss_L hA hv h1 hd hk hx m (d + 1) ss' τ' (by omega) hD hP
    have stp : ∀ τ', KX em A g τ' → hit (dbt A v.val seat k d) = true → P (nI (d + 1)) τ' := fun τ' hX' q => by
      rw [if_pos q] at hP; exact hP τ' hX'
    by_cases c : A.1 0 ≤ d - ss
    · rw [if_pos (nI_le c (by omega))]
      refine x_J100 (m := m) hA hv h1 (by omega) hx h (fun i hi => ?_) nxt stp
      have r := h.2.2.2.2 (d - A.1 0) (by omega) (by omega) (by omega) i hi
      have em' : (d - A.1 0) % A.1 0 = d % A.1 0 := by
        have := Nat.add_mod_right (d - A.1 0) (A.1 0)
        rw [show d - A.1 0 + A.1 0 = d by omega] at this
        exact this.symm
      rw [em'] at r
      have ep := dml_per (A := A) (v := v.val) (seat := seat) (k := k) (d := d - A.1 0) (h.2.2.2.1 (d - A.1 0) (by omega) (by omega))
      rw [show d - A.1 0 + A.1 0 = d by omega] at ep
      rw [r, ep]
    · rw [if_neg (nI_ge (by omega) (by omega))]
      have hT := h.2.1
      have hfs := dfs_ok (k := k) hA.1 h1 (d := d) (i := k)
      have eH : nI (nH g) = nI (A.1 0) := congrArg nI h.1.1.1
      unfold qX0_fastersOf
      rw [bnd_eq, eH]
      refine ⟨_, x_fas_L hA.1 h1 (fun s hs => ?_) (by omega) hk ?_ k 0 (by omega)⟩
      · have := hT.2.1 s (by omega)
        rw [if_pos hs] at this; exact this
      refine x_wholeDay hA.1 w (by omega) (dst_le hA.1 d) h.1.1 hT (dso_lt h1) (fun D hD => ?_)
      rw [bnd_eq]
      have eD : ∀ i, i < A.1 0 → xR (xov D (D.1 41) (zleft D) 601 (xbeg τ 2)) 0 i = nI (dml A v.val seat k (dst A v.val seat k d) d i) := fun i hi => by
        show ovA (D.2 45) 10 _ i = _
        rw [ovA_lt (by omega), hD]; rfl
      have h2 : DlI em A g v.val seat k d ss (xpR (xov D (D.1 41) (zleft D) 601 (xbeg τ 2)) (arow (nI (d % A.1 0))) (va_cpy (xR (xov D (D.1 41) (zleft D) 601 (xbeg τ 2)) 0) (xR (xov D (D.1 41) (zleft D) 601 (xbeg τ 2)) (arow (nI (d % A.1 0)))) 0 0 10)) := by
        refine ⟨h.1, hT, hss, h.2.2.2.1, fun i a b b2 j hj => ?_⟩
        have ne : i % A.1 0 ≠ d % A.1 0 := mod_ne b (by omega)
        have hi : i % A.1 0 < A.1 0 := Nat.mod_lt _ h1
        show fup (xR (xov D (D.1 41) (zleft D) 601 (xbeg τ 2))) _ _ (arow (nI (i % A.1 0))) j = _
        rw [fup_ne _ _ (arow_ne _ (by omega) _ (by omega) ne)]
        show xo3 D (xbeg τ 2) (arow (nI (i % A.1 0))) j = _
        unfold xo3
        rw [if_neg (arow_0 _ (by omega))]
        exact h.2.2.2.2 i a b b2 j hj
      refine x_J100 (m := m) hA hv h1 (by omega) hx h2 (fun i hi => ?_) nxt stp
      show fup (xR (xov D (D.1 41) (zleft D) 601 (xbeg τ 2))) _ _ (arow (nI (d % A.1 0))) i = _
      rw [fup_self, sb_cpy0 (by omega)]
      exact eD i hi
theorem x_loss {σ : XS} {v : Fin (nV g)} {hit : Nat → Bool} {x6 : Int32} {days : Nat} {P : Int32 → XS → Prop} (hA : WFA A) (hX : KX em A g σ) (hv : v.val < A.1 12) (hs : seat < A.1 0) (hd : days ≤ 60) (hk : k ≤ 10) (hx : ∀ b, b < 1024 → ((nI b &&& x6 = 0) ↔ hit b = false)) (hP : ∀ τ, KX em A g τ → P (lres (dls hit A v.val seat k days 0)) τ) : qX0_dayOfLoss g σ 0 v (nI seat) (nI k) (nI days) x6 P := by
  have eH : nI (nH g) = nI (A.1 0) := congrArg nI hX.1.1
  unfold qX0_dayOfLoss
  rw [bnd_eq, eH]
  refine x_trial hA hX (fun τ hτ _ hT => ?_)
  have go := x_loss_L (P := P) hA hv (by omega) hd hk hx days 0 0 τ (by omega) ⟨hτ, hT, Nat.le_refl _, fun i _ b h => by rw [show i = 0 by omega], fun i _ b => absurd b (Nat.not_lt_zero _)⟩ hP
  rw [dso_0 hs] at go
  exact ⟨_, go⟩
theorem bit_and {b h : Nat} (hb : b < 1024) (hh : h < 10) : (nI b &&& jshl 1 (nI h) = 0) ↔ b.testBit h = false := by
  rw [shl1 h (by omega)]
  have e : nI b &&& nI (2 ^ h) = nI (b &&& 2 ^ h) := by
    apply Int32.toBitVec_inj.mp
    show BitVec.ofNat 32 b &&& BitVec.ofNat 32 (2 ^ h) = BitVec.ofNat 32 (b &&& 2 ^ h)
    apply BitVec.eq_of_getLsbD_eq
    intro i hi
    simp [BitVec.getLsbD_ofNat, Nat.testBit_and, hi]
  have lt : b &&& 2 ^ h ≤ b := Nat.and_le_left
  rw [e, show (0 : Int32) = nI 0 from rfl, nI_eq (by omega) (by decide)]
  constructor
  · intro z
    have := congrArg (fun x => Nat.testBit x h) z
    simp only [Nat.testBit_and, Nat.testBit_two_pow_self, Nat.zero_testBit, Bool.and_true] at this
    exact this
  · intro z
    apply Nat.eq_of_testBit_eq
    intro i
    rw [Nat.testBit_and, Nat.zero_testBit, Nat.testBit_two_pow]
    by_cases q : h = i
    · rw [← q, z]; rfl
    · simp [q]
theorem all_and {b : Nat} (hb : b < 1024) : (nI b &&& 1023 = 0) ↔ (!(b == 0)) = false := by
  rw [pk_andN (by omega) 10 (m := 1023) rfl, Nat.mod_eq_of_lt (by omega), show (0 : Int32) = nI 0 from rfl, nI_eq (by omega) (by decide)]
  simp
theorem ok_starves {σ : XS} {μ : MS} {a0 a1 a2 : Int32} (hK : KK em g σ μ) : qX10_starves g σ a0 a1 a2 (fun r σ1 => qX11_starves μ a0 a1 a2 (fun r2 μ1 => r = r2 ∧ KK em g σ1 μ1)) := by
  obtain ⟨A, hA, hX, hM⟩ := hK
  have fin := KK.mk hA hX hM
  have h10 := hA.1.1
  unfold qX10_starves
  refine x_vowK hA hX.1 (fun v hv e => ?_) (fun h => ?_)
  · subst e
    refine x_seatK hA.1 hX.1 (fun s => ?_) (fun s => ?_)
    · have md : ∀ {Y N : MS → Prop}, Y μ → qX11_isDay μ (nI v.val) a1 (fun r σ_1 => if r = 0 then N σ_1 else Y σ_1) := fun {Y N} y => m_dayK hA hM (fun _ _ => y) (fun z => absurd ⟨⟨_, hv, rfl⟩, s⟩ z)
      refine x_hermK hA.1 hX.1 (fun w => ?_) (fun w => ?_)
      · obtain ⟨seat, hs, rfl⟩ := s
        obtain ⟨h, hh, rfl⟩ := w
        have hst := hA.1.2.2.2.2.1 h hh
        have hin : vp_in (nI h) 10 := vp_in_nI (by omega) (by decide)
        refine ⟨hin, ?_⟩
        rw [xgTN (by omega), hX.2.1.1 h hh]
        have mm : ∀ P : Int32 → MS → Prop, (if 0 ≤ sI (A.2 6 h) then (qX11_useVow μ (nI v.val) fun σ_6 => qX11_useStores σ_6 fun σ_7 => ∃ f46, qX11_starves_L46 P f46 σ_7 (nI h) (nI seat) 1) else P 0 μ) → qX11_starves μ (nI v.val) (nI seat) (nI h) P := fun P q => by
          refine md ?_
          refine m_hermK hA.1 hM.1 (fun _ => ⟨hin, ?_⟩) (fun z => absurd ⟨_, hh, rfl⟩ z)
          rw [mgN (by omega), hM.1.2.2.2.2.1 h hh]; exact q
        by_cases z : A.2 6 h = 0
        · rw [if_pos ((sI_m1 hst).mpr z)]
          dsimp only
          rw [if_neg (by decide)]
          refine mm _ ?_
          rw [if_neg (fun q => (sI_ge hst).mp q z)]
          exact ⟨rfl, fin⟩
        · rw [if_neg (fun q => z ((sI_m1 hst).mp q))]
          dsimp only
          rw [if_pos (by decide)]
          refine x_loss (k := 0) (days := 60) (hit := fun b => b.testBit h) hA hX hv hs (by decide) (by decide) (fun b hb => bit_and hb (by omega)) (fun τ hτ => ?_)
          refine mm _ ?_
          rw [if_pos ((sI_ge hst).mpr z)]
          refine m_useVow hA hM.2.1 hv (m_useStores ?_)
          have fr : FrM μ (usK (uv A v.val μ) 10) := uv_fr.trans usK_fr
          have go := m_starves_L (seat := seat) (h := h) hA hv hh 60 0 (usK (uv A v.val μ) 10) rfl (hM.fr fr) (us_UM hA hM hv) (P := fun r2 μ1 => lres (dls (fun b => b.testBit h) A v.val seat 0 60 0) = r2 ∧ KK em g τ μ1) (fun τ2 h2 => ⟨rfl, KK.mk hA hτ h2⟩)
          rw [dso_0 hs] at go
          exact ⟨_, go⟩
      · refine md ?_
        exact m_hermK hA.1 hM.1 (fun z => absurd z w) (fun _ => ⟨rfl, fin⟩)
    · exact m_dayK hA hM (fun _ z => absurd z s) (fun _ => ⟨rfl, fin⟩)
  · exact m_dayK hA hM (fun z _ => absurd z h) (fun _ => ⟨rfl, fin⟩)
/- fasting -/
def fst (A : AS) (v seat days : Nat) : Nat → Nat → Int32
  | 0, _ => -1
  | m + 1, k => if dls (fun b => !(b == 0)) A v seat k days 0 = none then nI k else fst A v seat days m (k + 1)
theorem fst_s (A : AS) (v seat days m k : Nat) : fst A v seat days (m + 1) k = if dls (fun b => !(b == 0)) A v seat k days 0 = none then nI k else fst A v seat days m (k + 1) := rfl
theorem x_fst_L {v : Fin (nV g)} {days : Nat} {P : Int32 → XS → Prop} (hA : WFA A) (hv : v.val < A.1 12) (hs : seat < A.1 0) (hd : days ≤ 30) : ∀ (m k : Nat) (τ : XS), k + m = A.1 0 → KX em A g τ → (∀ τ, KX em A g τ → P (fst A v.val seat days m k) τ) → qX10_fasting_L39 g P (m + 1) τ (nI seat) (nI days) v (nI k)
  | 0, k, τ, e, hX, hP => by
    have h10 := hA.1.1
    rw [qX10_fasting_L39, hX.1.1, if_pos (nI_le (by omega) (by omega))]; exact hP τ hX
  | m + 1, k, τ, e, hX, hP => by
    have h10 := hA.1.1
    rw [qX10_fasting_L39, hX.1.1, if_neg (nI_ge (by omega) (by omega))]
    refine x_loss (hit := fun b => !(b == 0)) hA hX hv hs (by omega) (by omega) (fun b hb => all_and hb) (fun τ2 h2 => ?_)
    rw [fst_s] at hP
    cases q : dls (fun b => !(b == 0)) A v.val seat k days 0 with
    | none =>
      rw [if_pos q] at hP
      rw [if_pos (show lres none = -1 from rfl)]; exact hP τ2 h2
    | some d =>
      rw [if_neg (by rw [q]; simp)] at hP
      have hb : ∀ (m d0 d : Nat), dls (fun b => !(b == 0)) A v.val seat k m d0 = some d → d < d0 + m := by
        intro m
        induction m with
        | zero => intro d0 d z; simp [dls] at z
        | succ m ih =>
          intro d0 d z
          rw [dls_s] at z
          split at z
          · injection z with z; omega
          · have := ih _ _ z; omega
      have hlt := hb days 0 d q
      rw [if_neg (show ¬ lres (some d) = -1 from nI_nm1 (by omega)), bnd_eq, nI_1]
      exact x_fst_L hA hv hs hd m (k + 1) τ2 (by omega) h2 hP
theorem m_fst_L {v : Nat} {days : Nat} {P : Int32 → MS → Prop} (hA : WFA A) (hv : v < A.1 12) (hs : seat < A.1 0) (hd : days ≤ 30) : ∀ (m k : Nat) (τ : MS), k + m = A.1 0 → KM A τ → (∀ τ, KM A τ → P (fst A v seat days m k) τ) → qX11_fasting_L28 P (m + 1) τ (nI v) (nI seat) (nI days) (nI k)
  | 0, k, τ, e, hM, hP => by
    have h10 := hA.1.1
    rw [qX11_fasting_L28, hM.1.1, if_pos (nI_le (by omega) (by omega))]; exact hP τ hM
  | m + 1, k, τ, e, hM, hP => by
    have h10 := hA.1.1
    rw [qX11_fasting_L28, hM.1.1, if_neg (nI_ge (by omega) (by omega))]
    unfold qX11_areFed
    refine m_useVow hA hM.2.1 hv (m_useStores ?_)
    have fr : FrM τ (usK (uv A v τ) 10) := uv_fr.trans usK_fr
    rw [fst_s] at hP
    have go := m_fed_L (seat := seat) (k := k) (P := fun r_2 σ_1 => (if r_2 = 0 then (bnd (nI k + 1) fun x4_3 => qX11_fasting_L28 P (m + 1) σ_1 (nI v) (nI seat) (nI days) x4_3) else (P (nI k) σ_1))) hA hv (by omega) hd (by omega) days 0 0 (usK (uv A v τ) 10) (by omega) (hM.fr fr) (us_UM hA hM hv) (fun τ2 h2 => ?_)
    · rw [dso_0 hs] at go
      exact ⟨_, go⟩
    · by_cases q : dls (fun b => !(b == 0)) A v seat k days 0 = none
      · rw [if_pos q] at hP
        rw [if_pos q, if_neg (by decide)]; exact hP τ2 h2
      · rw [if_neg q] at hP
        rw [if_neg q, if_pos rfl, bnd_eq, nI_1]
        exact m_fst_L hA hv hs hd m (k + 1) τ2 (by omega) h2 hP
theorem ok_fasting {σ : XS} {μ : MS} {a0 a1 a2 : Int32} (hK : KK em g σ μ) : qX10_fasting g σ a0 a1 a2 (fun r σ1 => qX11_fasting μ a0 a1 a2 (fun r2 μ1 => r = r2 ∧ KK em g σ1 μ1)) := by
  obtain ⟨A, hA, hX, hM⟩ := hK
  have fin := KK.mk hA hX hM
  unfold qX10_fasting
  refine x_vowK hA hX.1 (fun v hv e => ?_) (fun h => ?_)
  · subst e
    refine x_seatK hA.1 hX.1 (fun s => ?_) (fun s => ?_)
    · have md : ∀ {Y N : MS → Prop}, Y μ → qX11_isDay μ (nI v.val) a1 (fun r σ_1 => if r = 0 then N σ_1 else Y σ_1) := fun {Y N} y => m_dayK hA hM (fun _ _ => y) (fun z => absurd ⟨⟨_, hv, rfl⟩, s⟩ z)
      refine x_withinK (lo := 1) (hi := 30) (by decide) (by decide) (fun w => ?_) (fun w => ?_)
      · obtain ⟨seat, hs, rfl⟩ := s
        obtain ⟨days, d1, d2, rfl⟩ := w
        refine ⟨_, x_fst_L hA hv hs d2 (A.1 0) 0 σ (by omega) hX (fun τ hτ => ?_)⟩
        refine md ?_
        refine m_withinK (lo := 1) (hi := 30) (by decide) (by decide) (fun _ => ?_) (fun z => absurd ⟨days, d1, d2, rfl⟩ z)
        exact ⟨_, m_fst_L hA hv hs d2 (A.1 0) 0 μ (by omega) hM (fun τ2 h2 => ⟨rfl, KK.mk hA hτ h2⟩)⟩
      · refine md ?_
        exact m_withinK (lo := 1) (hi := 30) (by decide) (by decide) (fun z => absurd z w) (fun _ => ⟨rfl, fin⟩)
    · exact m_dayK hA hM (fun _ z => absurd z s) (fun _ => ⟨rfl, fin⟩)
  · exact m_dayK hA hM (fun z _ => absurd z h) (fun _ => ⟨rfl, fin⟩)
end
