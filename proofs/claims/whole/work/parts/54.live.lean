/-! a day's end; live() -/
def dfull (st ml : Nat → Nat) (k : Nat) : Nat := if st k - 1 + ml k ≤ 99 then st k - 1 + ml k else 99
/-- a store behind the day (and 1; 0: starved) -/
def de (n : Nat) (st ml nd : Nat → Nat) : Nat → Nat := fun k => if k < n then (if st k = 0 then 0 else if nd k ≤ dfull st ml k then dfull st ml k - nd k + 1 else 0) else st k
/-- who starved that day -/
def db (n : Nat) (st ml nd : Nat → Nat) : Nat → Nat
  | 0 => 0
  | k + 1 => if ¬ st k = 0 ∧ de n st ml nd k = 0 then db n st ml nd k ||| 2 ^ k else db n st ml nd k
theorem db_s (n : Nat) (st ml nd : Nat → Nat) (k : Nat) : db n st ml nd (k + 1) = if ¬ st k = 0 ∧ de n st ml nd k = 0 then db n st ml nd k ||| 2 ^ k else db n st ml nd k := rfl
theorem dfull_le (st ml : Nat → Nat) (k : Nat) : dfull st ml k ≤ 99 := by unfold dfull; split <;> omega
theorem de_le {n : Nat} {st ml nd : Nat → Nat} (hst : ∀ k, k < n → st k ≤ 100) : ∀ k, k < n → de n st ml nd k ≤ 100 := fun k hk => by
  unfold de
  have := dfull_le st ml k
  rw [if_pos hk]
  (repeat' split) <;> omega
theorem db_lt (n : Nat) (st ml nd : Nat → Nat) : ∀ k, db n st ml nd k < 2 ^ k
  | 0 => by show 0 < 2 ^ 0; decide
  | k + 1 => by
    have ih := db_lt n st ml nd k
    have e : 2 ^ (k + 1) = 2 * 2 ^ k := by rw [Nat.pow_succ]; omega
    rw [db_s]
    split
    · exact Nat.or_lt_two_pow (by omega) (by omega)
    · omega
section
variable {A : AS} {em : Nat} {g : XG} {st ml nd : Nat → Nat}
def DgI (n : Nat) (st ml nd : Nat → Nat) (μ : MS) (k : Nat) (τ : MS) : Prop := τ.1 = μ.1 ∧ τ.2.2 = μ.2.2 ∧ (∀ j, j ≠ 38 → τ.2.1 j = μ.2.1 j) ∧ ∀ i, i < n → τ.2.1 38 i = sI (if i < k then de n st ml nd i else st i)
theorem or0 (b : Nat) : nI b ||| 0 = nI b := by
  rw [show (0 : Int32) = nI 0 from rfl, nx_or, Nat.or_zero]
theorem m_dig_L {n : Nat} {μ : MS} {P : Int32 → MS → Prop} (hn : n ≤ 10) (h0 : μ.1 0 = nI n) (h45 : ∀ k, k < n → μ.2.1 45 k = nI (ml k)) (h3 : ∀ k, k < n → μ.2.1 3 k = nI (nd k)) (hst : ∀ k, k < n → st k ≤ 100) (hml : ∀ k, ml k ≤ 2475) (hnd : ∀ k, k < n → nd k ≤ 99) (hP : ∀ τ, DgI n st ml nd μ n τ → P (nI (db n st ml nd n)) τ) : ∀ (j k : Nat) (τ : MS), k + j = n → DgI n st ml nd μ k τ → qX11_digestDay_L4 P (j + 1) τ (nI (db n st ml nd k)) (nI k)
  | 0, k, τ, e, h => by
    have e0 : k = n := by omega
    subst e0
    rw [qX11_digestDay_L4, h.1, h0, if_pos (Int32.le_refl _)]; exact hP τ h
  | j + 1, k, τ, e, h => by
    have hk : k < n := by omega
    have hin : vp_in (nI k) 10 := vp_in_nI (by omega) (by decide)
    have e38 : τ.2.1 38 k = sI (st k) := by
      have := h.2.2.2 k hk
      rw [if_neg (Nat.lt_irrefl _)] at this; exact this
    have e45 : mgeta τ 45 (nI k) = nI (ml k) := by rw [mgN (by omega), h.2.2.1 45 (by decide)]; exact h45 k hk
    have e3 : mgeta τ 3 (nI k) = nI (nd k) := by rw [mgN (by omega), h.2.2.1 3 (by decide)]; exact h3 k hk
    have hs := hst k hk
    have hm := hml k
    have hd := hnd k hk
    rw [qX11_digestDay_L4, h.1, h0, if_neg (nI_ge hk (by omega))]
    refine ⟨hin, ?_⟩
    rw [mgN (by omega), e38, e45]
    have ih := fun τ' hτ' => m_dig_L (P := P) hn h0 h45 h3 hst hml hnd hP j (k + 1) τ' (by omega) hτ'
    have hde : de n st ml nd k = if st k = 0 then 0 else if nd k ≤ dfull st ml k then dfull st ml k - nd k + 1 else 0 := by unfold de; rw [if_pos hk]
    by_cases z : st k = 0
    · rw [if_pos ((sI_neg hs).mpr z)]
      unfold qX11_digestDay_J105
      rw [bnd_eq, nI_1]
      have h2 := ih τ ⟨h.1, h.2.1, h.2.2.1, fun i hi => ?_⟩
      · rw [db_s, if_neg (fun q => q.1 z)] at h2; exact h2
      · rw [h.2.2.2 i hi]
        by_cases c : i = k
        · rw [c, if_neg (Nat.lt_irrefl _), if_pos (by omega), hde, if_pos z, z]
        · by_cases c2 : i < k
          · rw [if_pos c2, if_pos (by omega)]
          · rw [if_neg c2, if_neg (by omega)]
    · rw [if_neg (fun q => z ((sI_neg hs).mp q)), sI_pos (by omega), nI_add]
      -- the full store
      have full : ∀ Q : Int32 → Prop, Q (nI (dfull st ml k)) → (if nI (st k - 1 + ml k) ≤ 99 then Q (nI (st k - 1 + ml k)) else Q 99) := by
        intro Q hQ
        have l99 : (nI (st k - 1 + ml k) ≤ 99) ↔ st k - 1 + ml k ≤ 99 := nI_leI (b := 99) (by omega) (by decide)
        unfold dfull at hQ
        by_cases c : st k - 1 + ml k ≤ 99
        · rw [if_pos (l99.mpr c)]; rw [if_pos c] at hQ; exact hQ
        · rw [if_neg (fun q => c (l99.mp q))]; rw [if_neg c] at hQ; exact hQ
      have hf := dfull_le st ml k
      refine full (fun y0 => qX11_digestDay_J57 (fun z0 z1 z2 => qX11_digestDay_L4 P (j + 1) z0 z1 z2) P τ (nI (db n st ml nd k)) (nI k) y0) ?_
      unfold qX11_digestDay_J57 qX11_digestDay_J85 qX11_digestDay_J105
      refine ⟨hin, ?_⟩
      rw [e3]
      have put : ∀ (a : Int32) (b : Nat), a = sI (de n st ml nd k) → b = db n st ml nd (k + 1) → qX11_digestDay_L4 P (j + 1) (mseta τ 38 (nI k) a) (nI b) (nI (k + 1)) := by
        intro a b ea eb
        rw [eb]
        refine ih _ ⟨h.1, h.2.1, fun i q => ?_, fun i hi => ?_⟩
        · rw [mst_ne q]; exact h.2.2.1 i q
        · rw [mst_at (by omega)]
          by_cases c : i = k
          · rw [c, pk_us, if_pos (by omega), ea]
          · rw [pk_un c, h.2.2.2 i hi]
            by_cases c2 : i < k
            · rw [if_pos c2, if_pos (by omega)]
            · rw [if_neg c2, if_neg (by omega)]
      rw [if_neg z] at hde
      by_cases c : nd k ≤ dfull st ml k
      · rw [if_pos (nI_le c (by omega)), pk_sub c]
        rw [if_pos c] at hde
        have e2 : mgeta (mseta τ 38 (nI k) (nI (dfull st ml k - nd k))) 38 (nI k) = nI (dfull st ml k - nd k) := by
          rw [mgN (by omega), mst_at (by omega), pk_us]
        refine ⟨hin, ?_⟩
        rw [bnd_eq]
        refine ⟨hin, ?_⟩
        rw [bnd_eq, bnd_eq, bnd_eq, e2, if_pos (nI_pos' (by omega)), or0, nI_1]
        refine put _ _ ?_ ?_
        · rw [hde, sI_succ]
        · rw [db_s, if_neg (fun q => by rw [hde] at q; omega)]
      · rw [if_neg (nI_ge (by omega) (by omega))]
        rw [if_neg c] at hde
        have e2 : mgeta (mseta τ 38 (nI k) (-1)) 38 (nI k) = -1 := by
          rw [mgN (by omega), mst_at (by omega), pk_us]
        refine ⟨hin, ?_⟩
        rw [bnd_eq]
        refine ⟨hin, ?_⟩
        rw [bnd_eq, bnd_eq, bnd_eq, e2, if_neg (by decide), shl1 k (by omega), nx_or, nI_1]
        refine put _ _ ?_ ?_
        · rw [hde]; rfl
        · rw [db_s, if_pos ⟨z, hde⟩]
/-- the component's -/
def EdI (n : Nat) (st ml nd : Nat → Nat) (u : Fin 3) (σ : XS) (k : Nat) (τ : XS) : Prop := FrT u σ τ ∧ xR τ = xR σ ∧ xTI τ u = xTI σ u ∧ xTB τ u 1 = xTB σ u 1 ∧ xTB τ u 2 = xTB σ u 2 ∧ ∀ i, i < n → xTB τ u 0 i = sI (if i < k then de n st ml nd i else st i)
theorem x_end_L {σ : XS} {u : Fin 3} {c : Fin 11} {P : Int32 → XS → Prop} (hA : Tok A) (hG : KXg em A g) (h45 : ∀ k, k < A.1 0 → xR σ c k = nI (ml k)) (hst : ∀ k, k < A.1 0 → st k ≤ 100) (hml : ∀ k, k < A.1 0 → ml k ≤ 2475) (hP : ∀ τ, EdI (A.1 0) st ml (A.2 3) u σ (A.1 0) τ → P (nI (db (A.1 0) st ml (A.2 3) (A.1 0))) τ) : ∀ (j k : Nat) (τ : XS), k + j = A.1 0 → EdI (A.1 0) st ml (A.2 3) u σ k τ → qX8_endDay_L4 g P (j + 1) τ u c (nI (db (A.1 0) st ml (A.2 3) k)) (nI k)
  | 0, k, τ, e, h => by
    have e0 : k = A.1 0 := by omega
    subst e0
    have eH : nI (nH g) = nI (A.1 0) := congrArg nI hG.1
    rw [qX8_endDay_L4, eH, if_pos (Int32.le_refl _)]; exact hP τ h
  | j + 1, k, τ, e, h => by
    have hk : k < A.1 0 := by omega
    have hn := hA.1
    have hg := hG.1
    have eH : nI (nH g) = nI (A.1 0) := congrArg nI hG.1
    have hin : vp_in (nI k) 10 := vp_in_nI (by omega) (by decide)
    have e38 : xTB τ u 0 k = sI (st k) := by
      have := h.2.2.2.2.2 k hk
      rw [if_neg (Nat.lt_irrefl _)] at this; exact this
    have e45 : xgR τ c (nI k) = nI (ml k) := by
      show xR τ c (nI k).toNatClampNeg = _
      rw [nI_clamp (by omega), h.2.1]; exact h45 k hk
    have hs := hst k hk
    have hm := hml k hk
    have hd := (hA.2.2.2.1 k hk).2.2.2.1
    rw [qX8_endDay_L4, eH, if_neg (nI_ge hk (by omega))]
    refine ⟨hin, ?_⟩
    rw [xgTN (by omega), e38]
    have ih := fun τ' hτ' => x_end_L (P := P) hA hG h45 hst hml hP j (k + 1) τ' (by omega) hτ'
    have hde : de (A.1 0) st ml (A.2 3) k = if st k = 0 then 0 else if A.2 3 k ≤ dfull st ml k then dfull st ml k - A.2 3 k + 1 else 0 := by unfold de; rw [if_pos hk]
    by_cases z : st k = 0
    · rw [if_pos ((sI_m1 hs).mpr z)]
      dsimp only
      rw [if_neg (by decide)]
      unfold qX8_endDay_J86
      rw [bnd_eq, nI_1]
      have h2 := ih τ ⟨h.1, h.2.1, h.2.2.1, h.2.2.2.1, h.2.2.2.2.1, fun i hi => ?_⟩
      · rw [db_s, if_neg (fun q => q.1 z)] at h2; exact h2
      · rw [h.2.2.2.2.2 i hi]
        by_cases c : i = k
        · rw [c, if_neg (Nat.lt_irrefl _), if_pos (by omega), hde, if_pos z, z]
        · by_cases c2 : i < k
          · rw [if_pos c2, if_pos (by omega)]
          · rw [if_neg c2, if_neg (by omega)]
    · rw [if_neg (fun q => z ((sI_m1 hs).mp q))]
      dsimp only
      rw [if_pos (by decide)]
      refine ⟨hin, ?_⟩
      have hf := dfull_le st ml k
      have full : (if 99 < nI (st k - 1 + ml k) then 99 else nI (st k - 1 + ml k) : Int32) = nI (dfull st ml k) := by
        have l99 : (99 < nI (st k - 1 + ml k)) ↔ 99 < st k - 1 + ml k := nI_ltI (a := 99) (by decide) (by omega)
        unfold dfull
        by_cases c : st k - 1 + ml k ≤ 99
        · rw [if_neg (fun q => by have := l99.mp q; omega), if_pos c]
        · rw [if_pos (l99.mpr (by omega)), if_neg c]; rfl
      rw [xgTN (by omega), e38, e45, sI_pos (by omega), nI_add, full, bnd_eq]
      refine ⟨vp_in_nI (by omega) (by omega), fun i hi => ?_⟩
      have ei : i.val = k := by rw [hi, nI_clamp (by omega)]
      have e3 : hF1 g i = nI (A.2 3 k) := by rw [← ei]; exact (hG.2.2.1 i).2.2.1
      rw [e3, bnd_eq]
      have put : ∀ (a : Int32) (b : Nat), a = sI (de (A.1 0) st ml (A.2 3) k) → b = db (A.1 0) st ml (A.2 3) (k + 1) → qX8_endDay_L4 g P (j + 1) (xsTB τ u 0 (nI k) a) u c (nI b) (nI (k + 1)) := by
        intro a b ea eb
        rw [eb]
        refine ih _ ⟨h.1.trans xsTB_fr, h.2.1, h.2.2.1, ?_, ?_, fun i hi => ?_⟩
        · rw [xsTB_ne (by decide)]; exact h.2.2.2.1
        · rw [xsTB_ne (by decide)]; exact h.2.2.2.2.1
        · rw [xsTB_at (by omega)]
          by_cases c : i = k
          · rw [c, pk_us, if_pos (by omega), ea]
          · rw [pk_un c, h.2.2.2.2.2 i hi]
            by_cases c2 : i < k
            · rw [if_pos c2, if_pos (by omega)]
            · rw [if_neg c2, if_neg (by omega)]
      rw [if_neg z] at hde
      unfold qX8_endDay_J69 qX8_endDay_J86
      by_cases c : A.2 3 k ≤ dfull st ml k
      · rw [if_pos c] at hde
        rw [pk_sub c, if_pos (nI_pos' (by omega)), bnd_eq, if_pos (nI_pos' (by omega)), bnd_eq, bnd_eq, nI_1]
        refine ⟨hin, put _ _ ?_ ?_⟩
        · rw [hde, sI_succ]
        · rw [db_s, if_neg (fun q => by rw [hde] at q; omega)]
      · rw [if_neg c] at hde
        have ng : ¬ 0 ≤ nI (dfull st ml k) - nI (A.2 3 k) := by
          rw [Int32.le_iff_toInt_le, pk_sub_toInt (by omega) (by omega)]
          have : (0 : Int32).toInt = 0 := rfl
          omega
        rw [if_neg ng, bnd_eq, bnd_eq, if_neg ng, bnd_eq, bnd_eq, shl1 k (by omega), nx_or, nI_1]
        refine ⟨hin, put _ _ ?_ ?_⟩
        · rw [hde]; rfl
        · rw [db_s, if_pos ⟨z, hde⟩]
theorem x_end {σ : XS} {u : Fin 3} {c : Fin 11} {P : Int32 → XS → Prop} {p ly : Nat → Nat} {he fe : Nat} (hA : Tok A) (hG : KXg em A g) (hT : Tab (A.1 0) st p ly he fe σ u) (h45 : ∀ k, k < A.1 0 → xR σ c k = nI (ml k)) (hst : ∀ k, k < A.1 0 → st k ≤ 100) (hml : ∀ k, k < A.1 0 → ml k ≤ 2475) (hP : ∀ τ, FrT u σ τ → xR τ = xR σ → Tab (A.1 0) (de (A.1 0) st ml (A.2 3)) p ly he fe τ u → P (nI (db (A.1 0) st ml (A.2 3) (A.1 0))) τ) : qX8_endDay g σ u c P := by
  refine ⟨_, x_end_L hA hG h45 hst hml (fun τ h => ?_) (A.1 0) 0 σ (by omega) ⟨FrT.refl _ _, rfl, rfl, rfl, rfl, fun i hi => by rw [if_neg (Nat.not_lt_zero _)]; exact hT.1 i hi⟩⟩
  refine hP τ h.1 h.2.1 ⟨fun i hi => ?_, fun k hk => ?_, fun k hk => ?_, ?_, ?_⟩
  · have := h.2.2.2.2.2 i hi
    rw [if_pos hi] at this; exact this
  · rw [h.2.2.2.1]; exact hT.2.1 k hk
  · rw [h.2.2.2.2.1]; exact hT.2.2.1 k hk
  · rw [h.2.2.1]; exact hT.2.2.2.1
  · rw [h.2.2.1]; exact hT.2.2.2.2
/-- the model's, behind a day -/
theorem m_dig {μ : MS} {d : DS} {P : Int32 → MS → Prop} (hA : Tok A) (hK : KMt A μ) (h38 : ∀ h, h < A.1 0 → μ.2.1 38 h = sI (st h)) (hst : ∀ h, h < A.1 0 → st h ≤ 100) (hm : ∀ k, d.2 45 k ≤ 2475) (hP : ∀ τ, FrM μ τ → (∀ k, 25 < k → k < 38 → τ.1 k = μ.1 k) → (∀ h, h < A.1 0 → τ.2.1 38 h = sI (de (A.1 0) st (d.2 45) (A.2 3) h)) → P (nI (db (A.1 0) st (d.2 45) (A.2 3) (A.1 0))) τ) : qX11_digestDay (ov d μ) P := by
  have h10 := hA.1
  refine ⟨_, m_dig_L (n := A.1 0) (μ := ov d μ) h10 hK.1 (fun k hk => ?_) (fun k hk => ?_) hst hm (fun k hk => (hA.2.2.2.1 k hk).2.2.2.1) (fun τ h => ?_) (A.1 0) 0 (ov d μ) (by omega) ⟨rfl, rfl, fun _ _ => rfl, fun i hi => ?_⟩⟩
  · rw [ov_45, ovA_lt (by omega)]
  · exact (hK.2.2.2.1 k hk).2.2.1
  · have fo := FrM.ov d μ
    refine hP τ ⟨fun k hk => ?_, fun k hk => ?_, h.2.1.trans fo.2.2⟩ (fun k k1 k2 => ?_) (fun i hi => ?_)
    · rw [h.1]; exact fo.1 k hk
    · rw [h.2.2.1 k (by omega)]; exact fo.2.1 k hk
    · rw [h.1]; show ov1 d μ k = _; unfold ov1; rw [if_neg (by omega)]
    · have := h.2.2.2 i hi
      rw [if_pos hi] at this; exact this
  · rw [if_neg (Nat.not_lt_zero _)]; exact h38 i hi
def lvA (A : AS) (st : Nat → Nat) : AS := (A.1, va_up A.2 6 st)
theorem lvA_ok (hA : WFA A) {st : Nat → Nat} (h : ∀ k, k < A.1 0 → st k ≤ 100) : WFA (lvA A st) :=
  ⟨⟨hA.1.1, hA.1.2.1, hA.1.2.2.1, hA.1.2.2.2.1, h, hA.1.2.2.2.2.2⟩, hA.2⟩
theorem m_lv_L {μ : MS} {x4 : Int32} {P : Int32 → MS → Prop} (hP : ∀ τ, CpI 6 38 μ 10 τ → P x4 τ) : ∀ (j k : Nat) (τ : MS), k + j = 10 → CpI 6 38 μ k τ → qX11_live_L39 P (j + 1) τ x4 (nI k)
  | 0, k, τ, e, h => by
    have e0 : k = 10 := by omega
    subst e0
    rw [qX11_live_L39, if_pos (by decide)]; exact hP τ h
  | j + 1, k, τ, e, h => by
    rw [qX11_live_L39, if_neg (nge10 (by omega))]
    refine ⟨vp_in_nI (by omega) (by decide), ?_⟩
    rw [bnd_eq, bnd_eq, nI_1]
    exact m_lv_L hP j (k + 1) _ (by omega) (cp_step (by decide) (by omega) h)
theorem KM.lv {μ τ : MS} {st : Nat → Nat} (hM : KM A μ) (t1 : τ.1 = μ.1) (tk : ∀ k, k ≠ 6 → τ.2.1 k = μ.2.1 k) (t6 : ∀ h, h < A.1 0 → τ.2.1 6 h = sI (st h)) : KM (lvA A st) τ := by
  refine ⟨⟨?_, ?_, ?_, fun h hh => ?_, t6, fun i hi => ?_⟩, ?_, ?_, ?_⟩
  · rw [t1]; exact hM.1.1
  · rw [t1]; exact hM.1.2.1
  · rw [t1]; exact hM.1.2.2.1
  · rw [tk 1 (by decide), tk 2 (by decide), tk 3 (by decide), tk 4 (by decide), tk 5 (by decide), tk 7 (by decide), tk 8 (by decide)]
    exact hM.1.2.2.2.1 h hh
  · rw [tk 9 (by decide)]; exact hM.1.2.2.2.2.2 i hi
  · have := hM.2.1
    unfold KMv at this ⊢
    show τ.1 12 = nI (A.1 12) ∧ ∀ v, v < A.1 12 → τ.2.1 13 v = nI (A.2 13 v) ∧ τ.2.1 14 v = nI (A.2 14 v) ∧ τ.2.1 15 v = nI (A.2 15 v) ∧ τ.2.1 16 v = nI (A.2 16 v)
    rw [t1, tk 13 (by decide), tk 14 (by decide), tk 15 (by decide), tk 16 (by decide)]
    exact this
  · have := hM.2.2.1
    unfold KMp at this ⊢
    show τ.1 17 = nI (A.1 17) ∧ ∀ i, i < A.1 17 → τ.2.1 18 i = nI (A.2 18 i)
    rw [t1, tk 18 (by decide)]
    exact this
  · have := hM.2.2.2
    unfold KMi at this ⊢
    show τ.1 19 = nI (A.1 19) ∧ (A.1 19 = 1 → τ.1 20 = nI (A.1 20) ∧ τ.1 21 = nI (A.1 21) ∧ τ.1 22 = nI (A.1 22) ∧ (∀ h, h < A.1 20 → τ.2.1 23 h = sI (A.2 23 h) ∧ τ.2.1 24 h = nI (A.2 24 h)) ∧ ∀ k, k < 5 → τ.2.1 25 k = nI (A.2 25 k))
    rw [t1, tk 23 (by decide), tk 24 (by decide), tk 25 (by decide)]
    exact this
theorem ok_live {σ : XS} {μ : MS} {a0 a1 a2 : Int32} (hK : KK em g σ μ) : qX10_live g σ a0 a1 a2 (fun r σ1 => qX11_live μ a0 a1 a2 (fun r2 μ1 => r = r2 ∧ KK em g σ1 μ1)) := by
  obtain ⟨A, hA, hX, hM⟩ := hK
  have fin := KK.mk hA hX hM
  have h10 := hA.1.1
  unfold qX10_live
  refine x_vowK hA hX.1 (fun v hv e => ?_) (fun h => ?_)
  · subst e
    refine x_seatK hA.1 hX.1 (fun s => ?_) (fun s => ?_)
    · have md : ∀ {Y N : MS → Prop}, Y μ → qX11_isDay μ (nI v.val) a1 (fun r σ_1 => if r = 0 then N σ_1 else Y σ_1) := fun {Y N} y => m_dayK hA hM (fun _ _ => y) (fun z => absurd ⟨⟨_, hv, rfl⟩, s⟩ z)
      refine x_fastsK hA.1 hX.1 (fun fs => ?_) (fun fs => ?_)
      · obtain ⟨seat, hs, rfl⟩ := s
        obtain ⟨f, hf, rfl⟩ := fs
        have hf2 := fast_lt hA.1 hf
        have w := hA.2.1.2 _ hv
        refine x_wholeDay hA.1 w hf2 hA.1.2.2.2.2.1 hX.1 hX.2.1 hs (fun D hD => ?_)
        have zJ := zday_ZJ (T := 300) hA.1 w (by omega) (st := A.2 6) (fs := f) (th := 99) w.2.1 hs
        rw [← hD] at zJ
        have hml := ZJ_meals zJ
        have hT0 : TabA A (A.2 6) (A.2 8) (xov D (D.1 41) (zleft D) 601 (xbeg σ 0)) 0 := hX.2.1
        refine x_end (ml := D.2 45) hA.1 hX.1 hT0 (fun k hk => ?_) hA.1.2.2.2.2.1 (fun k _ => hml k) (fun τ fT _ hT => ?_)
        · show ovA (D.2 45) 10 _ k = _
          rw [ovA_lt (by omega)]
        refine md ?_
        refine m_fastsK hA.1 hM.1 (fun _ => ?_) (fun z => absurd ⟨_, hf, rfl⟩ z)
        refine m_layDay hA hM hv hs hf2 (fun μ' f' hU => ?_)
        rw [← hD]
        refine m_dig hA.1 (hM.1.fr f') hU.2.2.2.2.2.2 hA.1.2.2.2.2.1 hml (fun τ2 f2 _ h38 => ?_)
        refine ⟨_, m_lv_L (μ := τ2) (fun τ3 h3 => ⟨rfl, ?_⟩) 10 0 τ2 rfl ⟨rfl, fun _ _ => rfl, fun i hi => absurd hi (Nat.not_lt_zero _)⟩⟩
        have f1 := fT.2.2.2 1 (by decide)
        refine KK.mk (A := lvA A (de (A.1 0) (A.2 6) (D.2 45) (A.2 3))) (lvA_ok hA (de_le hA.1.2.2.2.2.1)) ⟨hX.1, hT, hX.2.2.1.fr fT.2.1 fT.2.2.1, hX.2.2.2.fr fT.1 f1.1 f1.2⟩ ((hM.fr (f'.trans f2)).lv h3.1 h3.2.1 (fun h hh => ?_))
        rw [h3.2.2 h (by omega)]; exact h38 h hh
      · refine md ?_
        exact m_fastsK hA.1 hM.1 (fun z => absurd z fs) (fun _ => ⟨rfl, fin⟩)
    · exact m_dayK hA hM (fun _ z => absurd z s) (fun _ => ⟨rfl, fin⟩)
  · exact m_dayK hA hM (fun z _ => absurd z h) (fun _ => ⟨rfl, fin⟩)
end
