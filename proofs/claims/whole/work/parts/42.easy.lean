/-! calls that ask, and calls that set a number -/
theorem bN_ite {P : Int32 → Prop} {b : Nat} (hb : b ≤ 1) (h : P (nI b)) : (if nI b = 0 then P 0 else P 1) := by
  rcases (by omega : b = 0 ∨ b = 1) with rfl | rfl
  · rw [if_pos (by decide)]; exact h
  · rw [if_neg (by decide)]; exact h
section
variable {A : AS} {g : XG} {σ : XS} {μ : MS} {em : Nat}
theorem m_vowNow {P : Int32 → MS → Prop} (hA : WFA A) (hK : KM A μ) {v j : Nat} (hv : v < A.1 12) (hj : j ≤ 3) (hP : P (nI (A.2 (13 + j) v)) μ) : qX11_vowNow μ (nI v) (nI j) P := by
  have h6 := hA.2.1.1
  have w := hA.2.1.2 v hv
  have a := hK.2.1.2 v hv
  have hin : vp_in (nI v) 6 := vp_in_nI (by omega) (by decide)
  unfold qX11_vowNow
  rcases (by omega : j = 0 ∨ j = 1 ∨ j = 2 ∨ j = 3) with rfl | rfl | rfl | rfl
  · rw [if_pos (by decide)]
    refine ⟨hin, ?_⟩
    rw [mgN (by omega), a.1]
    exact bN_ite (P := fun r => P r μ) w.1 hP
  · rw [if_neg (by decide), if_pos (by decide)]
    refine ⟨hin, ?_⟩
    rw [mgN (by omega), a.2.1]; exact hP
  · rw [if_neg (by decide), if_neg (by decide), if_pos (by decide)]
    refine ⟨hin, ?_⟩
    rw [mgN (by omega), a.2.2.1]
    exact bN_ite (P := fun r => P r μ) w.2.2.1 hP
  · rw [if_neg (by decide), if_neg (by decide), if_neg (by decide)]
    refine ⟨hin, ?_⟩
    rw [mgN (by omega), a.2.2.2]; exact hP
theorem x_told {P : Int32 → XS → Prop} (hG : KXg em A g) {v : Fin (nV g)} (hv : Vok A v.val) {j : Nat} (hj : j ≤ 3) (hP : P (nI (A.2 (13 + j) v.val)) σ) : qX9_told g σ v (nI j) P := by
  have a := hG.2.2.2.1 v
  unfold qX9_told
  rcases (by omega : j = 0 ∨ j = 1 ∨ j = 2 ∨ j = 3) with rfl | rfl | rfl | rfl
  · rw [if_pos (by decide), a.1]; exact bI_asN hv.1 hP
  · rw [if_neg (by decide), if_pos (by decide), a.2.1]; exact hP
  · rw [if_neg (by decide), if_neg (by decide), if_pos (by decide), a.2.2.1]; exact bI_asN hv.2.2.1 hP
  · rw [if_neg (by decide), if_neg (by decide), if_neg (by decide), a.2.2.2]; exact hP
theorem ok_vowTold {a0 a1 : Int32} (hK : KK em g σ μ) : qX10_vowTold g σ a0 a1 (fun r σ1 => qX11_vowTold μ a0 a1 (fun r2 μ1 => r = r2 ∧ KK em g σ1 μ1)) := by
  obtain ⟨A, hA, hX, hM⟩ := hK
  unfold qX10_vowTold qX10_vowTold_J22
  refine x_vowK hA hX.1 (fun v hv e => ?_) (fun h => ?_)
  · subst e
    by_cases b : Bt a1 0 3
    · obtain ⟨j, _, hj, rfl⟩ := b
      rw [if_neg (nI_pos (by omega)), if_pos (show nI j ≤ 3 from nI_le (b := 3) hj (by decide))]
      refine x_told hX.1 (hA.2.1.2 _ hv) hj ?_
      refine m_vowK hA hM (fun _ => ?_) (fun q => absurd ⟨_, hv, rfl⟩ q)
      refine m_withinK (lo := 0) (hi := 3) (by decide) (by decide) (fun _ => ?_) (fun q => absurd ⟨j, Nat.zero_le _, hj, rfl⟩ q)
      exact m_vowNow hA hM hv hj ⟨rfl, KK.mk hA hX hM⟩
    · have fin : qX11_vowTold μ (nI v.val) a1 (fun r2 μ1 => (-102 : Int32) = r2 ∧ KK em g σ μ1) := by
        refine m_vowK hA hM (fun _ => ?_) (fun q => absurd ⟨_, hv, rfl⟩ q)
        refine m_withinK (lo := 0) (hi := 3) (by decide) (by decide) (fun q => absurd q b) (fun _ => ?_)
        exact ⟨rfl, KK.mk hA hX hM⟩
      rw [bt_iff (by decide) (by decide)] at b
      by_cases c : a1 < 0
      · rw [if_pos c]; exact fin
      rw [if_neg c]
      by_cases d : a1 ≤ 3
      · exact absurd ⟨c, fun q => by
          have d1 : a1.toInt ≤ (3 : Int32).toInt := Int32.le_iff_toInt_le.mp d
          have q1 : (3 : Int32).toInt < a1.toInt := Int32.lt_iff_toInt_lt.mp q
          omega⟩ b
      rw [if_neg d]; exact fin
  · refine m_vowK hA hM (fun q => absurd q h) (fun _ => ?_)
    exact ⟨rfl, KK.mk hA hX hM⟩
/- about -/
def ht (A : AS) (h j : Nat) : Int32 := if j = 5 then sI (A.2 6 h) else nI (A.2 (j + 1) h)
theorem m_hermitNow {P : Int32 → MS → Prop} (hA : Tok A) (hK : KMt A μ) {h j : Nat} (hh : h < A.1 0) (hj : j ≤ 6) (hP : P (ht A h j) μ) : qX11_hermitNow μ (nI h) (nI j) P := by
  have h10 := hA.1
  have a := hK.2.2.2.1 h hh
  have hin : vp_in (nI h) 10 := vp_in_nI (by omega) (by decide)
  unfold qX11_hermitNow
  simp only [mgN (show h < 2 ^ 31 by omega)]
  rcases (by omega : j = 0 ∨ j = 1 ∨ j = 2 ∨ j = 3 ∨ j = 4 ∨ j = 5 ∨ j = 6) with rfl | rfl | rfl | rfl | rfl | rfl | rfl
  · rw [if_pos (by decide), a.1]; exact ⟨hin, hP⟩
  · rw [if_neg (by decide), if_pos (by decide), a.2.1]; exact ⟨hin, hP⟩
  · rw [if_neg (by decide), if_neg (by decide), if_pos (by decide), a.2.2.1]; exact ⟨hin, hP⟩
  · rw [if_neg (by decide), if_neg (by decide), if_neg (by decide), if_pos (by decide), a.2.2.2.1]; exact ⟨hin, hP⟩
  · rw [if_neg (by decide), if_neg (by decide), if_neg (by decide), if_neg (by decide), if_pos (by decide), a.2.2.2.2.1]; exact ⟨hin, hP⟩
  · rw [if_neg (by decide), if_neg (by decide), if_neg (by decide), if_neg (by decide), if_neg (by decide), if_pos (by decide), hK.2.2.2.2.1 h hh]; exact ⟨hin, hP⟩
  · rw [if_neg (by decide), if_neg (by decide), if_neg (by decide), if_neg (by decide), if_neg (by decide), if_neg (by decide), a.2.2.2.2.2.1]; exact ⟨hin, hP⟩
theorem x_seatOf_L {P : Int32 → XS → Prop} {u : Fin 3} (hA : Tok A) {h : Nat} (hh : h < A.1 0) (hT : ∀ k, k < A.1 0 → xTB σ u 1 k = nI (A.2 8 k)) (hP : P (nI (A.2 7 h)) σ) : ∀ (j k : Nat), k + j = A.2 7 h → qX8_seatOf_L2 g P (j + 1) σ u (nI h) (nI k)
  | 0, k, e => by
    have h10 := hA.1
    have a := pq_of hA h hh
    have e0 : k = A.2 7 h := by omega
    subst e0
    rw [qX8_seatOf_L2, if_neg (nge10 (by omega)), xgTN (by omega), hT _ a.1, a.2.2.1, if_pos rfl]
    exact ⟨vp_in_nI (by omega) (by decide), hP⟩
  | j + 1, k, e => by
    have h10 := hA.1
    have a := pq_of hA h hh
    have b := pq_of hA k (by omega)
    have ih := x_seatOf_L hA hh hT hP j (k + 1) (by omega)
    have ne : ¬ nI (A.2 8 k) = nI h := by
      rw [nI_eq (by omega) (by omega)]
      intro q
      rw [q] at b; omega
    rw [qX8_seatOf_L2, if_neg (nge10 (by omega)), xgTN (by omega), hT _ (by omega), if_neg ne, bnd_eq, nI_1]
    exact ⟨vp_in_nI (by omega) (by decide), ih⟩
theorem x_sitters (hX : KX em A g σ) (h10 : A.1 0 ≤ 10) : ∀ k, k < A.1 0 → xTB σ 0 1 k = nI (A.2 8 k) := fun k hk => by
  have a := hX.2.1.2.1 k (by omega)
  rw [if_pos hk] at a; exact a
theorem x_toldOf {P : Int32 → XS → Prop} (hA : Tok A) (hX : KX em A g σ) {h j : Nat} (hh : h < A.1 0) (hj : j ≤ 6) (hP : P (ht A h j) σ) : qX10_toldOf g σ (nI h) (nI j) P := by
  have h10 := hA.1
  have hn := hX.1.1
  unfold qX10_toldOf
  refine ⟨vp_in_nI (by omega) (by omega), fun i hi => ?_⟩
  have ei : i.val = h := by rw [hi, nI_clamp (by omega)]
  have a := hX.1.2.2.1 i
  rw [ei] at a
  rcases (by omega : j = 0 ∨ j = 1 ∨ j = 2 ∨ j = 3 ∨ j = 4 ∨ j = 5 ∨ j = 6) with rfl | rfl | rfl | rfl | rfl | rfl | rfl
  · rw [if_pos (by decide)]
    have go : ∀ k : Fin 5, hK g i = k → P (nI k.val) σ := fun k e => by
      rw [← e, a.1]; exact hP
    exact ⟨fun e => go 0 e, fun e => go 1 e, fun e => go 2 e, fun e => go 3 e, fun e => go 4 e⟩
  · rw [if_neg (by decide), if_pos (by decide), a.2.1]; exact hP
  · rw [if_neg (by decide), if_neg (by decide), if_pos (by decide), a.2.2.1]; exact hP
  · rw [if_neg (by decide), if_neg (by decide), if_neg (by decide), if_pos (by decide), a.2.2.2.1]; exact hP
  · rw [if_neg (by decide), if_neg (by decide), if_neg (by decide), if_neg (by decide), if_pos (by decide), a.2.2.2.2]; exact hP
  · rw [if_neg (by decide), if_neg (by decide), if_neg (by decide), if_neg (by decide), if_neg (by decide), if_pos (by decide), xgTN (by omega), hX.2.1.1 h hh]
    exact ⟨vp_in_nI (by omega) (by decide), hP⟩
  · rw [if_neg (by decide), if_neg (by decide), if_neg (by decide), if_neg (by decide), if_neg (by decide), if_neg (by decide)]
    exact ⟨_, x_seatOf_L hA hh (x_sitters hX h10) hP (A.2 7 h) 0 (by omega)⟩
theorem ok_about {a0 a1 : Int32} (hK : KK em g σ μ) : qX10_about g σ a0 a1 (fun r σ1 => qX11_about μ a0 a1 (fun r2 μ1 => r = r2 ∧ KK em g σ1 μ1)) := by
  obtain ⟨A, hA, hX, hM⟩ := hK
  have fin := KK.mk hA hX hM
  unfold qX10_about
  refine x_hermK hA.1 hX.1 (fun h => ?_) (fun h => ?_)
  · refine x_withinK (lo := 0) (hi := 6) (by decide) (by decide) (fun b => ?_) (fun b => ?_)
    · obtain ⟨i, hi, rfl⟩ := h
      obtain ⟨j, _, hj, rfl⟩ := b
      refine x_toldOf hA.1 hX hi hj ?_
      refine m_hermK hA.1 hM.1 (fun _ => ?_) (fun q => absurd ⟨_, hi, rfl⟩ q)
      refine m_withinK (lo := 0) (hi := 6) (by decide) (by decide) (fun _ => ?_) (fun q => absurd ⟨j, Nat.zero_le _, hj, rfl⟩ q)
      exact m_hermitNow hA.1 hM.1 hi hj ⟨rfl, fin⟩
    · refine m_hermK hA.1 hM.1 (fun _ => ?_) (fun q => absurd h q)
      exact m_withinK (lo := 0) (hi := 6) (by decide) (by decide) (fun q => absurd q b) (fun _ => ⟨rfl, fin⟩)
  · exact m_hermK hA.1 hM.1 (fun q => absurd q h) (fun _ => ⟨rfl, fin⟩)
/- as -/
theorem x_isOf {P : Int32 → XS → Prop} {i : Fin (nH g)} {k j : Nat} (hk : (hK g i).val = k) (hj : j ≤ 4) (hP : P (bI (decide (j = 0 ∨ k = j ∨ (j = 1 ∧ k = 4)))) σ) : qV_isOfKind g σ i (nI j) P := by
  refine x_kind ?_
  unfold qX4_isOfKind
  have l : ∀ f : Fin 5, hK g i = f ↔ k = f.val := fun f => by
    rw [← hk]; exact ⟨fun e => by rw [e], fun e => Fin.ext e⟩
  simp only [bnd_eq, l]
  have e0 : ((0 : Fin 5)).val = 0 := rfl
  have e1 : ((1 : Fin 5)).val = 1 := rfl
  have e2 : ((2 : Fin 5)).val = 2 := rfl
  have e3 : ((3 : Fin 5)).val = 3 := rfl
  have e4 : ((4 : Fin 5)).val = 4 := rfl
  rw [e1, e2, e3, e4]
  unfold bI at hP
  rcases (by omega : j = 0 ∨ j = 1 ∨ j = 2 ∨ j = 3 ∨ j = 4) with rfl | rfl | rfl | rfl | rfl
  · rw [if_pos (by decide)]; simpa using hP
  · rw [if_neg (by decide), if_pos (by decide)]; simpa using hP
  · rw [if_neg (by decide), if_neg (by decide), if_pos (by decide)]; simpa using hP
  · rw [if_neg (by decide), if_neg (by decide), if_neg (by decide), if_pos (by decide)]; simpa using hP
  · rw [if_neg (by decide), if_neg (by decide), if_neg (by decide), if_neg (by decide), if_pos (by decide)]; simpa using hP
theorem ok_as {a0 a1 : Int32} (hK : KK em g σ μ) : qX10_as g σ a0 a1 (fun r σ1 => qX11_as μ a0 a1 (fun r2 μ1 => r = r2 ∧ KK em g σ1 μ1)) := by
  obtain ⟨A, hA, hX, hM⟩ := hK
  have fin := KK.mk hA hX hM
  have h10 := hA.1.1
  have hn := hX.1.1
  unfold qX10_as
  refine x_hermK hA.1 hX.1 (fun h => ?_) (fun h => ?_)
  · refine x_withinK (lo := 0) (hi := 4) (by decide) (by decide) (fun b => ?_) (fun b => ?_)
    · obtain ⟨i, hi, rfl⟩ := h
      obtain ⟨j, _, hj, rfl⟩ := b
      refine ⟨vp_in_nI (by omega) (by omega), fun f hf => ?_⟩
      have ef : f.val = i := by rw [hf, nI_clamp (by omega)]
      have a := (hX.1.2.2.1 f).1
      rw [ef] at a
      have h4 := (hA.1.2.2.2.1 i hi).1
      refine x_isOf a hj ?_
      have l0 : (nI j = 0) ↔ j = 0 := nI_eq (b := 0) (by omega) (by decide)
      have l1 : (nI j = 1) ↔ j = 1 := nI_eq (b := 1) (by omega) (by decide)
      have lj : (nI (A.2 1 i) = nI j) ↔ A.2 1 i = j := nI_eq (by omega) (by omega)
      have l4 : (nI (A.2 1 i) = 4) ↔ A.2 1 i = 4 := nI_eq (b := 4) (by omega) (by decide)
      have mod : ∀ Q : Int32 → Prop, ((j = 0 ∨ A.2 1 i = j ∨ (j = 1 ∧ A.2 1 i = 4)) → Q (nI i)) → (¬ (j = 0 ∨ A.2 1 i = j ∨ (j = 1 ∧ A.2 1 i = 4)) → Q (-1)) → qX11_as μ (nI i) (nI j) (fun r2 μ1 => Q r2 ∧ KK em g σ μ1) := by
        intro Q q1 q0
        refine m_hermK hA.1 hM.1 (fun _ => ?_) (fun q => absurd ⟨_, hi, rfl⟩ q)
        refine m_withinK (lo := 0) (hi := 4) (by decide) (by decide) (fun _ => ?_) (fun q => absurd ⟨j, Nat.zero_le _, hj, rfl⟩ q)
        refine ⟨vp_in_nI (by omega) (by decide), ?_⟩
        rw [bnd_eq, mgN (by omega), (hM.1.2.2.2.1 i hi).1]
        unfold qX11_as_J49
        by_cases c0 : j = 0
        · rw [if_pos (l0.mpr c0)]; exact ⟨q1 (Or.inl c0), fin⟩
        rw [if_neg (fun z => c0 (l0.mp z))]
        by_cases c1 : A.2 1 i = j
        · rw [if_pos (lj.mpr c1)]; exact ⟨q1 (Or.inr (Or.inl c1)), fin⟩
        rw [if_neg (fun z => c1 (lj.mp z))]
        by_cases c2 : j = 1
        · rw [if_pos (l1.mpr c2)]
          by_cases c3 : A.2 1 i = 4
          · rw [if_pos (l4.mpr c3)]; exact ⟨q1 (Or.inr (Or.inr ⟨c2, c3⟩)), fin⟩
          · rw [if_neg (fun z => c3 (l4.mp z))]; exact ⟨q0 (by omega), fin⟩
        · rw [if_neg (fun z => c2 (l1.mp z))]; exact ⟨q0 (by omega), fin⟩
      unfold bI
      by_cases c : j = 0 ∨ A.2 1 i = j ∨ (j = 1 ∧ A.2 1 i = 4)
      · rw [if_pos (decide_eq_true c), if_neg (by decide)]
        exact mod (fun r2 => nI i = r2) (fun _ => rfl) (fun z => absurd c z)
      · rw [if_neg (show ¬ (decide (j = 0 ∨ A.2 1 i = j ∨ (j = 1 ∧ A.2 1 i = 4)) = true) from fun z => c (of_decide_eq_true z)), if_pos (by decide)]
        exact mod (fun r2 => -1 = r2) (fun z => absurd z c) (fun _ => rfl)
    · refine m_hermK hA.1 hM.1 (fun _ => ?_) (fun q => absurd h q)
      exact m_withinK (lo := 0) (hi := 4) (by decide) (by decide) (fun q => absurd q b) (fun _ => ⟨rfl, fin⟩)
  · exact m_hermK hA.1 hM.1 (fun q => absurd q h) (fun _ => ⟨rfl, fin⟩)
end
