/-! the list methods that the component calls: size, isEmpty, get, with what they call -/
theorem mJ3_checkIndex_8e157 {l : Launch} {S : Type} {D : va_G} {ww : S → va_W} {ty : List (ClassId × FieldType)} {σ : S} {i n : Int32} (h0 : ¬ i < 0) (h1 : i < n) (sz : Nat) : Met l yJ3_checkIndex_8e157 (cws yJ3_checkIndex_8e157 cJ3_checkIndex_8e157 3 (some .int)) ({ frames := 0, cells := 0, slots := 0, locals := 0 } : Room) (va_Pc [.int i, .int n, .null] (WP D ww ty σ sz)) (va_Qi (fun r τ => r = i ∧ τ = σ) (WB D ww ty σ sz) (va_A (ww σ) sz)) 0 0 (va_A (ww σ) sz) := by
  refine w_enterF (by decide +kernel) (Nat.le_of_ble_eq_true rfl) (fun p e s m args below meth c ls C hr hk hn hsz hW hl => ?_)
  have hx := C.1
  have hb := C.2.1
  have hl : lv_has ls 3 [(0, .int i), (1, .int n), (2, .null)] := hl
  refine lv_iload_n hx hb dJ3_checkIndex_8e157_0 rfl (lv_at hl 0 rfl) ?_
  refine lv_if_lt (tgt := 9) hx hb dJ3_checkIndex_8e157_1 (by decide) (fun h => absurd h h0) (fun h => ?_)
  refine lv_iload_n hx hb dJ3_checkIndex_8e157_4 rfl (lv_at hl 0 rfl) ?_
  refine lv_iload_n hx hb dJ3_checkIndex_8e157_5 rfl (lv_at hl 1 rfl) ?_
  refine lv_icmp_lt (tgt := 16) hx hb dJ3_checkIndex_8e157_6 (by decide) (fun h => ?_) (fun h => absurd h1 h)
  refine lv_iload_n hx hb dJ3_checkIndex_8e157_16 rfl (lv_at hl 0 rfl) ?_
  exact w_iret C hsz hr hk hW dJ3_checkIndex_8e157_17 ⟨rfl, rfl⟩
theorem mJ15_checkIndex_7cf53 {l : Launch} {S : Type} {D : va_G} {ww : S → va_W} {ty : List (ClassId × FieldType)} {σ : S} {i n : Int32} (h0 : ¬ i < 0) (h1 : i < n) (sz : Nat) : Met l yJ15_checkIndex_7cf53 (cws yJ15_checkIndex_7cf53 cJ15_checkIndex_7cf53 2 (some .int)) ({ frames := 1, cells := 0, slots := 0, locals := 22 } : Room) (va_Pc [.int i, .int n] (WP D ww ty σ sz)) (va_Qi (fun r τ => r = i ∧ τ = σ) (WB D ww ty σ sz) (va_A (ww σ) sz)) 0 0 (va_A (ww σ) sz) := by
  refine w_enterF (by decide +kernel) (Nat.le_of_ble_eq_true rfl) (fun p e s m args below meth c ls C hr hk hn hsz hW hl => ?_)
  have hx := C.1
  have hb := C.2.1
  have hl : lv_has ls 2 [(0, .int i), (1, .int n)] := hl
  refine lv_iload_n hx hb dJ15_checkIndex_7cf53_0 rfl (lv_at hl 0 rfl) ?_
  refine lv_iload_n hx hb dJ15_checkIndex_7cf53_1 rfl (lv_at hl 1 rfl) ?_
  refine lv_null hx hb dJ15_checkIndex_7cf53_2 ?_
  refine w_calli hW (w_runS C hW (mJ3_checkIndex_8e157 h0 h1 _) ⟨(lwg_at 442 (by decide +kernel) rfl), (lwg_at 81 (by decide +kernel) rfl), (lwg_at 440 (by decide +kernel) rfl)⟩ (lwg_at 441 (by decide +kernel) rfl) (np := 3) (by decide +kernel) ⟨rfl, rfl⟩ ⟨by decide, by decide⟩ rfl hl.1 rfl (Nat.le_of_ble_eq_true rfl) dJ15_checkIndex_7cf53_3 ⟨Nat.zero_le _, Nat.zero_le _⟩) (fun r τ H locs hq hW => ?_)
  exact w_iret C hsz hr hk hW dJ15_checkIndex_7cf53_6 ⟨hq.1, hq.2⟩
theorem x_inH {g : XG} {i : Int32} (hin : vp_in i (nH g)) : vp_in i 10 ∧ 0 < nH g ∧ i.toNatClampNeg < nH g := by
  have h1 : i.toNatClampNeg < nH g := Nat.not_le.mp fun q => hin (Or.inr q)
  have h2 : nH g ≤ 10 := g.2.2.2.2.2.1.2.2.2
  exact ⟨fun q => q.elim (fun z => hin (Or.inl z)) (fun z => by omega), by omega, h1⟩
theorem mJx4a65c_elementData_915e3_H {l : Launch} {g : XG} {σ : XS} {i : Int32} (hin : vp_in i (nH g)) (sz : Nat) : Met l yJx4a65c_elementData_915e3 (cws yJx4a65c_elementData_915e3 cJx4a65c_elementData_915e3 2 (some (.object "java/lang/Object"))) ({ frames := 0, cells := 0, slots := 0, locals := 0 } : Room) (va_Pc [.ref (g.2.1 1), .int i] (WP g.1 (xw g) (xty g) σ sz)) (QcR (fun j : Fin (nH g) => .ref (hA g j)) (fun j τ => j.val = i.toNatClampNeg ∧ τ = σ) (WB g.1 (xw g) (xty g) σ sz) (va_A (xw g σ) sz)) 0 0 (va_A (xw g σ) sz) := by
  refine w_enterF (by decide +kernel) (Nat.le_of_ble_eq_true rfl) (fun p e s m args below meth c ls C hr hk hn hsz hW hl => ?_)
  obtain ⟨hin10, h0, hlt⟩ := x_inH hin
  have hx := C.1
  have hb := C.2.1
  have hl : lv_has ls 2 [(0, .ref (g.2.1 1)), (1, .int i)] := hl
  refine lv_aload_n hx hb dJx4a65c_elementData_915e3_0 rfl (lv_at hl 0 rfl) ?_
  refine xg_Jx4a65c_9_H C hW dJx4a65c_elementData_915e3_1 ?_
  refine lv_iload_n hx hb dJx4a65c_elementData_915e3_4 rfl (lv_at hl 1 rfl) ?_
  refine w_aldq C hW (q0 := 35) (t0 := 2) (xw_E g σ h0) rfl hin10 dJx4a65c_elementData_915e3_5 ?_
  have e : (hs g)[i.toNatClampNeg]? = some ((hs g).get ⟨i.toNatClampNeg, hlt⟩) := List.getElem?_eq_getElem hlt
  try dsimp only
  rw [e]
  exact w_aret (f := fun j : Fin (nH g) => .ref (hA g j)) (r := ⟨i.toNatClampNeg, hlt⟩) C hsz hr (Or.inl ⟨_, rfl⟩) hk hW dJx4a65c_elementData_915e3_6 (Or.inr ⟨_, rfl⟩) ⟨rfl, rfl⟩
theorem mJx4a65c_get_915e3_H {l : Launch} {g : XG} {σ : XS} {i : Int32} (hin : vp_in i (nH g)) (sz : Nat) : Met l yJx4a65c_get_915e3 (cws yJx4a65c_get_915e3 cJx4a65c_get_915e3 2 (some (.object "java/lang/Object"))) ({ frames := 2, cells := 0, slots := 0, locals := 43 } : Room) (va_Pc [.ref (g.2.1 1), .int i] (WP g.1 (xw g) (xty g) σ sz)) (QcR (fun j : Fin (nH g) => .ref (hA g j)) (fun j τ => j.val = i.toNatClampNeg ∧ τ = σ) (WB g.1 (xw g) (xty g) σ sz) (va_A (xw g σ) sz)) 0 0 (va_A (xw g σ) sz) := by
  refine w_enterF (by decide +kernel) (Nat.le_of_ble_eq_true rfl) (fun p e s m args below meth c ls C hr hk hn hsz hW hl => ?_)
  obtain ⟨hin10, h0, hlt⟩ := x_inH hin
  have hn10 : nH g ≤ 10 := g.2.2.2.2.2.1.2.2.2
  have hi0 : ¬ i < 0 := fun q => hin (Or.inl q)
  have hi1 : i < nI (nH g) := by
    obtain ⟨k, hk1, rfl⟩ := vp_in_of hin (by omega)
    exact nI_lt hk1 (by omega)
  have hx := C.1
  have hb := C.2.1
  have hl : lv_has ls 2 [(0, .ref (g.2.1 1)), (1, .int i)] := hl
  refine lv_iload_n hx hb dJx4a65c_get_915e3_0 rfl (lv_at hl 1 rfl) ?_
  refine lv_aload_n hx hb dJx4a65c_get_915e3_1 rfl (lv_at hl 0 rfl) ?_
  refine xg_Jx4a65c_48_H C hW dJx4a65c_get_915e3_2 ?_
  refine w_calli hW (w_runS C hW (mJ15_checkIndex_7cf53 hi0 hi1 _) ⟨(lwg_at 439 (by decide +kernel) rfl), (lwg_at 80 (by decide +kernel) rfl), (lwg_at 437 (by decide +kernel) rfl)⟩ (lwg_at 438 (by decide +kernel) rfl) (np := 2) (by decide +kernel) ⟨rfl, rfl⟩ ⟨by decide, by decide⟩ rfl hl.1 rfl (Nat.le_of_ble_eq_true rfl) dJx4a65c_get_915e3_5 ⟨Nat.zero_le _, Nat.zero_le _⟩) (fun r τ H locs hq hW => ?_)
  obtain ⟨rfl, rfl⟩ := hq
  refine lv_pop hx hb dJx4a65c_get_915e3_8 rfl ?_
  refine lv_aload_n hx hb dJx4a65c_get_915e3_9 rfl (lv_at hl 0 rfl) ?_
  refine lv_iload_n hx hb dJx4a65c_get_915e3_10 rfl (lv_at hl 1 rfl) ?_
  refine w_callg hW (w_runV C hW (mJx4a65c_elementData_915e3_H hin _) ⟨(lwg_at 446 (by decide +kernel) rfl), (lwg_at 69 (by decide +kernel) rfl), (lwg_at 443 (by decide +kernel) rfl)⟩ (lwg_at 444 (by decide +kernel) rfl) (lwg_at 445 (by decide +kernel) rfl) (np := 1) (by decide +kernel) ⟨rfl, rfl⟩ ⟨by decide, by decide⟩ (ci := 0) rfl rfl (q0 := 1) rfl rfl hl.1 rfl (Nat.le_of_ble_eq_true rfl) dJx4a65c_get_915e3_11 ⟨Nat.zero_le _, Nat.zero_le _⟩) (fun j τ H locs hq hW => ?_)
  obtain ⟨hj, rfl⟩ := hq
  exact w_aret (f := fun j : Fin (nH g) => .ref (hA g j)) (r := j) C hsz hr (Or.inl ⟨_, rfl⟩) hk hW dJx4a65c_get_915e3_14 (Or.inr ⟨_, rfl⟩) ⟨hj, rfl⟩
theorem mJx4a65c_size_8abf5_H {l : Launch} {g : XG} {σ : XS} (sz : Nat) : Met l yJx4a65c_size_8abf5 (cws yJx4a65c_size_8abf5 cJx4a65c_size_8abf5 1 (some .int)) ({ frames := 0, cells := 0, slots := 0, locals := 0 } : Room) (va_Pc [.ref (g.2.1 1)] (WP g.1 (xw g) (xty g) σ sz)) (va_Qi (fun r τ => r = nI (nH g) ∧ τ = σ) (WB g.1 (xw g) (xty g) σ sz) (va_A (xw g σ) sz)) 0 0 (va_A (xw g σ) sz) := by
  refine w_enterF (by decide +kernel) (Nat.le_of_ble_eq_true rfl) (fun p e s m args below meth c ls C hr hk hn hsz hW hl => ?_)
  have hx := C.1
  have hb := C.2.1
  have hl : lv_has ls 1 [(0, .ref (g.2.1 1))] := hl
  refine lv_aload_n hx hb dJx4a65c_size_8abf5_0 rfl (lv_at hl 0 rfl) ?_
  refine xg_Jx4a65c_48_H C hW dJx4a65c_size_8abf5_1 ?_
  exact w_iret C hsz hr hk hW dJx4a65c_size_8abf5_4 ⟨rfl, rfl⟩
theorem mJx4a65c_isEmpty_aae02_H {l : Launch} {g : XG} {σ : XS} (sz : Nat) : Met l yJx4a65c_isEmpty_aae02 (cws yJx4a65c_isEmpty_aae02 cJx4a65c_isEmpty_aae02 1 (some .boolean)) ({ frames := 0, cells := 0, slots := 0, locals := 0 } : Room) (va_Pc [.ref (g.2.1 1)] (WP g.1 (xw g) (xty g) σ sz)) (va_Qi (fun r τ => r = (if nI (nH g) = 0 then 1 else 0) ∧ τ = σ) (WB g.1 (xw g) (xty g) σ sz) (va_A (xw g σ) sz)) 0 0 (va_A (xw g σ) sz) := by
  refine w_enterF (by decide +kernel) (Nat.le_of_ble_eq_true rfl) (fun p e s m args below meth c ls C hr hk hn hsz hW hl => ?_)
  have hx := C.1
  have hb := C.2.1
  have hl : lv_has ls 1 [(0, .ref (g.2.1 1))] := hl
  refine lv_aload_n hx hb dJx4a65c_isEmpty_aae02_0 rfl (lv_at hl 0 rfl) ?_
  refine xg_Jx4a65c_48_H C hW dJx4a65c_isEmpty_aae02_1 ?_
  refine lv_if_ne (tgt := 11) hx hb dJx4a65c_isEmpty_aae02_4 (by decide) (fun h => ?_) (fun h => ?_)
  · refine lv_iconst (v := 0) hx hb dJx4a65c_isEmpty_aae02_11 (by decide) ?_
    exact w_zret C hsz hr hk hW dJx4a65c_isEmpty_aae02_12 isB_0 ⟨by rw [if_neg h], rfl⟩
  · refine lv_iconst (v := 1) hx hb dJx4a65c_isEmpty_aae02_7 (by decide) ?_
    refine lv_goto (tgt := 12) hx hb dJx4a65c_isEmpty_aae02_8 (by decide) ?_
    exact w_zret C hsz hr hk hW dJx4a65c_isEmpty_aae02_12 isB_1 ⟨by rw [if_pos h], rfl⟩
theorem x_inV {g : XG} {i : Int32} (hin : vp_in i (nV g)) : vp_in i 10 ∧ 0 < nV g ∧ i.toNatClampNeg < nV g := by
  have h1 : i.toNatClampNeg < nV g := Nat.not_le.mp fun q => hin (Or.inr q)
  have h2 : nV g ≤ 10 := g.2.2.2.2.2.2.2.2.2
  exact ⟨fun q => q.elim (fun z => hin (Or.inl z)) (fun z => by omega), by omega, h1⟩
theorem mJx4a65c_elementData_915e3_V {l : Launch} {g : XG} {σ : XS} {i : Int32} (hin : vp_in i (nV g)) (sz : Nat) : Met l yJx4a65c_elementData_915e3 (cws yJx4a65c_elementData_915e3 cJx4a65c_elementData_915e3 2 (some (.object "java/lang/Object"))) ({ frames := 0, cells := 0, slots := 0, locals := 0 } : Room) (va_Pc [.ref (g.2.1 2), .int i] (WP g.1 (xw g) (xty g) σ sz)) (QcR (fun j : Fin (nV g) => .ref (vA g j)) (fun j τ => j.val = i.toNatClampNeg ∧ τ = σ) (WB g.1 (xw g) (xty g) σ sz) (va_A (xw g σ) sz)) 0 0 (va_A (xw g σ) sz) := by
  refine w_enterF (by decide +kernel) (Nat.le_of_ble_eq_true rfl) (fun p e s m args below meth c ls C hr hk hn hsz hW hl => ?_)
  obtain ⟨hin10, h0, hlt⟩ := x_inV hin
  have hx := C.1
  have hb := C.2.1
  have hl : lv_has ls 2 [(0, .ref (g.2.1 2)), (1, .int i)] := hl
  refine lv_aload_n hx hb dJx4a65c_elementData_915e3_0 rfl (lv_at hl 0 rfl) ?_
  refine xg_Jx4a65c_9_V C hW dJx4a65c_elementData_915e3_1 ?_
  refine lv_iload_n hx hb dJx4a65c_elementData_915e3_4 rfl (lv_at hl 1 rfl) ?_
  obtain ⟨q, he⟩ := xw_F g σ h0
  refine w_aldq C hW (q0 := q) (t0 := 2) he rfl hin10 dJx4a65c_elementData_915e3_5 ?_
  have e : (vs g)[i.toNatClampNeg]? = some ((vs g).get ⟨i.toNatClampNeg, hlt⟩) := List.getElem?_eq_getElem hlt
  try dsimp only
  rw [e]
  exact w_aret (f := fun j : Fin (nV g) => .ref (vA g j)) (r := ⟨i.toNatClampNeg, hlt⟩) C hsz hr (Or.inl ⟨_, rfl⟩) hk hW dJx4a65c_elementData_915e3_6 (Or.inr ⟨_, rfl⟩) ⟨rfl, rfl⟩
theorem mJx4a65c_get_915e3_V {l : Launch} {g : XG} {σ : XS} {i : Int32} (hin : vp_in i (nV g)) (sz : Nat) : Met l yJx4a65c_get_915e3 (cws yJx4a65c_get_915e3 cJx4a65c_get_915e3 2 (some (.object "java/lang/Object"))) ({ frames := 2, cells := 0, slots := 0, locals := 43 } : Room) (va_Pc [.ref (g.2.1 2), .int i] (WP g.1 (xw g) (xty g) σ sz)) (QcR (fun j : Fin (nV g) => .ref (vA g j)) (fun j τ => j.val = i.toNatClampNeg ∧ τ = σ) (WB g.1 (xw g) (xty g) σ sz) (va_A (xw g σ) sz)) 0 0 (va_A (xw g σ) sz) := by
  refine w_enterF (by decide +kernel) (Nat.le_of_ble_eq_true rfl) (fun p e s m args below meth c ls C hr hk hn hsz hW hl => ?_)
  obtain ⟨hin10, h0, hlt⟩ := x_inV hin
  have hn10 : nV g ≤ 10 := g.2.2.2.2.2.2.2.2.2
  have hi0 : ¬ i < 0 := fun q => hin (Or.inl q)
  have hi1 : i < nI (nV g) := by
    obtain ⟨k, hk1, rfl⟩ := vp_in_of hin (by omega)
    exact nI_lt hk1 (by omega)
  have hx := C.1
  have hb := C.2.1
  have hl : lv_has ls 2 [(0, .ref (g.2.1 2)), (1, .int i)] := hl
  refine lv_iload_n hx hb dJx4a65c_get_915e3_0 rfl (lv_at hl 1 rfl) ?_
  refine lv_aload_n hx hb dJx4a65c_get_915e3_1 rfl (lv_at hl 0 rfl) ?_
  refine xg_Jx4a65c_48_V C hW dJx4a65c_get_915e3_2 ?_
  refine w_calli hW (w_runS C hW (mJ15_checkIndex_7cf53 hi0 hi1 _) ⟨(lwg_at 439 (by decide +kernel) rfl), (lwg_at 80 (by decide +kernel) rfl), (lwg_at 437 (by decide +kernel) rfl)⟩ (lwg_at 438 (by decide +kernel) rfl) (np := 2) (by decide +kernel) ⟨rfl, rfl⟩ ⟨by decide, by decide⟩ rfl hl.1 rfl (Nat.le_of_ble_eq_true rfl) dJx4a65c_get_915e3_5 ⟨Nat.zero_le _, Nat.zero_le _⟩) (fun r τ H locs hq hW => ?_)
  obtain ⟨rfl, rfl⟩ := hq
  refine lv_pop hx hb dJx4a65c_get_915e3_8 rfl ?_
  refine lv_aload_n hx hb dJx4a65c_get_915e3_9 rfl (lv_at hl 0 rfl) ?_
  refine lv_iload_n hx hb dJx4a65c_get_915e3_10 rfl (lv_at hl 1 rfl) ?_
  refine w_callg hW (w_runV C hW (mJx4a65c_elementData_915e3_V hin _) ⟨(lwg_at 446 (by decide +kernel) rfl), (lwg_at 69 (by decide +kernel) rfl), (lwg_at 443 (by decide +kernel) rfl)⟩ (lwg_at 444 (by decide +kernel) rfl) (lwg_at 445 (by decide +kernel) rfl) (np := 1) (by decide +kernel) ⟨rfl, rfl⟩ ⟨by decide, by decide⟩ (ci := 0) rfl rfl (q0 := 2) rfl rfl hl.1 rfl (Nat.le_of_ble_eq_true rfl) dJx4a65c_get_915e3_11 ⟨Nat.zero_le _, Nat.zero_le _⟩) (fun j τ H locs hq hW => ?_)
  obtain ⟨hj, rfl⟩ := hq
  exact w_aret (f := fun j : Fin (nV g) => .ref (vA g j)) (r := j) C hsz hr (Or.inl ⟨_, rfl⟩) hk hW dJx4a65c_get_915e3_14 (Or.inr ⟨_, rfl⟩) ⟨hj, rfl⟩
theorem mJx4a65c_size_8abf5_V {l : Launch} {g : XG} {σ : XS} (sz : Nat) : Met l yJx4a65c_size_8abf5 (cws yJx4a65c_size_8abf5 cJx4a65c_size_8abf5 1 (some .int)) ({ frames := 0, cells := 0, slots := 0, locals := 0 } : Room) (va_Pc [.ref (g.2.1 2)] (WP g.1 (xw g) (xty g) σ sz)) (va_Qi (fun r τ => r = nI (nV g) ∧ τ = σ) (WB g.1 (xw g) (xty g) σ sz) (va_A (xw g σ) sz)) 0 0 (va_A (xw g σ) sz) := by
  refine w_enterF (by decide +kernel) (Nat.le_of_ble_eq_true rfl) (fun p e s m args below meth c ls C hr hk hn hsz hW hl => ?_)
  have hx := C.1
  have hb := C.2.1
  have hl : lv_has ls 1 [(0, .ref (g.2.1 2))] := hl
  refine lv_aload_n hx hb dJx4a65c_size_8abf5_0 rfl (lv_at hl 0 rfl) ?_
  refine xg_Jx4a65c_48_V C hW dJx4a65c_size_8abf5_1 ?_
  exact w_iret C hsz hr hk hW dJx4a65c_size_8abf5_4 ⟨rfl, rfl⟩
theorem mJx4a65c_isEmpty_aae02_V {l : Launch} {g : XG} {σ : XS} (sz : Nat) : Met l yJx4a65c_isEmpty_aae02 (cws yJx4a65c_isEmpty_aae02 cJx4a65c_isEmpty_aae02 1 (some .boolean)) ({ frames := 0, cells := 0, slots := 0, locals := 0 } : Room) (va_Pc [.ref (g.2.1 2)] (WP g.1 (xw g) (xty g) σ sz)) (va_Qi (fun r τ => r = (if nI (nV g) = 0 then 1 else 0) ∧ τ = σ) (WB g.1 (xw g) (xty g) σ sz) (va_A (xw g σ) sz)) 0 0 (va_A (xw g σ) sz) := by
  refine w_enterF (by decide +kernel) (Nat.le_of_ble_eq_true rfl) (fun p e s m args below meth c ls C hr hk hn hsz hW hl => ?_)
  have hx := C.1
  have hb := C.2.1
  have hl : lv_has ls 1 [(0, .ref (g.2.1 2))] := hl
  refine lv_aload_n hx hb dJx4a65c_isEmpty_aae02_0 rfl (lv_at hl 0 rfl) ?_
  refine xg_Jx4a65c_48_V C hW dJx4a65c_isEmpty_aae02_1 ?_
  refine lv_if_ne (tgt := 11) hx hb dJx4a65c_isEmpty_aae02_4 (by decide) (fun h => ?_) (fun h => ?_)
  · refine lv_iconst (v := 0) hx hb dJx4a65c_isEmpty_aae02_11 (by decide) ?_
    exact w_zret C hsz hr hk hW dJx4a65c_isEmpty_aae02_12 isB_0 ⟨by rw [if_neg h], rfl⟩
  · refine lv_iconst (v := 1) hx hb dJx4a65c_isEmpty_aae02_7 (by decide) ?_
    refine lv_goto (tgt := 12) hx hb dJx4a65c_isEmpty_aae02_8 (by decide) ?_
    exact w_zret C hsz hr hk hW dJx4a65c_isEmpty_aae02_12 isB_1 ⟨by rw [if_pos h], rfl⟩
section JROWS
variable {p : Program} {l : Launch} {e : Env} {R : Room} {s : State} {m : MethodId} {args : Array Value} {below : List Frame} {meth : Method} {c : Code} {H : Heap} {locs : List Loc} {cells slots : Nat} {Q : State → Prop}
variable {cc : ByteArray} {pc : Nat} {ls : Array Slot} {rest : List Value} {own : String} {nL : Nat}
variable {g : XG} {σ : XS} {A : Nat → Prop}
theorem xsiz_H_X10_81 (C : CallFix p m c cc nL s args lwg RX10) (hW : WI g.1 (xw g) (xty g) A s σ H locs) (hRf : 1 ≤ R.frames) (hRl : 20 ≤ R.locals) (hls : ls.size = nL) (hro : (rest.map fun v => v.category).sum ≤ 8) (hd : decode cc pc = .ok (.invokevirtual 81, 3)) (kk : ∀ (H : Heap) (locs : List Loc), WI g.1 (xw g) (xty g) A s σ H locs → W p l e R s m args below meth c H locs 0 0 Q (F0 m (pc + 3) ls (.int (nI (nH g)) :: rest))) : W p l e R s m args below meth c H locs 0 0 Q (F0 m pc ls (.ref (g.2.1 1) :: rest)) :=
  w_calli hW (w_runV C hW (mJx4a65c_size_8abf5_H _) ⟨(lwg_at 338 (by decide +kernel) rfl), (lwg_at 69 (by decide +kernel) rfl), (lwg_at 335 (by decide +kernel) rfl)⟩ (lwg_at 336 (by decide +kernel) rfl) (lwg_at 337 (by decide +kernel) rfl) (np := 0) (by decide +kernel) ⟨rfl, rfl⟩ ⟨hRf, hRl⟩ (ci := 0) rfl rfl (q0 := 1) rfl rfl hls rfl hro hd ⟨Nat.zero_le _, Nat.zero_le _⟩) (fun r τ H2 locs2 hq hW2 => by obtain ⟨h1, h2⟩ := hq; subst h1; subst h2; exact kk _ _ hW2)
theorem xsiz_V_X10_81 (C : CallFix p m c cc nL s args lwg RX10) (hW : WI g.1 (xw g) (xty g) A s σ H locs) (hRf : 1 ≤ R.frames) (hRl : 20 ≤ R.locals) (hls : ls.size = nL) (hro : (rest.map fun v => v.category).sum ≤ 8) (hd : decode cc pc = .ok (.invokevirtual 81, 3)) (kk : ∀ (H : Heap) (locs : List Loc), WI g.1 (xw g) (xty g) A s σ H locs → W p l e R s m args below meth c H locs 0 0 Q (F0 m (pc + 3) ls (.int (nI (nV g)) :: rest))) : W p l e R s m args below meth c H locs 0 0 Q (F0 m pc ls (.ref (g.2.1 2) :: rest)) :=
  w_calli hW (w_runV C hW (mJx4a65c_size_8abf5_V _) ⟨(lwg_at 338 (by decide +kernel) rfl), (lwg_at 69 (by decide +kernel) rfl), (lwg_at 335 (by decide +kernel) rfl)⟩ (lwg_at 336 (by decide +kernel) rfl) (lwg_at 337 (by decide +kernel) rfl) (np := 0) (by decide +kernel) ⟨rfl, rfl⟩ ⟨hRf, hRl⟩ (ci := 0) rfl rfl (q0 := 2) rfl rfl hls rfl hro hd ⟨Nat.zero_le _, Nat.zero_le _⟩) (fun r τ H2 locs2 hq hW2 => by obtain ⟨h1, h2⟩ := hq; subst h1; subst h2; exact kk _ _ hW2)
theorem xget_H_X10_124 (C : CallFix p m c cc nL s args lwg RX10) (hW : WI g.1 (xw g) (xty g) A s σ H locs) (hRf : 3 ≤ R.frames) (hRl : 64 ≤ R.locals) (hls : ls.size = nL) (hro : (rest.map fun v => v.category).sum ≤ 8) {i : Int32} (hin : vp_in i (nH g)) (hd : decode cc pc = .ok (.invokevirtual 124, 3)) (kk : ∀ (j : Fin (nH g)) (H : Heap) (locs : List Loc), j.val = i.toNatClampNeg → WI g.1 (xw g) (xty g) A s σ H locs → W p l e R s m args below meth c H locs 0 0 Q (F0 m (pc + 3) ls (.ref (hA g j) :: rest))) : W p l e R s m args below meth c H locs 0 0 Q (F0 m pc ls (.int i :: .ref (g.2.1 1) :: rest)) :=
  w_callg hW (w_runV C hW (mJx4a65c_get_915e3_H hin _) ⟨(lwg_at 436 (by decide +kernel) rfl), (lwg_at 69 (by decide +kernel) rfl), (lwg_at 433 (by decide +kernel) rfl)⟩ (lwg_at 434 (by decide +kernel) rfl) (lwg_at 435 (by decide +kernel) rfl) (np := 1) (by decide +kernel) ⟨rfl, rfl⟩ ⟨hRf, hRl⟩ (ci := 0) rfl rfl (q0 := 1) rfl rfl hls rfl hro hd ⟨Nat.zero_le _, Nat.zero_le _⟩) (fun j τ H2 locs2 hq hW2 => by obtain ⟨hj, h2⟩ := hq; subst h2; exact kk j _ _ hj hW2)
theorem xget_V_X10_124 (C : CallFix p m c cc nL s args lwg RX10) (hW : WI g.1 (xw g) (xty g) A s σ H locs) (hRf : 3 ≤ R.frames) (hRl : 64 ≤ R.locals) (hls : ls.size = nL) (hro : (rest.map fun v => v.category).sum ≤ 8) {i : Int32} (hin : vp_in i (nV g)) (hd : decode cc pc = .ok (.invokevirtual 124, 3)) (kk : ∀ (j : Fin (nV g)) (H : Heap) (locs : List Loc), j.val = i.toNatClampNeg → WI g.1 (xw g) (xty g) A s σ H locs → W p l e R s m args below meth c H locs 0 0 Q (F0 m (pc + 3) ls (.ref (vA g j) :: rest))) : W p l e R s m args below meth c H locs 0 0 Q (F0 m pc ls (.int i :: .ref (g.2.1 2) :: rest)) :=
  w_callg hW (w_runV C hW (mJx4a65c_get_915e3_V hin _) ⟨(lwg_at 436 (by decide +kernel) rfl), (lwg_at 69 (by decide +kernel) rfl), (lwg_at 433 (by decide +kernel) rfl)⟩ (lwg_at 434 (by decide +kernel) rfl) (lwg_at 435 (by decide +kernel) rfl) (np := 1) (by decide +kernel) ⟨rfl, rfl⟩ ⟨hRf, hRl⟩ (ci := 0) rfl rfl (q0 := 2) rfl rfl hls rfl hro hd ⟨Nat.zero_le _, Nat.zero_le _⟩) (fun j τ H2 locs2 hq hW2 => by obtain ⟨hj, h2⟩ := hq; subst h2; exact kk j _ _ hj hW2)
theorem xemp_H_X10_194 (C : CallFix p m c cc nL s args lwg RX10) (hW : WI g.1 (xw g) (xty g) A s σ H locs) (hRf : 1 ≤ R.frames) (hRl : 20 ≤ R.locals) (hls : ls.size = nL) (hro : (rest.map fun v => v.category).sum ≤ 8) (hd : decode cc pc = .ok (.invokevirtual 194, 3)) (kk : ∀ (H : Heap) (locs : List Loc), WI g.1 (xw g) (xty g) A s σ H locs → W p l e R s m args below meth c H locs 0 0 Q (F0 m (pc + 3) ls (.int (if nI (nH g) = 0 then 1 else 0) :: rest))) : W p l e R s m args below meth c H locs 0 0 Q (F0 m pc ls (.ref (g.2.1 1) :: rest)) :=
  w_calli hW (w_runV C hW (mJx4a65c_isEmpty_aae02_H _) ⟨(lwg_at 789 (by decide +kernel) rfl), (lwg_at 69 (by decide +kernel) rfl), (lwg_at 786 (by decide +kernel) rfl)⟩ (lwg_at 787 (by decide +kernel) rfl) (lwg_at 788 (by decide +kernel) rfl) (np := 0) (by decide +kernel) ⟨rfl, rfl⟩ ⟨hRf, hRl⟩ (ci := 0) rfl rfl (q0 := 1) rfl rfl hls rfl hro hd ⟨Nat.zero_le _, Nat.zero_le _⟩) (fun r τ H2 locs2 hq hW2 => by obtain ⟨h1, h2⟩ := hq; subst h1; subst h2; exact kk _ _ hW2)
theorem xemp_V_X10_194 (C : CallFix p m c cc nL s args lwg RX10) (hW : WI g.1 (xw g) (xty g) A s σ H locs) (hRf : 1 ≤ R.frames) (hRl : 20 ≤ R.locals) (hls : ls.size = nL) (hro : (rest.map fun v => v.category).sum ≤ 8) (hd : decode cc pc = .ok (.invokevirtual 194, 3)) (kk : ∀ (H : Heap) (locs : List Loc), WI g.1 (xw g) (xty g) A s σ H locs → W p l e R s m args below meth c H locs 0 0 Q (F0 m (pc + 3) ls (.int (if nI (nV g) = 0 then 1 else 0) :: rest))) : W p l e R s m args below meth c H locs 0 0 Q (F0 m pc ls (.ref (g.2.1 2) :: rest)) :=
  w_calli hW (w_runV C hW (mJx4a65c_isEmpty_aae02_V _) ⟨(lwg_at 789 (by decide +kernel) rfl), (lwg_at 69 (by decide +kernel) rfl), (lwg_at 786 (by decide +kernel) rfl)⟩ (lwg_at 787 (by decide +kernel) rfl) (lwg_at 788 (by decide +kernel) rfl) (np := 0) (by decide +kernel) ⟨rfl, rfl⟩ ⟨hRf, hRl⟩ (ci := 0) rfl rfl (q0 := 2) rfl rfl hls rfl hro hd ⟨Nat.zero_le _, Nat.zero_le _⟩) (fun r τ H2 locs2 hq hW2 => by obtain ⟨h1, h2⟩ := hq; subst h1; subst h2; exact kk _ _ hW2)
theorem xsiz_H_X0_42 (C : CallFix p m c cc nL s args lwg RX0) (hW : WI g.1 (xw g) (xty g) A s σ H locs) (hRf : 1 ≤ R.frames) (hRl : 20 ≤ R.locals) (hls : ls.size = nL) (hro : (rest.map fun v => v.category).sum ≤ 8) (hd : decode cc pc = .ok (.invokevirtual 42, 3)) (kk : ∀ (H : Heap) (locs : List Loc), WI g.1 (xw g) (xty g) A s σ H locs → W p l e R s m args below meth c H locs 0 0 Q (F0 m (pc + 3) ls (.int (nI (nH g)) :: rest))) : W p l e R s m args below meth c H locs 0 0 Q (F0 m pc ls (.ref (g.2.1 1) :: rest)) :=
  w_calli hW (w_runV C hW (mJx4a65c_size_8abf5_H _) ⟨(lwg_at 338 (by decide +kernel) rfl), (lwg_at 69 (by decide +kernel) rfl), (lwg_at 795 (by decide +kernel) rfl)⟩ (lwg_at 336 (by decide +kernel) rfl) (lwg_at 337 (by decide +kernel) rfl) (np := 0) (by decide +kernel) ⟨rfl, rfl⟩ ⟨hRf, hRl⟩ (ci := 0) rfl rfl (q0 := 1) rfl rfl hls rfl hro hd ⟨Nat.zero_le _, Nat.zero_le _⟩) (fun r τ H2 locs2 hq hW2 => by obtain ⟨h1, h2⟩ := hq; subst h1; subst h2; exact kk _ _ hW2)
theorem xsiz_H_X6_123 (C : CallFix p m c cc nL s args lwg RX6) (hW : WI g.1 (xw g) (xty g) A s σ H locs) (hRf : 1 ≤ R.frames) (hRl : 20 ≤ R.locals) (hls : ls.size = nL) (hro : (rest.map fun v => v.category).sum ≤ 8) (hd : decode cc pc = .ok (.invokevirtual 123, 3)) (kk : ∀ (H : Heap) (locs : List Loc), WI g.1 (xw g) (xty g) A s σ H locs → W p l e R s m args below meth c H locs 0 0 Q (F0 m (pc + 3) ls (.int (nI (nH g)) :: rest))) : W p l e R s m args below meth c H locs 0 0 Q (F0 m pc ls (.ref (g.2.1 1) :: rest)) :=
  w_calli hW (w_runV C hW (mJx4a65c_size_8abf5_H _) ⟨(lwg_at 338 (by decide +kernel) rfl), (lwg_at 69 (by decide +kernel) rfl), (lwg_at 655 (by decide +kernel) rfl)⟩ (lwg_at 336 (by decide +kernel) rfl) (lwg_at 337 (by decide +kernel) rfl) (np := 0) (by decide +kernel) ⟨rfl, rfl⟩ ⟨hRf, hRl⟩ (ci := 0) rfl rfl (q0 := 1) rfl rfl hls rfl hro hd ⟨Nat.zero_le _, Nat.zero_le _⟩) (fun r τ H2 locs2 hq hW2 => by obtain ⟨h1, h2⟩ := hq; subst h1; subst h2; exact kk _ _ hW2)
theorem xget_H_X6_134 (C : CallFix p m c cc nL s args lwg RX6) (hW : WI g.1 (xw g) (xty g) A s σ H locs) (hRf : 3 ≤ R.frames) (hRl : 64 ≤ R.locals) (hls : ls.size = nL) (hro : (rest.map fun v => v.category).sum ≤ 8) {i : Int32} (hin : vp_in i (nH g)) (hd : decode cc pc = .ok (.invokevirtual 134, 3)) (kk : ∀ (j : Fin (nH g)) (H : Heap) (locs : List Loc), j.val = i.toNatClampNeg → WI g.1 (xw g) (xty g) A s σ H locs → W p l e R s m args below meth c H locs 0 0 Q (F0 m (pc + 3) ls (.ref (hA g j) :: rest))) : W p l e R s m args below meth c H locs 0 0 Q (F0 m pc ls (.int i :: .ref (g.2.1 1) :: rest)) :=
  w_callg hW (w_runV C hW (mJx4a65c_get_915e3_H hin _) ⟨(lwg_at 436 (by decide +kernel) rfl), (lwg_at 69 (by decide +kernel) rfl), (lwg_at 664 (by decide +kernel) rfl)⟩ (lwg_at 434 (by decide +kernel) rfl) (lwg_at 435 (by decide +kernel) rfl) (np := 1) (by decide +kernel) ⟨rfl, rfl⟩ ⟨hRf, hRl⟩ (ci := 0) rfl rfl (q0 := 1) rfl rfl hls rfl hro hd ⟨Nat.zero_le _, Nat.zero_le _⟩) (fun j τ H2 locs2 hq hW2 => by obtain ⟨hj, h2⟩ := hq; subst h2; exact kk j _ _ hj hW2)
theorem xget_H_X8_39 (C : CallFix p m c cc nL s args lwg RX8) (hW : WI g.1 (xw g) (xty g) A s σ H locs) (hRf : 3 ≤ R.frames) (hRl : 64 ≤ R.locals) (hls : ls.size = nL) (hro : (rest.map fun v => v.category).sum ≤ 8) {i : Int32} (hin : vp_in i (nH g)) (hd : decode cc pc = .ok (.invokevirtual 39, 3)) (kk : ∀ (j : Fin (nH g)) (H : Heap) (locs : List Loc), j.val = i.toNatClampNeg → WI g.1 (xw g) (xty g) A s σ H locs → W p l e R s m args below meth c H locs 0 0 Q (F0 m (pc + 3) ls (.ref (hA g j) :: rest))) : W p l e R s m args below meth c H locs 0 0 Q (F0 m pc ls (.int i :: .ref (g.2.1 1) :: rest)) :=
  w_callg hW (w_runV C hW (mJx4a65c_get_915e3_H hin _) ⟨(lwg_at 436 (by decide +kernel) rfl), (lwg_at 69 (by decide +kernel) rfl), (lwg_at 689 (by decide +kernel) rfl)⟩ (lwg_at 434 (by decide +kernel) rfl) (lwg_at 435 (by decide +kernel) rfl) (np := 1) (by decide +kernel) ⟨rfl, rfl⟩ ⟨hRf, hRl⟩ (ci := 0) rfl rfl (q0 := 1) rfl rfl hls rfl hro hd ⟨Nat.zero_le _, Nat.zero_le _⟩) (fun j τ H2 locs2 hq hW2 => by obtain ⟨hj, h2⟩ := hq; subst h2; exact kk j _ _ hj hW2)
theorem xsiz_H_X8_47 (C : CallFix p m c cc nL s args lwg RX8) (hW : WI g.1 (xw g) (xty g) A s σ H locs) (hRf : 1 ≤ R.frames) (hRl : 20 ≤ R.locals) (hls : ls.size = nL) (hro : (rest.map fun v => v.category).sum ≤ 8) (hd : decode cc pc = .ok (.invokevirtual 47, 3)) (kk : ∀ (H : Heap) (locs : List Loc), WI g.1 (xw g) (xty g) A s σ H locs → W p l e R s m args below meth c H locs 0 0 Q (F0 m (pc + 3) ls (.int (nI (nH g)) :: rest))) : W p l e R s m args below meth c H locs 0 0 Q (F0 m pc ls (.ref (g.2.1 1) :: rest)) :=
  w_calli hW (w_runV C hW (mJx4a65c_size_8abf5_H _) ⟨(lwg_at 338 (by decide +kernel) rfl), (lwg_at 69 (by decide +kernel) rfl), (lwg_at 675 (by decide +kernel) rfl)⟩ (lwg_at 336 (by decide +kernel) rfl) (lwg_at 337 (by decide +kernel) rfl) (np := 0) (by decide +kernel) ⟨rfl, rfl⟩ ⟨hRf, hRl⟩ (ci := 0) rfl rfl (q0 := 1) rfl rfl hls rfl hro hd ⟨Nat.zero_le _, Nat.zero_le _⟩) (fun r τ H2 locs2 hq hW2 => by obtain ⟨h1, h2⟩ := hq; subst h1; subst h2; exact kk _ _ hW2)
end JROWS
