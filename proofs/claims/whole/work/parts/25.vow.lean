/-! vow: the new one comes behind the others -/
theorem pv_0 {α : Type} (x h v p q : α) (r w : List α) : ((x :: h :: v :: p :: (r ++ w)) ++ [q]).Perm ((x :: h :: v :: (r ++ w)) ++ [p, q]) := by
  classical
  rw [List.perm_iff_count]
  intro a
  simp only [List.count_append, List.count_cons, List.count_nil]
  omega
theorem pv_1 {α : Type} (x h v p q : α) (r w : List α) : ((x :: h :: v :: (r ++ w)) ++ [p, q]).Perm ((x :: h :: p :: (r ++ w)) ++ [q, v]) := by
  classical
  rw [List.perm_iff_count]
  intro a
  simp only [List.count_append, List.count_cons, List.count_nil]
  omega
theorem pv_2 {α : Type} (x h v p q e : α) (r w m : List α) : ((x :: h :: v :: (r ++ (w ++ (e :: m)))) ++ [p, q]).Perm ((x :: h :: p :: (r ++ (w ++ m))) ++ [q, v, e]) := by
  classical
  rw [List.perm_iff_count]
  intro a
  simp only [List.count_append, List.count_cons, List.count_nil]
  omega
theorem pv_3 {α : Type} (x h v p q e : α) (r w m : List α) : ((x :: h :: p :: (r ++ (w ++ m))) ++ [q, v, e]).Perm (x :: h :: v :: p :: (r ++ (w ++ (e :: (m ++ [q]))))) := by
  classical
  rw [List.perm_iff_count]
  intro a
  simp only [List.count_append, List.count_cons, List.count_nil]
  omega
def xrestV (g : XG) (σ : XS) : va_W := (xfix g σ).tail.tail.tail.tail
theorem xw_V0 (g : XG) (τ : XS) : xw g τ = xX0 g τ :: (g.2.1 1, .inr (0, hlFs g)) :: (g.2.1 2, .inr (0, vlFs g)) :: (g.2.1 3, .inr (6, pFs g τ)) :: (xrestV g τ ++ (xhw g ++ xvw g)) := rfl
theorem xw_addV (g : XG) (τ : XS) (ed : Nat) (x : VRec) (h : nV g < 10) : xw (addV g ed x h) τ = xX0 g τ :: (g.2.1 1, .inr (0, hlFs g)) :: (g.2.1 2, .inr (0, [.int (g.2.2.2.2.2.2.1 + 1), .ref (if nV g = 0 then ed else g.2.2.2.2.2.2.2.1), .int (nI (nV g + 1))])) :: (g.2.1 3, .inr (6, pFs g τ)) :: (xrestV g τ ++ (xhw g ++ ((((if nV g = 0 then ed else g.2.2.2.2.2.2.2.1), .inl (g.2.2.2.2.1, 10, .inr (.inr (.inr (.inr (fun i => ((vs g ++ [x])[i]?).map (fun h => h.1))))))) : Nat × va_E) :: ((vs g).map vCell ++ [vCell x])))) := by
  have hn : nV (addV g ed x h) = nV g + 1 := by show (vs g ++ [x]).length = _; rw [List.length_append]; rfl
  rw [xw_V0]
  have e1 : xvw (addV g ed x h) = vEl (addV g ed x h) :: ((vs g).map vCell ++ [vCell x]) := by
    unfold xvw
    rw [if_neg (by rw [hn]; omega)]
    show [vEl (addV g ed x h)] ++ (vs g ++ [x]).map vCell = _
    rw [List.map_append]
    rfl
  rw [e1]
  show xX0 g τ :: (g.2.1 1, .inr (0, hlFs g)) :: (g.2.1 2, .inr (0, [.int (g.2.2.2.2.2.2.1 + 1), .ref (if nV g = 0 then ed else g.2.2.2.2.2.2.2.1), .int (nI (nV (addV g ed x h)))])) :: _ = _
  rw [hn]
  rfl
set_option maxHeartbeats 8000000 in
set_option maxRecDepth 100000 in
theorem mX10_vow {l : Launch} {g : XG} {σ : XS} {P : Int32 → XG × XS → Prop} {em : Nat} (hq : qX10_vow g (fun τ => (nV g = 0 → g.2.2.2.2.2.2.2.1 = em) ∧ isB (xP τ 4) ∧ isB (xP τ 6) ∧ ∃ (hlt : nV g < 10), ∀ q ed, P (nI (nV g)) (addV g ed (q, xP τ 4, xP τ 5, xP τ 6, xP τ 7) hlt, xsP τ 1 0)) σ (fun r τ => P r (g, τ))) (sz : Nat) :
    Met l yX10_vow (cws yX10_vow cX10_vow 1 (some .int)) ({ frames := 9, cells := 2, slots := 14, locals := 200 } : Room) (va_Pc [.ref (g.2.1 0)] (WZ g.1 (xw g) (xty g) em σ sz)) (va_Qi P (WB g.1 w2 (xty g) (g, σ) sz) (va_A (xw g σ) sz)) 2 14 (va_A (xw g σ) sz) := by
  refine w_enterZ (ww := xw g) (σ := σ) (by decide +kernel) (Nat.le_of_ble_eq_true rfl) (fun p e s m args below meth c ls C hr hk hn hsz hW hZ hl => ?_)
  refine wX10_vow C (Nat.le_of_ble_eq_true rfl) (Nat.le_of_ble_eq_true rfl) (P := fun r τ => P r (g, τ)) (fun pc ls v τ H locs hd hW hq => W.widen (k := 2) (n := 14) (by omega) (by omega) (w_iret (ww := w2) (σ := (g, σ)) (σ' := (g, τ)) C hsz hr hk hW hd hq)) (fun τ H locs ls hW hl hq => ?_) hW hl hq
  obtain ⟨hem, hz0, hz2, hlt, hq⟩ := hq
  have hx := C.1
  have hb := C.2.1
  refine lv_aload_n hx hb dX10_vow_35 rfl (lv_at hl 0 rfl) ?_
  refine xg_X10_16 C hW dX10_vow_36 ?_
  have hW0 : WI g.1 idw (xty g) (va_A (xw g σ) sz) s (xw g τ) H locs := hW
  refine w_new C hW0 inVg tyX9 tyX9_ok (lwg_at 339 (by decide +kernel) rfl) (lwg_at 340 (by decide +kernel) rfl) (lwg_at 75 (by decide +kernel) rfl) (ci := 10) rfl (fs := [.int 0, .int 0, .int 0, .int 0]) (fun j hj => by rcases (show j = 0 ∨ j = 1 ∨ j = 2 ∨ j = 3 by omega) with rfl | rfl | rfl | rfl <;> rfl) (Nat.le_of_ble_eq_true rfl) (Nat.le_of_ble_eq_true rfl) dX10_vow_39 (fun q H hW1 => ?_)
  refine lv_dup hx hb dX10_vow_42 rfl ?_
  refine lv_aload_n hx hb dX10_vow_43 rfl (lv_at hl 0 rfl) ?_
  refine w_get C hW1 inXg (q0 := 0) (ci := 11) (k := 2) rfl rfl (by decide) xl_X10_22 rfl rfl dX10_vow_44 ?_
  have hW2 : WI g.1 idw (xty g) (va_A (xw g σ) sz) s ((xX0 g τ :: (g.2.1 1, .inr (0, hlFs g)) :: (g.2.1 2, .inr (0, vlFs g)) :: (xrestV g τ ++ (xhw g ++ xvw g))) ++ [(g.2.1 3, .inr (6, pFs g τ)), (q, .inr (10, [.int 0, .int 0, .int 0, .int 0]))]) H locs := by
    refine wi_perm hW1 ?_
    rw [xw_V0]
    exact pv_0 _ _ _ _ _ _ _
  refine f_callv (wr := xX0 g τ :: (g.2.1 1, .inr (0, hlFs g)) :: (g.2.1 2, .inr (0, vlFs g)) :: (xrestV g τ ++ (xhw g ++ xvw g))) (ww := idw) hW2 (w_runI (ww := idw) (As := [.ref (g.2.1 3)]) C (wi_right hW2) (mX9_init hz0 hz2 _) w_blind (fun U hU hV => w_pre (wi_right hW2) U hU hV) ⟨(lwg_at 343 (by decide +kernel) rfl), (lwg_at 75 (by decide +kernel) rfl), (lwg_at 341 (by decide +kernel) rfl)⟩ rfl (lwg_at 342 (by decide +kernel) rfl) (np := 1) (by decide +kernel) ⟨rfl, rfl⟩ ⟨Nat.le_of_ble_eq_true rfl, Nat.le_of_ble_eq_true rfl⟩ rfl hl.1 rfl (Nat.le_of_ble_eq_true rfl) dX10_vow_47 ⟨Nat.le_of_ble_eq_true rfl, Nat.le_of_ble_eq_true rfl⟩) (fun u H locs hu hW3 => ?_)
  subst hu
  by_cases h0 : nV g = 0
  · have hnil : vs g = [] := List.eq_nil_of_length_eq_zero h0
    have hxh : xvw g = [] := by unfold xvw; rw [if_pos h0, hnil]; rfl
    have hL : vlFs g = [.int g.2.2.2.2.2.2.1, .ref em, .int 0] := by show ([Value.int g.2.2.2.2.2.2.1, Value.ref g.2.2.2.2.2.2.2.1, Value.int (nI (nV g))] : List Value) = _; rw [hem h0, h0]; rfl
    have hW4 : WI g.1 idw (xty g) (va_A (xw g σ) sz) s ((xX0 g τ :: (g.2.1 1, .inr (0, hlFs g)) :: (g.2.1 3, .inr (6, pFs g τ)) :: (xrestV g τ ++ xhw g)) ++ [vCell (q, xP τ 4, xP τ 5, xP τ 6, xP τ 7), (g.2.1 2, .inr (0, [.int g.2.2.2.2.2.2.1, .ref em, .int 0]))]) H locs := by
      refine wi_perm hW3 ?_
      rw [hxh, List.append_nil, hL]
      exact pv_1 _ _ _ _ _ _ _
    refine f_calli (wr := xX0 g τ :: (g.2.1 1, .inr (0, hlFs g)) :: (g.2.1 3, .inr (6, pFs g τ)) :: (xrestV g τ ++ xhw g)) (ww := idw) hW4 (f_runV (ww := idw) (As := [.ref q]) C (wi_right hW4) (mJx4a65c_add_9ea2d_E (ci := 10) rfl (fun U h => h.2.1.2.2.2.2.2.2.2.2.2.2) (t4 := 2) rfl _) wz_blind (fun U hU hV => wz_pre (wi_right hW4) hZ U hU hV) ⟨(lwg_at 368 (by decide +kernel) rfl), (lwg_at 69 (by decide +kernel) rfl), (lwg_at 365 (by decide +kernel) rfl)⟩ (lwg_at 366 (by decide +kernel) rfl) (lwg_at 367 (by decide +kernel) rfl) (np := 1) (by decide +kernel) ⟨rfl, rfl⟩ ⟨Nat.le_of_ble_eq_true rfl, Nat.le_of_ble_eq_true rfl⟩ (ci := 0) rfl rfl (q0 := 1) rfl rfl hl.1 rfl (Nat.le_of_ble_eq_true rfl) dX10_vow_50 ⟨Nat.le_of_ble_eq_true rfl, Nat.le_of_ble_eq_true rfl⟩) (fun r1 u H locs hu hW5 => ?_)
    obtain ⟨ed, rfl⟩ := hu
    have hW5 : WI (addV g ed (q, xP τ 4, xP τ 5, xP τ 6, xP τ 7) hlt).1 (xw (addV g ed (q, xP τ 4, xP τ 5, xP τ 6, xP τ 7) hlt)) (xty (addV g ed (q, xP τ 4, xP τ 5, xP τ 6, xP τ 7) hlt)) (va_A (xw g σ) sz) s τ H locs := by
      show WI g.1 idw (xty g) (va_A (xw g σ) sz) s (xw (addV g ed (q, xP τ 4, xP τ 5, xP τ 6, xP τ 7) hlt) τ) H locs
      rw [xw_addV, if_pos h0, h0, hnil, ← va_up_lastV (l := []) (x := (q, xP τ 4, xP τ 5, xP τ 6, xP τ 7)) (q := q) rfl, ← va_up_0V]
      have h9 : (xX0 g τ :: (g.2.1 1, .inr (0, hlFs g)) :: (g.2.1 3, .inr (6, pFs g τ)) :: (xrestV g τ ++ xhw g) : va_W) = xX0 g τ :: (g.2.1 1, .inr (0, hlFs g)) :: (g.2.1 3, .inr (6, pFs g τ)) :: (xrestV g τ ++ (xhw g ++ [])) := by rw [List.append_nil]
      rw [h9] at hW5
      exact wi_perm hW5 (pv_3 (m := []) _ _ _ _ _ _ _ _)
    · skip
      refine lv_pop hx hb dX10_vow_53 rfl ?_
      refine lv_aload_n hx hb dX10_vow_54 rfl (lv_at hl 0 rfl) ?_
      refine xg_X10_22 (g := (addV g ed (q, xP τ 4, xP τ 5, xP τ 6, xP τ 7) hlt)) (σ := τ) C hW5 dX10_vow_55 ?_
      refine lv_iconst (v := 0) hx hb dX10_vow_58 (by decide) ?_
      refine xp_X10_64 (g := (addV g ed (q, xP τ 4, xP τ 5, xP τ 6, xP τ 7) hlt)) (σ := τ) C hW5 dX10_vow_59 (fun τ1 H locs e1 hW6 => ?_)
      subst e1
      refine lv_aload_n hx hb dX10_vow_62 rfl (lv_at hl 0 rfl) ?_
      refine xg_X10_16 (g := (addV g ed (q, xP τ 4, xP τ 5, xP τ 6, xP τ 7) hlt)) (σ := xsP τ 1 0) C hW6 dX10_vow_63 ?_
      refine w_calli hW6 (w_runV C hW6 (mJx4a65c_size_8abf5_V (g := (addV g ed (q, xP τ 4, xP τ 5, xP τ 6, xP τ 7) hlt)) _) ⟨(lwg_at 338 (by decide +kernel) rfl), (lwg_at 69 (by decide +kernel) rfl), (lwg_at 335 (by decide +kernel) rfl)⟩ (lwg_at 336 (by decide +kernel) rfl) (lwg_at 337 (by decide +kernel) rfl) (np := 0) (by decide +kernel) ⟨rfl, rfl⟩ ⟨Nat.le_of_ble_eq_true rfl, Nat.le_of_ble_eq_true rfl⟩ (ci := 0) rfl rfl (q0 := 2) rfl rfl hl.1 rfl (Nat.le_of_ble_eq_true rfl) dX10_vow_66 ⟨Nat.le_of_ble_eq_true rfl, Nat.le_of_ble_eq_true rfl⟩) (fun r2 τ2 H locs hu hW7 => ?_)
      obtain ⟨h1, h2⟩ := hu
      subst h1
      subst h2
      refine lv_iconst (v := 1) hx hb dX10_vow_69 (by decide) ?_
      refine lv_isub hx hb dX10_vow_70 ?_
      refine W.widen (k := 2) (n := 14) (by omega) (by omega) ?_
      have hr3 : nI (nV (addV g ed (q, xP τ 4, xP τ 5, xP τ 6, xP τ 7) hlt)) - 1 = nI (nV g) := by
        rw [show nV (addV g ed (q, xP τ 4, xP τ 5, xP τ 6, xP τ 7) hlt) = nV g + 1 by show (vs g ++ [_]).length = _; rw [List.length_append]; rfl]
        exact nI_pred _
      rw [hr3]
      exact w_iret (ww := w2) (σ := (g, σ)) (σ' := ((addV g ed (q, xP τ 4, xP τ 5, xP τ 6, xP τ 7) hlt), xsP τ 1 0)) C hsz hr hk hW7 dX10_vow_71 (hq _ _)
  · have hxh : xvw g = vEl g :: (vs g).map vCell := by unfold xvw; rw [if_neg h0]; rfl
    have hW4 : WI g.1 idw (xty g) (va_A (xw g σ) sz) s ((xX0 g τ :: (g.2.1 1, .inr (0, hlFs g)) :: (g.2.1 3, .inr (6, pFs g τ)) :: (xrestV g τ ++ (xhw g ++ (vs g).map vCell))) ++ [vCell (q, xP τ 4, xP τ 5, xP τ 6, xP τ 7), (g.2.1 2, .inr (0, vlFs g)), vEl g]) H locs := by
      refine wi_perm hW3 ?_
      rw [hxh]
      exact pv_2 _ _ _ _ _ _ _ _ _
    refine f_calli (wr := xX0 g τ :: (g.2.1 1, .inr (0, hlFs g)) :: (g.2.1 3, .inr (6, pFs g τ)) :: (xrestV g τ ++ (xhw g ++ (vs g).map vCell))) (ww := idw) hW4 (f_runV (ww := idw) (As := [.ref q]) C (wi_right hW4) (mJx4a65c_add_9ea2d_N (ci := 10) rfl (fun U h => h.2.1.2.2.2.2.2.2.2.2.2.2) (t4 := 2) rfl hlt _) w_blind (fun U hU hV => w_pre (wi_right hW4) U hU hV) ⟨(lwg_at 368 (by decide +kernel) rfl), (lwg_at 69 (by decide +kernel) rfl), (lwg_at 365 (by decide +kernel) rfl)⟩ (lwg_at 366 (by decide +kernel) rfl) (lwg_at 367 (by decide +kernel) rfl) (np := 1) (by decide +kernel) ⟨rfl, rfl⟩ ⟨Nat.le_of_ble_eq_true rfl, Nat.le_of_ble_eq_true rfl⟩ (ci := 0) rfl rfl (q0 := 1) rfl rfl hl.1 rfl (Nat.le_of_ble_eq_true rfl) dX10_vow_50 ⟨Nat.le_of_ble_eq_true rfl, Nat.le_of_ble_eq_true rfl⟩) (fun r1 u H locs hu hW5 => ?_)
    subst hu
    have hW5 : WI (addV g 0 (q, xP τ 4, xP τ 5, xP τ 6, xP τ 7) hlt).1 (xw (addV g 0 (q, xP τ 4, xP τ 5, xP τ 6, xP τ 7) hlt)) (xty (addV g 0 (q, xP τ 4, xP τ 5, xP τ 6, xP τ 7) hlt)) (va_A (xw g σ) sz) s τ H locs := by
      show WI g.1 idw (xty g) (va_A (xw g σ) sz) s (xw (addV g 0 (q, xP τ 4, xP τ 5, xP τ 6, xP τ 7) hlt) τ) H locs
      rw [xw_addV, if_neg h0, ← va_up_lastV (l := vs g) (x := (q, xP τ 4, xP τ 5, xP τ 6, xP τ 7)) (q := q) rfl]
      exact wi_perm hW5 (pv_3 _ _ _ _ _ _ _ _ _)
    · skip
      refine lv_pop hx hb dX10_vow_53 rfl ?_
      refine lv_aload_n hx hb dX10_vow_54 rfl (lv_at hl 0 rfl) ?_
      refine xg_X10_22 (g := (addV g 0 (q, xP τ 4, xP τ 5, xP τ 6, xP τ 7) hlt)) (σ := τ) C hW5 dX10_vow_55 ?_
      refine lv_iconst (v := 0) hx hb dX10_vow_58 (by decide) ?_
      refine xp_X10_64 (g := (addV g 0 (q, xP τ 4, xP τ 5, xP τ 6, xP τ 7) hlt)) (σ := τ) C hW5 dX10_vow_59 (fun τ1 H locs e1 hW6 => ?_)
      subst e1
      refine lv_aload_n hx hb dX10_vow_62 rfl (lv_at hl 0 rfl) ?_
      refine xg_X10_16 (g := (addV g 0 (q, xP τ 4, xP τ 5, xP τ 6, xP τ 7) hlt)) (σ := xsP τ 1 0) C hW6 dX10_vow_63 ?_
      refine w_calli hW6 (w_runV C hW6 (mJx4a65c_size_8abf5_V (g := (addV g 0 (q, xP τ 4, xP τ 5, xP τ 6, xP τ 7) hlt)) _) ⟨(lwg_at 338 (by decide +kernel) rfl), (lwg_at 69 (by decide +kernel) rfl), (lwg_at 335 (by decide +kernel) rfl)⟩ (lwg_at 336 (by decide +kernel) rfl) (lwg_at 337 (by decide +kernel) rfl) (np := 0) (by decide +kernel) ⟨rfl, rfl⟩ ⟨Nat.le_of_ble_eq_true rfl, Nat.le_of_ble_eq_true rfl⟩ (ci := 0) rfl rfl (q0 := 2) rfl rfl hl.1 rfl (Nat.le_of_ble_eq_true rfl) dX10_vow_66 ⟨Nat.le_of_ble_eq_true rfl, Nat.le_of_ble_eq_true rfl⟩) (fun r2 τ2 H locs hu hW7 => ?_)
      obtain ⟨h1, h2⟩ := hu
      subst h1
      subst h2
      refine lv_iconst (v := 1) hx hb dX10_vow_69 (by decide) ?_
      refine lv_isub hx hb dX10_vow_70 ?_
      refine W.widen (k := 2) (n := 14) (by omega) (by omega) ?_
      have hr3 : nI (nV (addV g 0 (q, xP τ 4, xP τ 5, xP τ 6, xP τ 7) hlt)) - 1 = nI (nV g) := by
        rw [show nV (addV g 0 (q, xP τ 4, xP τ 5, xP τ 6, xP τ 7) hlt) = nV g + 1 by show (vs g ++ [_]).length = _; rw [List.length_append]; rfl]
        exact nI_pred _
      rw [hr3]
      exact w_iret (ww := w2) (σ := (g, σ)) (σ' := ((addV g 0 (q, xP τ 4, xP τ 5, xP τ 6, xP τ 7) hlt), xsP τ 1 0)) C hsz hr hk hW7 dX10_vow_71 (hq _ _)
