/-! hermit: the new one comes behind the others -/
abbrev w2 (ξ : XG × XS) : va_W := xw ξ.1 ξ.2
def hrec (q : Nat) (kd : Fin 5) (n nd tt bt : Int32) : HRec := (q, kd, (if kd = 0 ∨ kd = 2 then 0 else n), nd, tt, bt)
theorem castO (kd : Fin 5) : ∃ vc : vw_C, vwCl[kc kd]? = some vc ∧ ∀ U, xNc U → va_Nw (.castable vc.1 "java/lang/Object") U :=
  fin5 (P := fun kd => ∃ vc : vw_C, vwCl[kc kd]? = some vc ∧ ∀ U, xNc U → va_Nw (.castable vc.1 "java/lang/Object") U) kd
    ⟨_, rfl, fun U h => h.2.1.2.2.2.2.2.2.2.2.2.1⟩ ⟨_, rfl, fun U h => h.2.1.2.2.2.2.2.2.2.2.1⟩ ⟨_, rfl, fun U h => h.2.1.2.2.2.2.2.1⟩ ⟨_, rfl, fun U h => h.2.1.2.2.2.2.2.2.2.1⟩ ⟨_, rfl, fun U h => h.2.1.2.2.2.2.2.2.1⟩
set_option maxHeartbeats 4000000 in
theorem mX10_newcomer {l : Launch} {D : va_G} {x1 x2 x3 x4 : Int32} {ty : List (ClassId × FieldType)} (kd : Fin 5) (sz : Nat) : Met l yX10_newcomer (cws yX10_newcomer cX10_newcomer 5 (some (.object "HermitsSpoon$Hermit"))) ({ frames := 4, cells := 1, slots := 4, locals := 84 } : Room) (va_Pc [.int (nI kd.val), .int x1, .int x2, .int x3, .int x4] (WP D idw ty [] sz)) (QcR Value.ref (fun (a : Nat) (u : va_W) => u = [hCell (hrec a kd x1 x2 x3 x4)]) (WB D idw ty [] sz) (va_A (idw []) sz)) 1 4 (va_A (idw []) sz) :=
  fin5 (P := fun kd => Met l yX10_newcomer (cws yX10_newcomer cX10_newcomer 5 (some (.object "HermitsSpoon$Hermit"))) ({ frames := 4, cells := 1, slots := 4, locals := 84 } : Room) (va_Pc [.int (nI kd.val), .int x1, .int x2, .int x3, .int x4] (WP D idw ty [] sz)) (QcR Value.ref (fun (a : Nat) (u : va_W) => u = [hCell (hrec a kd x1 x2 x3 x4)]) (WB D idw ty [] sz) (va_A (idw []) sz)) 1 4 (va_A (idw []) sz)) kd
    (mX10_newcomer_0 sz) (mX10_newcomer_1 sz) (mX10_newcomer_2 sz) (mX10_newcomer_3 sz) (mX10_newcomer_4 sz)
set_option maxHeartbeats 8000000 in
set_option maxRecDepth 100000 in
theorem mX10_hermit {l : Launch} {g : XG} {σ : XS} {x1 x2 x3 x4 x5 x6 : Int32} {P : Int32 → XG × XS → Prop} {em : Nat} (hq : qX10_hermit g (fun τ y1 y2 y3 y4 y5 y6 y7 => (nH g = 0 → g.2.2.2.2.2.1.2.1 = em) ∧ ∃ (hlt : nH g < 10) (kd : Fin 5), y1 = nI kd.val ∧ y7 = nI (nH g) ∧ ∀ q ed, P (nI (nH g)) (addH g ed (hrec q kd y2 y3 y4 y5) hlt, xsTB τ 0 0 (nI (nH g)) y6)) σ x1 x2 x3 x4 x5 x6 (fun r τ => P r (g, τ))) (sz : Nat) :
    Met l yX10_hermit (cws yX10_hermit cX10_hermit 8 (some .int)) ({ frames := 9, cells := 2, slots := 14, locals := 200 } : Room) (va_Pc [.ref (g.2.1 0), .int x1, .int x2, .int x3, .int x4, .int x5, .int x6] (WZ g.1 (xw g) (xty g) em σ sz)) (va_Qi P (WB g.1 w2 (xty g) (g, σ) sz) (va_A (xw g σ) sz)) 2 14 (va_A (xw g σ) sz) := by
  refine w_enterZ (ww := xw g) (σ := σ) (by decide +kernel) (Nat.le_of_ble_eq_true rfl) (fun p e s m args below meth c ls C hr hk hn hsz hW hZ hl => ?_)
  refine wX10_hermit C (Nat.le_of_ble_eq_true rfl) (Nat.le_of_ble_eq_true rfl) (P := fun r τ => P r (g, τ)) (fun pc ls v τ H locs hd hW hq => W.widen (k := 2) (n := 14) (by omega) (by omega) (w_iret (ww := w2) (σ := (g, σ)) (σ' := (g, τ)) C hsz hr hk hW hd hq)) (fun τ y1 y2 y3 y4 y5 y6 y7 H locs ls hW hl hq => ?_) hW hl hq
  obtain ⟨hem, hlt, kd, rfl, rfl, hq⟩ := hq
  have hx := C.1
  have hb := C.2.1
  obtain ⟨vc, hcv, hok⟩ := castO kd
  refine lv_aload_n hx hb dX10_hermit_88 rfl (lv_at hl 0 rfl) ?_
  refine xg_X10_12 C hW dX10_hermit_89 ?_
  refine lv_iload_n hx hb dX10_hermit_92 rfl (lv_at hl 1 rfl) ?_
  refine lv_iload_n hx hb dX10_hermit_93 rfl (lv_at hl 2 rfl) ?_
  refine lv_iload_n hx hb dX10_hermit_94 rfl (lv_at hl 3 rfl) ?_
  refine lv_iload hx hb dX10_hermit_95 (lv_at hl 4 rfl) ?_
  refine lv_iload hx hb dX10_hermit_97 (lv_at hl 5 rfl) ?_
  have hW0 : WI g.1 idw (xty g) (va_A (xw g σ) sz) s (xw g τ ++ []) H locs := by rw [List.append_nil]; exact hW
  refine f_callg (wr := xw g τ) (ww := idw) (σ := []) hW0 (w_runS (ww := idw) (As := [.int (nI kd.val), .int y2, .int y3, .int y4, .int y5]) C (wi_right hW0) (mX10_newcomer kd _) ⟨(lwg_at 469 (by decide +kernel) rfl), (lwg_at 66 (by decide +kernel) rfl), (lwg_at 467 (by decide +kernel) rfl)⟩ (lwg_at 468 (by decide +kernel) rfl) (np := 5) (by decide +kernel) ⟨rfl, rfl⟩ ⟨Nat.le_of_ble_eq_true rfl, Nat.le_of_ble_eq_true rfl⟩ rfl hl.1 rfl (Nat.le_of_ble_eq_true rfl) dX10_hermit_99 ⟨Nat.le_of_ble_eq_true rfl, Nat.le_of_ble_eq_true rfl⟩) (fun q u H locs hu hW1 => ?_)
  subst hu
  by_cases h0 : nH g = 0
  · have hnil : hs g = [] := List.eq_nil_of_length_eq_zero h0
    have hxh : xhw g = [] := by unfold xhw; rw [if_pos h0, hnil]; rfl
    have hL : hlFs g = [.int g.2.2.2.2.2.1.1, .ref em, .int 0] := by show ([Value.int g.2.2.2.2.2.1.1, Value.ref g.2.2.2.2.2.1.2.1, Value.int (nI (nH g))] : List Value) = _; rw [hem h0, h0]; rfl
    have hW2 : WI g.1 idw (xty g) (va_A (xw g σ) sz) s ((xX0 g τ :: (xrestH g τ ++ xvw g)) ++ [hCell (hrec q kd y2 y3 y4 y5), (g.2.1 1, .inr (0, [.int g.2.2.2.2.2.1.1, .ref em, .int 0]))]) H locs := by
      refine wi_perm hW1 ?_
      rw [xw_H0, hxh, List.nil_append, hL]
      exact pm_0 _ _ _ _ _
    refine f_calli (wr := xX0 g τ :: (xrestH g τ ++ xvw g)) (ww := idw) hW2 (f_runV (ww := idw) (As := [.ref q]) C (wi_right hW2) (mJx4a65c_add_9ea2d_E hcv hok (t4 := 2) rfl _) wz_blind (fun U hU hV => wz_pre (wi_right hW2) hZ U hU hV) ⟨(lwg_at 368 (by decide +kernel) rfl), (lwg_at 69 (by decide +kernel) rfl), (lwg_at 365 (by decide +kernel) rfl)⟩ (lwg_at 366 (by decide +kernel) rfl) (lwg_at 367 (by decide +kernel) rfl) (np := 1) (by decide +kernel) ⟨rfl, rfl⟩ ⟨Nat.le_of_ble_eq_true rfl, Nat.le_of_ble_eq_true rfl⟩ (ci := 0) rfl rfl (q0 := 1) rfl rfl hl.1 rfl (Nat.le_of_ble_eq_true rfl) dX10_hermit_102 ⟨Nat.le_of_ble_eq_true rfl, Nat.le_of_ble_eq_true rfl⟩) (fun r1 u H locs hu hW3 => ?_)
    obtain ⟨ed, rfl⟩ := hu
    have hW2 : WI (addH g ed (hrec q kd y2 y3 y4 y5) hlt).1 (xw (addH g ed (hrec q kd y2 y3 y4 y5) hlt)) (xty (addH g ed (hrec q kd y2 y3 y4 y5) hlt)) (va_A (xw g σ) sz) s τ H locs := by
      show WI g.1 idw (xty g) (va_A (xw g σ) sz) s (xw (addH g ed (hrec q kd y2 y3 y4 y5) hlt) τ) H locs
      rw [xw_addH, if_pos h0, h0, hnil, ← va_up_last (l := []) (x := hrec q kd y2 y3 y4 y5) (q := q) rfl, ← va_up_0]
      exact wi_perm hW3 (pm_2 (m := []) _ _ _ _ _ _)
    have hwt : (1 : Nat) ≤ 1 := Nat.le_refl 1
    · skip
      refine lv_pop hx hb dX10_hermit_105 rfl ?_
      refine lv_aload_n hx hb dX10_hermit_106 rfl (lv_at hl 0 rfl) ?_
      refine xg_X10_31 (g := (addH g ed (hrec q kd y2 y3 y4 y5) hlt)) (σ := τ) C hW2 dX10_hermit_107 ?_
      refine xg_X10_116 (g := (addH g ed (hrec q kd y2 y3 y4 y5) hlt)) (σ := τ) C hW2 dX10_hermit_110 ?_
      refine lv_iload hx hb dX10_hermit_113 (lv_at hl 7 rfl) ?_
      refine lv_iload hx hb dX10_hermit_115 (lv_at hl 6 rfl) ?_
      refine xs_T0 (g := (addH g ed (hrec q kd y2 y3 y4 y5) hlt)) (σ := τ) C hW2 (vp_in_nI hlt (by decide)) dX10_hermit_117 (fun τ1 H locs e1 hW3 => ?_)
      subst e1
      refine lv_iload hx hb dX10_hermit_118 (lv_at hl 7 rfl) ?_
      refine W.widen (k := 2) (n := 14) (by omega) (by omega) ?_
      exact w_iret (ww := w2) (σ := (g, σ)) (σ' := ((addH g ed (hrec q kd y2 y3 y4 y5) hlt), xsTB τ 0 0 (nI (nH g)) y6)) C hsz hr hk hW3 dX10_hermit_120 (hq _ _)
  · have hxh : xhw g = hEl g :: (hs g).map hCell := by unfold xhw; rw [if_neg h0]; rfl
    have hW2 : WI g.1 idw (xty g) (va_A (xw g σ) sz) s ((xX0 g τ :: (xrestH g τ ++ ((hs g).map hCell ++ xvw g))) ++ [hCell (hrec q kd y2 y3 y4 y5), (g.2.1 1, .inr (0, hlFs g)), hEl g]) H locs := by
      refine wi_perm hW1 ?_
      rw [xw_H0, hxh]
      exact pm_1 _ _ _ _ _ _ _
    refine f_calli (wr := xX0 g τ :: (xrestH g τ ++ ((hs g).map hCell ++ xvw g))) (ww := idw) hW2 (f_runV (ww := idw) (As := [.ref q]) C (wi_right hW2) (mJx4a65c_add_9ea2d_N hcv hok (t4 := 2) rfl hlt _) w_blind (fun U hU hV => w_pre (wi_right hW2) U hU hV) ⟨(lwg_at 368 (by decide +kernel) rfl), (lwg_at 69 (by decide +kernel) rfl), (lwg_at 365 (by decide +kernel) rfl)⟩ (lwg_at 366 (by decide +kernel) rfl) (lwg_at 367 (by decide +kernel) rfl) (np := 1) (by decide +kernel) ⟨rfl, rfl⟩ ⟨Nat.le_of_ble_eq_true rfl, Nat.le_of_ble_eq_true rfl⟩ (ci := 0) rfl rfl (q0 := 1) rfl rfl hl.1 rfl (Nat.le_of_ble_eq_true rfl) dX10_hermit_102 ⟨Nat.le_of_ble_eq_true rfl, Nat.le_of_ble_eq_true rfl⟩) (fun r1 u H locs hu hW3 => ?_)
    subst hu
    have hW2 : WI (addH g 0 (hrec q kd y2 y3 y4 y5) hlt).1 (xw (addH g 0 (hrec q kd y2 y3 y4 y5) hlt)) (xty (addH g 0 (hrec q kd y2 y3 y4 y5) hlt)) (va_A (xw g σ) sz) s τ H locs := by
      show WI g.1 idw (xty g) (va_A (xw g σ) sz) s (xw (addH g 0 (hrec q kd y2 y3 y4 y5) hlt) τ) H locs
      rw [xw_addH, if_neg h0, ← va_up_last (l := hs g) (x := hrec q kd y2 y3 y4 y5) (q := q) rfl]
      exact wi_perm hW3 (pm_2 _ _ _ _ _ _ _)
    · skip
      refine lv_pop hx hb dX10_hermit_105 rfl ?_
      refine lv_aload_n hx hb dX10_hermit_106 rfl (lv_at hl 0 rfl) ?_
      refine xg_X10_31 (g := (addH g 0 (hrec q kd y2 y3 y4 y5) hlt)) (σ := τ) C hW2 dX10_hermit_107 ?_
      refine xg_X10_116 (g := (addH g 0 (hrec q kd y2 y3 y4 y5) hlt)) (σ := τ) C hW2 dX10_hermit_110 ?_
      refine lv_iload hx hb dX10_hermit_113 (lv_at hl 7 rfl) ?_
      refine lv_iload hx hb dX10_hermit_115 (lv_at hl 6 rfl) ?_
      refine xs_T0 (g := (addH g 0 (hrec q kd y2 y3 y4 y5) hlt)) (σ := τ) C hW2 (vp_in_nI hlt (by decide)) dX10_hermit_117 (fun τ1 H locs e1 hW3 => ?_)
      subst e1
      refine lv_iload hx hb dX10_hermit_118 (lv_at hl 7 rfl) ?_
      refine W.widen (k := 2) (n := 14) (by omega) (by omega) ?_
      exact w_iret (ww := w2) (σ := (g, σ)) (σ' := ((addH g 0 (hrec q kd y2 y3 y4 y5) hlt), xsTB τ 0 0 (nI (nH g)) y6)) C hsz hr hk hW3 dX10_hermit_120 (hq _ _)
