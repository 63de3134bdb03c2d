section
variable {p : Program} {l : Launch} {e : Env} {R : Room} {s : State} {m : MethodId} {args : Array Value} {below : List Frame} {meth : Method} {c : Code} {H : Heap} {locs : List Loc} {cells slots : Nat} {Q : State → Prop}
variable {cc : ByteArray} {pc : Nat} {ls : Array Slot} {rest : List Value} {own : String} {nL : Nat}
variable {g : XG} {A : Nat → Prop}
-- X10_isHermit
set_option maxHeartbeats 4000000 in
set_option maxRecDepth 100000 in
theorem wX10_isHermit (C : CallFix p m c cX10_isHermit 2 s args lwg RX10) (hRf : 1 ≤ R.frames) (hRl : 20 ≤ R.locals) {P : Int32 → XS → Prop} (hret : RetZ g.1 (xw g) (xty g) A p l e R s m args below meth c 0 0 Q cX10_isHermit P) {σ : XS} {x1 : Int32} {H : Heap} {locs : List Loc} {ls : Array Slot} (hW : WI g.1 (xw g) (xty g) A s σ H locs) (hl : lv_has ls 2 [(0, .ref (g.2.1 0)), (1, .int x1)]) (hq : qX10_isHermit g σ x1 P) : W p l e R s m args below meth c H locs 0 0 Q (F0 m 0 ls []) := by
  have hx := C.1
  have hb := C.2.1
  unfold qX10_isHermit at hq
  refine lv_iload_n hx hb dX10_isHermit_0 rfl (lv_at hl 1 rfl) ?_
  refine lv_if_lt (tgt := 19) hx hb dX10_isHermit_1 (by decide) (fun h => ?_) (fun h => ?_)
  · replace hq := br_pos h hq
    refine lv_iconst (v := 0) hx hb dX10_isHermit_19 (by decide) ?_
    exact hret _ _ _ _ _ _ dX10_isHermit_20 hW isB_0 hq
  · replace hq := br_neg h hq
    refine lv_iload_n hx hb dX10_isHermit_4 rfl (lv_at hl 1 rfl) ?_
    refine lv_aload_n hx hb dX10_isHermit_5 rfl (lv_at hl 0 rfl) ?_
    refine xg_X10_12 C hW dX10_isHermit_6 ?_
    refine xsiz_H_X10_81 C hW (Nat.le_trans (by decide) hRf) (Nat.le_trans (by decide) hRl) hl.1 (Nat.le_of_ble_eq_true rfl) dX10_isHermit_9 (fun H locs hW => ?_)
    refine lv_icmp_ge (tgt := 19) hx hb dX10_isHermit_12 (by decide) (fun h => ?_) (fun h => ?_)
    · replace hq := br_pos h hq
      refine lv_iconst (v := 0) hx hb dX10_isHermit_19 (by decide) ?_
      exact hret _ _ _ _ _ _ dX10_isHermit_20 hW isB_0 hq
    · replace hq := br_neg h hq
      refine lv_iconst (v := 1) hx hb dX10_isHermit_15 (by decide) ?_
      refine lv_goto (tgt := 20) hx hb dX10_isHermit_16 (by decide) ?_
      exact hret _ _ _ _ _ _ dX10_isHermit_20 hW isB_1 hq
set_option maxHeartbeats 4000000 in
set_option maxRecDepth 100000 in
theorem mX10_isHermit {l : Launch} {g : XG} {σ : XS} {x1 : Int32} {P : Int32 → XS → Prop} (hq : qX10_isHermit g σ x1 P) (sz : Nat) : Met l yX10_isHermit (cws yX10_isHermit cX10_isHermit 2 (some .boolean)) ({ frames := 1, cells := 0, slots := 0, locals := 20 } : Room) (va_Pc [.ref (g.2.1 0), .int x1] (WP g.1 (xw g) (xty g) σ sz)) (va_Qi P (WB g.1 (xw g) (xty g) σ sz) (va_A (xw g σ) sz)) 0 0 (va_A (xw g σ) sz) :=
  w_enter (by decide) (Nat.le_of_ble_eq_true rfl) (fun p e s m args below meth c ls C hr hk hn hs hW hl => wX10_isHermit C (Nat.le_refl _) (Nat.le_refl _) (fun pc ls v σ H locs hd hW hv hq => w_zret C hs hr hk hW hd hv hq) hW hl hq)
set_option maxHeartbeats 4000000 in
set_option maxRecDepth 100000 in
theorem kX10_isHermit_X10_120 (C : CallFix p m c cc nL s args lwg RX10) {σ : XS} (hW : WI g.1 (xw g) (xty g) A s σ H locs) (hRf : 2 ≤ R.frames) (hRl : 41 ≤ R.locals) (hls : ls.size = nL) (hro : (rest.map fun v => v.category).sum ≤ 8) {x1 : Int32} (hd : decode cc pc = .ok (.invokevirtual 120, 3)) {P : Int32 → XS → Prop} (hq : qX10_isHermit g σ x1 P) (kk : ∀ (r : Int32) (σ1 : XS) (H : Heap) (locs : List Loc), P r σ1 → WI g.1 (xw g) (xty g) A s σ1 H locs → W p l e R s m args below meth c H locs 0 0 Q (F0 m (pc + 3) ls (.int r :: rest))) : W p l e R s m args below meth c H locs 0 0 Q (F0 m pc ls (.int x1 :: .ref (g.2.1 0) :: rest)) :=
  w_calli hW (w_runV C hW (mX10_isHermit hq _) ⟨(lwg_at 550 (by decide +kernel) rfl), (lwg_at 66 (by decide +kernel) rfl), (lwg_at 547 (by decide +kernel) rfl)⟩ (lwg_at 549 (by decide +kernel) rfl) (lwg_at 6 (by decide +kernel) rfl) (np := 1) (by decide +kernel) ⟨rfl, rfl⟩ ⟨hRf, hRl⟩ (ci := 11) rfl rfl (q0 := 0) rfl rfl hls rfl hro hd ⟨Nat.zero_le _, Nat.zero_le _⟩) kk
-- X10_isWithin
set_option maxHeartbeats 4000000 in
set_option maxRecDepth 100000 in
theorem wX10_isWithin (C : CallFix p m c cX10_isWithin 3 s args lwg RX10) (hRf : 0 ≤ R.frames) (hRl : 0 ≤ R.locals) {P : Int32 → XS → Prop} (hret : RetZ g.1 (xw g) (xty g) A p l e R s m args below meth c 0 0 Q cX10_isWithin P) {σ : XS} {x0 : Int32} {x1 : Int32} {x2 : Int32} {H : Heap} {locs : List Loc} {ls : Array Slot} (hW : WI g.1 (xw g) (xty g) A s σ H locs) (hl : lv_has ls 3 [(0, .int x0), (1, .int x1), (2, .int x2)]) (hq : qX10_isWithin g σ x0 x1 x2 P) : W p l e R s m args below meth c H locs 0 0 Q (F0 m 0 ls []) := by
  have hx := C.1
  have hb := C.2.1
  unfold qX10_isWithin at hq
  refine lv_iload_n hx hb dX10_isWithin_0 rfl (lv_at hl 0 rfl) ?_
  refine lv_iload_n hx hb dX10_isWithin_1 rfl (lv_at hl 1 rfl) ?_
  refine lv_icmp_lt (tgt := 14) hx hb dX10_isWithin_2 (by decide) (fun h => ?_) (fun h => ?_)
  · replace hq := br_pos h hq
    refine lv_iconst (v := 0) hx hb dX10_isWithin_14 (by decide) ?_
    exact hret _ _ _ _ _ _ dX10_isWithin_15 hW isB_0 hq
  · replace hq := br_neg h hq
    refine lv_iload_n hx hb dX10_isWithin_5 rfl (lv_at hl 0 rfl) ?_
    refine lv_iload_n hx hb dX10_isWithin_6 rfl (lv_at hl 2 rfl) ?_
    refine lv_icmp_gt (tgt := 14) hx hb dX10_isWithin_7 (by decide) (fun h => ?_) (fun h => ?_)
    · replace hq := br_pos h hq
      refine lv_iconst (v := 0) hx hb dX10_isWithin_14 (by decide) ?_
      exact hret _ _ _ _ _ _ dX10_isWithin_15 hW isB_0 hq
    · replace hq := br_neg h hq
      refine lv_iconst (v := 1) hx hb dX10_isWithin_10 (by decide) ?_
      refine lv_goto (tgt := 15) hx hb dX10_isWithin_11 (by decide) ?_
      exact hret _ _ _ _ _ _ dX10_isWithin_15 hW isB_1 hq
set_option maxHeartbeats 4000000 in
set_option maxRecDepth 100000 in
theorem mX10_isWithin {l : Launch} {g : XG} {σ : XS} {x0 : Int32} {x1 : Int32} {x2 : Int32} {P : Int32 → XS → Prop} (hq : qX10_isWithin g σ x0 x1 x2 P) (sz : Nat) : Met l yX10_isWithin (cws yX10_isWithin cX10_isWithin 3 (some .boolean)) ({ frames := 0, cells := 0, slots := 0, locals := 0 } : Room) (va_Pc [.int x0, .int x1, .int x2] (WP g.1 (xw g) (xty g) σ sz)) (va_Qi P (WB g.1 (xw g) (xty g) σ sz) (va_A (xw g σ) sz)) 0 0 (va_A (xw g σ) sz) :=
  w_enter (by decide) (Nat.le_of_ble_eq_true rfl) (fun p e s m args below meth c ls C hr hk hn hs hW hl => wX10_isWithin C (Nat.le_refl _) (Nat.le_refl _) (fun pc ls v σ H locs hd hW hv hq => w_zret C hs hr hk hW hd hv hq) hW hl hq)
set_option maxHeartbeats 4000000 in
set_option maxRecDepth 100000 in
theorem kX10_isWithin_X10_102 (C : CallFix p m c cc nL s args lwg RX10) {σ : XS} (hW : WI g.1 (xw g) (xty g) A s σ H locs) (hRf : 1 ≤ R.frames) (hRl : 22 ≤ R.locals) (hls : ls.size = nL) (hro : (rest.map fun v => v.category).sum ≤ 8) {x0 : Int32} {x1 : Int32} {x2 : Int32} (hd : decode cc pc = .ok (.invokestatic 102, 3)) {P : Int32 → XS → Prop} (hq : qX10_isWithin g σ x0 x1 x2 P) (kk : ∀ (r : Int32) (σ1 : XS) (H : Heap) (locs : List Loc), P r σ1 → WI g.1 (xw g) (xty g) A s σ1 H locs → W p l e R s m args below meth c H locs 0 0 Q (F0 m (pc + 3) ls (.int r :: rest))) : W p l e R s m args below meth c H locs 0 0 Q (F0 m pc ls (.int x2 :: .int x1 :: .int x0 :: rest)) :=
  w_calli hW (w_runS C hW (mX10_isWithin hq _) ⟨(lwg_at 460 (by decide +kernel) rfl), (lwg_at 66 (by decide +kernel) rfl), (lwg_at 458 (by decide +kernel) rfl)⟩ (lwg_at 459 (by decide +kernel) rfl) (np := 3) (by decide +kernel) ⟨rfl, rfl⟩ ⟨hRf, hRl⟩ rfl hls rfl hro hd ⟨Nat.zero_le _, Nat.zero_le _⟩) kk
-- X10_as
set_option maxHeartbeats 4000000 in
set_option maxRecDepth 100000 in
theorem wX10_as (C : CallFix p m c cX10_as 3 s args lwg RX10) (hRf : 3 ≤ R.frames) (hRl : 64 ≤ R.locals) {P : Int32 → XS → Prop} (hret : RetI g.1 (xw g) (xty g) A p l e R s m args below meth c 0 0 Q cX10_as P) {σ : XS} {x1 : Int32} {x2 : Int32} {H : Heap} {locs : List Loc} {ls : Array Slot} (hW : WI g.1 (xw g) (xty g) A s σ H locs) (hl : lv_has ls 3 [(0, .ref (g.2.1 0)), (1, .int x1), (2, .int x2)]) (hq : qX10_as g σ x1 x2 P) : W p l e R s m args below meth c H locs 0 0 Q (F0 m 0 ls []) := by
  have hx := C.1
  have hb := C.2.1
  unfold qX10_as at hq
  refine lv_aload_n hx hb dX10_as_0 rfl (lv_at hl 0 rfl) ?_
  refine lv_iload_n hx hb dX10_as_1 rfl (lv_at hl 1 rfl) ?_
  refine kX10_isHermit_X10_120 C hW (Nat.le_trans (by decide) hRf) (Nat.le_trans (by decide) hRl) hl.1 (Nat.le_of_ble_eq_true rfl) dX10_as_2 hq (fun r_2 σ_1 H locs hq hW => ?_)
  refine lv_if_ne (tgt := 11) hx hb dX10_as_5 (by decide) (fun h => ?_) (fun h => ?_)
  · replace hq := br_neg h hq
    refine lv_iload_n hx hb dX10_as_11 rfl (lv_at hl 2 rfl) ?_
    refine lv_iconst (v := 0) hx hb dX10_as_12 (by decide) ?_
    refine lv_iconst (v := 4) hx hb dX10_as_13 (by decide) ?_
    refine kX10_isWithin_X10_102 C hW (Nat.le_trans (by decide) hRf) (Nat.le_trans (by decide) hRl) hl.1 (Nat.le_of_ble_eq_true rfl) dX10_as_14 hq (fun r_4 σ_3 H locs hq hW => ?_)
    refine lv_if_ne (tgt := 23) hx hb dX10_as_17 (by decide) (fun h => ?_) (fun h => ?_)
    · replace hq := br_neg h hq
      refine lv_aload_n hx hb dX10_as_23 rfl (lv_at hl 0 rfl) ?_
      refine xg_X10_12 C hW dX10_as_24 ?_
      refine lv_iload_n hx hb dX10_as_27 rfl (lv_at hl 1 rfl) ?_
      obtain ⟨hin6, hq⟩ := hq
      refine xget_H_X10_124 C hW (Nat.le_trans (by decide) hRf) (Nat.le_trans (by decide) hRl) hl.1 (Nat.le_of_ble_eq_true rfl) hin6 dX10_as_28 (fun j_5 H locs hj_5 hW => ?_)
      replace hq := hq j_5 hj_5
      refine xc_X10_128 C hW dX10_as_31 ?_
      refine lv_iload_n hx hb dX10_as_34 rfl (lv_at hl 2 rfl) ?_
      refine kV_isOfKind_X10_130 C hW (Nat.le_trans (by decide) hRf) (Nat.le_trans (by decide) hRl) hl.1 (Nat.le_of_ble_eq_true rfl) dX10_as_35 hq (fun r_8 σ_7 H locs hq hW => ?_)
      refine lv_if_eq (tgt := 45) hx hb dX10_as_38 (by decide) (fun h => ?_) (fun h => ?_)
      · replace hq := br_pos h hq
        refine lv_iconst (v := (-1)) hx hb dX10_as_45 (by decide) ?_
        exact hret _ _ _ _ _ _ dX10_as_46 hW hq
      · replace hq := br_neg h hq
        refine lv_iload_n hx hb dX10_as_41 rfl (lv_at hl 1 rfl) ?_
        refine lv_goto (tgt := 46) hx hb dX10_as_42 (by decide) ?_
        exact hret _ _ _ _ _ _ dX10_as_46 hW hq
    · replace hq := br_pos h hq
      refine lv_bipush (v := (-102)) hx hb dX10_as_20 (by decide) ?_
      exact hret _ _ _ _ _ _ dX10_as_22 hW hq
  · replace hq := br_pos h hq
    refine lv_bipush (v := (-101)) hx hb dX10_as_8 (by decide) ?_
    exact hret _ _ _ _ _ _ dX10_as_10 hW hq
set_option maxHeartbeats 4000000 in
set_option maxRecDepth 100000 in
theorem mX10_as {l : Launch} {g : XG} {σ : XS} {x1 : Int32} {x2 : Int32} {P : Int32 → XS → Prop} (hq : qX10_as g σ x1 x2 P) (sz : Nat) : Met l yX10_as (cws yX10_as cX10_as 3 (some .int)) ({ frames := 3, cells := 0, slots := 0, locals := 64 } : Room) (va_Pc [.ref (g.2.1 0), .int x1, .int x2] (WP g.1 (xw g) (xty g) σ sz)) (va_Qi P (WB g.1 (xw g) (xty g) σ sz) (va_A (xw g σ) sz)) 0 0 (va_A (xw g σ) sz) :=
  w_enter (by decide) (Nat.le_of_ble_eq_true rfl) (fun p e s m args below meth c ls C hr hk hn hs hW hl => wX10_as C (Nat.le_refl _) (Nat.le_refl _) (fun pc ls v σ H locs hd hW hq => w_iret C hs hr hk hW hd hq) hW hl hq)
-- V_kindNumber
set_option maxHeartbeats 4000000 in
set_option maxRecDepth 100000 in
theorem kV_kindNumber_X10_267 (C : CallFix p m c cc nL s args lwg RX10) {σ : XS} (hW : WI g.1 (xw g) (xty g) A s σ H locs) (hRf : 1 ≤ R.frames) (hRl : 20 ≤ R.locals) (hls : ls.size = nL) (hro : (rest.map fun v => v.category).sum ≤ 8) {x0 : Fin (nH g)} (hd : decode cc pc = .ok (.invokevirtual 267, 3)) {P : Int32 → XS → Prop} (hq : qV_kindNumber g σ x0 P) (kk : ∀ (r : Int32) (σ1 : XS) (H : Heap) (locs : List Loc), P r σ1 → WI g.1 (xw g) (xty g) A s σ1 H locs → W p l e R s m args below meth c H locs 0 0 Q (F0 m (pc + 3) ls (.int r :: rest))) : W p l e R s m args below meth c H locs 0 0 Q (F0 m pc ls (.ref (hA g x0) :: rest)) :=
  fin5 (P := fun kd => hK g x0 = kd → W p l e R s m args below meth c H locs 0 0 Q (F0 m pc ls (.ref (hA g x0) :: rest))) (hK g x0)
    (fun hk => w_calli hW (w_runU C hW (Cn := "HermitsSpoon$Hermit") (mX4_kindNumber (hq.1 hk) _) (va_cwU (owner := "HermitsSpoon$Hermit") (x := ⟨"HermitsSpoon$Hermit", "kindNumber", "()I"⟩) 0 C.2.2.2.2 (goodU (lwg_at 572 (by decide +kernel) rfl) (lwg_at 575 (by decide +kernel) rfl) (lwg_at 574 (by decide +kernel) rfl) (lwg_at 573 (by decide +kernel) rfl) (lwg_at 82 (by decide +kernel) rfl) (lwg_at 588 (by decide +kernel) rfl)) rfl rfl rfl rfl (by decide +kernel) ⟨Nat.le_trans (by decide) hRf, Nat.le_trans (by decide) hRl⟩) (ci := kc 0) rfl rfl (q0 := 36 + x0.val) (by rw [← hk]; exact xw_H g σ x0) rfl hls rfl hro hd ⟨Nat.zero_le _, Nat.zero_le _⟩) kk)
    (fun hk => w_calli hW (w_runU C hW (Cn := "HermitsSpoon$Slow") (mX7_kindNumber (hq.2.1 hk) _) (va_cwO (owner := "HermitsSpoon$Hermit") (x := ⟨"HermitsSpoon$Hermit", "kindNumber", "()I"⟩) 0 C.2.2.2.2 (goodO (lwg_at 572 (by decide +kernel) rfl) (lwg_at 575 (by decide +kernel) rfl) (lwg_at 573 (by decide +kernel) rfl) (lwg_at 585 (by decide +kernel) rfl) (lwg_at 586 (by decide +kernel) rfl) (lwg_at 83 (by decide +kernel) rfl) (lwg_at 587 (by decide +kernel) rfl)) rfl rfl rfl (b0 := cX4_kindNumber) (m0 := 1) (r0 := (some .int)) (lwg_at 588 (by decide +kernel) rfl) (by decide +kernel) ⟨Nat.le_trans (by decide) hRf, Nat.le_trans (by decide) hRl⟩) (ci := kc 1) rfl rfl (q0 := 36 + x0.val) (by rw [← hk]; exact xw_H g σ x0) rfl hls rfl hro hd ⟨Nat.zero_le _, Nat.zero_le _⟩) kk)
    (fun hk => w_calli hW (w_runU C hW (Cn := "HermitsSpoon$Deaf") (mX1_kindNumber (hq.2.2.1 hk) _) (va_cwO (owner := "HermitsSpoon$Hermit") (x := ⟨"HermitsSpoon$Hermit", "kindNumber", "()I"⟩) 0 C.2.2.2.2 (goodO (lwg_at 572 (by decide +kernel) rfl) (lwg_at 575 (by decide +kernel) rfl) (lwg_at 573 (by decide +kernel) rfl) (lwg_at 576 (by decide +kernel) rfl) (lwg_at 577 (by decide +kernel) rfl) (lwg_at 84 (by decide +kernel) rfl) (lwg_at 578 (by decide +kernel) rfl)) rfl rfl rfl (b0 := cX4_kindNumber) (m0 := 1) (r0 := (some .int)) (lwg_at 588 (by decide +kernel) rfl) (by decide +kernel) ⟨Nat.le_trans (by decide) hRf, Nat.le_trans (by decide) hRl⟩) (ci := kc 2) rfl rfl (q0 := 36 + x0.val) (by rw [← hk]; exact xw_H g σ x0) rfl hls rfl hro hd ⟨Nat.zero_le _, Nat.zero_le _⟩) kk)
    (fun hk => w_calli hW (w_runU C hW (Cn := "HermitsSpoon$Greedy") (mX3_kindNumber (hq.2.2.2.1 hk) _) (va_cwO (owner := "HermitsSpoon$Hermit") (x := ⟨"HermitsSpoon$Hermit", "kindNumber", "()I"⟩) 0 C.2.2.2.2 (goodO (lwg_at 572 (by decide +kernel) rfl) (lwg_at 575 (by decide +kernel) rfl) (lwg_at 573 (by decide +kernel) rfl) (lwg_at 582 (by decide +kernel) rfl) (lwg_at 583 (by decide +kernel) rfl) (lwg_at 85 (by decide +kernel) rfl) (lwg_at 584 (by decide +kernel) rfl)) rfl rfl rfl (b0 := cX4_kindNumber) (m0 := 1) (r0 := (some .int)) (lwg_at 588 (by decide +kernel) rfl) (by decide +kernel) ⟨Nat.le_trans (by decide) hRf, Nat.le_trans (by decide) hRl⟩) (ci := kc 3) rfl rfl (q0 := 36 + x0.val) (by rw [← hk]; exact xw_H g σ x0) rfl hls rfl hro hd ⟨Nat.zero_le _, Nat.zero_le _⟩) kk)
    (fun hk => w_calli hW (w_runU C hW (Cn := "HermitsSpoon$Feeder") (mX2_kindNumber (hq.2.2.2.2 hk) _) (va_cwO (owner := "HermitsSpoon$Hermit") (x := ⟨"HermitsSpoon$Hermit", "kindNumber", "()I"⟩) 0 C.2.2.2.2 (goodO (lwg_at 572 (by decide +kernel) rfl) (lwg_at 575 (by decide +kernel) rfl) (lwg_at 573 (by decide +kernel) rfl) (lwg_at 579 (by decide +kernel) rfl) (lwg_at 580 (by decide +kernel) rfl) (lwg_at 86 (by decide +kernel) rfl) (lwg_at 581 (by decide +kernel) rfl)) rfl rfl rfl (b0 := cX4_kindNumber) (m0 := 1) (r0 := (some .int)) (lwg_at 588 (by decide +kernel) rfl) (by decide +kernel) ⟨Nat.le_trans (by decide) hRf, Nat.le_trans (by decide) hRl⟩) (ci := kc 4) rfl rfl (q0 := 36 + x0.val) (by rw [← hk]; exact xw_H g σ x0) rfl hls rfl hro hd ⟨Nat.zero_le _, Nat.zero_le _⟩) kk)
    rfl
-- X10_toldOf
set_option maxHeartbeats 4000000 in
set_option maxRecDepth 100000 in
theorem wX10_toldOf (C : CallFix p m c cX10_toldOf 4 s args lwg RX10) (hRf : 3 ≤ R.frames) (hRl : 64 ≤ R.locals) {P : Int32 → XS → Prop} (hret : RetI g.1 (xw g) (xty g) A p l e R s m args below meth c 0 0 Q cX10_toldOf P) {σ : XS} {x1 : Int32} {x2 : Int32} {H : Heap} {locs : List Loc} {ls : Array Slot} (hW : WI g.1 (xw g) (xty g) A s σ H locs) (hl : lv_has ls 4 [(0, .ref (g.2.1 0)), (1, .int x1), (2, .int x2)]) (hq : qX10_toldOf g σ x1 x2 P) : W p l e R s m args below meth c H locs 0 0 Q (F0 m 0 ls []) := by
  have hx := C.1
  have hb := C.2.1
  unfold qX10_toldOf at hq
  refine lv_aload_n hx hb dX10_toldOf_0 rfl (lv_at hl 0 rfl) ?_
  refine xg_X10_12 C hW dX10_toldOf_1 ?_
  refine lv_iload_n hx hb dX10_toldOf_4 rfl (lv_at hl 1 rfl) ?_
  obtain ⟨hin2, hq⟩ := hq
  refine xget_H_X10_124 C hW (Nat.le_trans (by decide) hRf) (Nat.le_trans (by decide) hRl) hl.1 (Nat.le_of_ble_eq_true rfl) hin2 dX10_toldOf_5 (fun j_1 H locs hj_1 hW => ?_)
  replace hq := hq j_1 hj_1
  refine xc_X10_128 C hW dX10_toldOf_8 ?_
  refine lv_astore_n (lv' := [(3, .ref (hA g j_1)), (0, .ref (g.2.1 0)), (1, .int x1), (2, .int x2)]) hx hb dX10_toldOf_11 rfl hl (by decide) rfl (fun ls hl => ?_)
  refine lv_iload_n hx hb dX10_toldOf_12 rfl (lv_at hl 3 rfl) ?_
  by_cases h13_0 : x2 = 0
  · replace hq := br_pos h13_0 hq
    refine lv_tableIn (off := 39) (tgt := 52) hx hb dX10_toldOf_13 (by rw [h13_0]; decide) (by rw [h13_0]; decide) (by rw [h13_0]; decide) (by decide) ?_
    refine lv_aload_n hx hb dX10_toldOf_52 rfl (lv_at hl 0 rfl) ?_
    refine kV_kindNumber_X10_267 C hW (Nat.le_trans (by decide) hRf) (Nat.le_trans (by decide) hRl) hl.1 (Nat.le_of_ble_eq_true rfl) dX10_toldOf_53 hq (fun r_4 σ_3 H locs hq hW => ?_)
    refine lv_goto (tgt := 107) hx hb dX10_toldOf_56 (by decide) ?_
    exact hret _ _ _ _ _ _ dX10_toldOf_107 hW hq
  · replace hq := br_neg h13_0 hq
    by_cases h13_1 : x2 = 1
    · replace hq := br_pos h13_1 hq
      refine lv_tableIn (off := 46) (tgt := 59) hx hb dX10_toldOf_13 (by rw [h13_1]; decide) (by rw [h13_1]; decide) (by rw [h13_1]; decide) (by decide) ?_
      refine lv_aload_n hx hb dX10_toldOf_59 rfl (lv_at hl 0 rfl) ?_
      refine xg_X10_270 C hW dX10_toldOf_60 ?_
      refine lv_goto (tgt := 107) hx hb dX10_toldOf_63 (by decide) ?_
      exact hret _ _ _ _ _ _ dX10_toldOf_107 hW hq
    · replace hq := br_neg h13_1 hq
      by_cases h13_2 : x2 = 2
      · replace hq := br_pos h13_2 hq
        refine lv_tableIn (off := 53) (tgt := 66) hx hb dX10_toldOf_13 (by rw [h13_2]; decide) (by rw [h13_2]; decide) (by rw [h13_2]; decide) (by decide) ?_
        refine lv_aload_n hx hb dX10_toldOf_66 rfl (lv_at hl 0 rfl) ?_
        refine xg_X10_273 C hW dX10_toldOf_67 ?_
        refine lv_goto (tgt := 107) hx hb dX10_toldOf_70 (by decide) ?_
        exact hret _ _ _ _ _ _ dX10_toldOf_107 hW hq
      · replace hq := br_neg h13_2 hq
        by_cases h13_3 : x2 = 3
        · replace hq := br_pos h13_3 hq
          refine lv_tableIn (off := 60) (tgt := 73) hx hb dX10_toldOf_13 (by rw [h13_3]; decide) (by rw [h13_3]; decide) (by rw [h13_3]; decide) (by decide) ?_
          refine lv_aload_n hx hb dX10_toldOf_73 rfl (lv_at hl 0 rfl) ?_
          refine xg_X10_276 C hW dX10_toldOf_74 ?_
          refine lv_goto (tgt := 107) hx hb dX10_toldOf_77 (by decide) ?_
          exact hret _ _ _ _ _ _ dX10_toldOf_107 hW hq
        · replace hq := br_neg h13_3 hq
          by_cases h13_4 : x2 = 4
          · replace hq := br_pos h13_4 hq
            refine lv_tableIn (off := 67) (tgt := 80) hx hb dX10_toldOf_13 (by rw [h13_4]; decide) (by rw [h13_4]; decide) (by rw [h13_4]; decide) (by decide) ?_
            refine lv_aload_n hx hb dX10_toldOf_80 rfl (lv_at hl 0 rfl) ?_
            refine xg_X10_279 C hW dX10_toldOf_81 ?_
            refine lv_goto (tgt := 107) hx hb dX10_toldOf_84 (by decide) ?_
            exact hret _ _ _ _ _ _ dX10_toldOf_107 hW hq
          · replace hq := br_neg h13_4 hq
            by_cases h13_5 : x2 = 5
            · replace hq := br_pos h13_5 hq
              refine lv_tableIn (off := 74) (tgt := 87) hx hb dX10_toldOf_13 (by rw [h13_5]; decide) (by rw [h13_5]; decide) (by rw [h13_5]; decide) (by decide) ?_
              refine lv_aload_n hx hb dX10_toldOf_87 rfl (lv_at hl 1 rfl) ?_
              refine xg_X10_31 C hW dX10_toldOf_88 ?_
              refine xg_X10_116 C hW dX10_toldOf_91 ?_
              refine lv_iload_n hx hb dX10_toldOf_94 rfl (lv_at hl 2 rfl) ?_
              obtain ⟨hin5, hq⟩ := hq
              refine xa_T0 C hW hin5 dX10_toldOf_95 ?_
              refine lv_goto (tgt := 107) hx hb dX10_toldOf_96 (by decide) ?_
              exact hret _ _ _ _ _ _ dX10_toldOf_107 hW hq
            · replace hq := br_neg h13_5 hq
              refine lv_tableOut (tgt := 99) hx hb dX10_toldOf_13 (ne_out6 h13_0 h13_1 h13_2 h13_3 h13_4 h13_5) (by decide) ?_
              refine lv_aload_n hx hb dX10_toldOf_99 rfl (lv_at hl 1 rfl) ?_
              refine xg_X10_31 C hW dX10_toldOf_100 ?_
              refine lv_iload_n hx hb dX10_toldOf_103 rfl (lv_at hl 2 rfl) ?_
              refine kX8_seatOf_X10_282 C hW (Nat.le_trans (by decide) hRf) (Nat.le_trans (by decide) hRl) hl.1 (Nat.le_of_ble_eq_true rfl) dX10_toldOf_104 hq (fun r_7 σ_6 H locs hq hW => ?_)
              exact hret _ _ _ _ _ _ dX10_toldOf_107 hW hq
set_option maxHeartbeats 4000000 in
set_option maxRecDepth 100000 in
theorem mX10_toldOf {l : Launch} {g : XG} {σ : XS} {x1 : Int32} {x2 : Int32} {P : Int32 → XS → Prop} (hq : qX10_toldOf g σ x1 x2 P) (sz : Nat) : Met l yX10_toldOf (cws yX10_toldOf cX10_toldOf 4 (some .int)) ({ frames := 3, cells := 0, slots := 0, locals := 64 } : Room) (va_Pc [.ref (g.2.1 0), .int x1, .int x2] (WP g.1 (xw g) (xty g) σ sz)) (va_Qi P (WB g.1 (xw g) (xty g) σ sz) (va_A (xw g σ) sz)) 0 0 (va_A (xw g σ) sz) :=
  w_enter (by decide) (Nat.le_of_ble_eq_true rfl) (fun p e s m args below meth c ls C hr hk hn hs hW hl => wX10_toldOf C (Nat.le_refl _) (Nat.le_refl _) (fun pc ls v σ H locs hd hW hq => w_iret C hs hr hk hW hd hq) hW hl hq)
set_option maxHeartbeats 4000000 in
set_option maxRecDepth 100000 in
theorem kX10_toldOf_X10_133 (C : CallFix p m c cc nL s args lwg RX10) {σ : XS} (hW : WI g.1 (xw g) (xty g) A s σ H locs) (hRf : 4 ≤ R.frames) (hRl : 87 ≤ R.locals) (hls : ls.size = nL) (hro : (rest.map fun v => v.category).sum ≤ 8) {x1 : Int32} {x2 : Int32} (hd : decode cc pc = .ok (.invokevirtual 133, 3)) {P : Int32 → XS → Prop} (hq : qX10_toldOf g σ x1 x2 P) (kk : ∀ (r : Int32) (σ1 : XS) (H : Heap) (locs : List Loc), P r σ1 → WI g.1 (xw g) (xty g) A s σ1 H locs → W p l e R s m args below meth c H locs 0 0 Q (F0 m (pc + 3) ls (.int r :: rest))) : W p l e R s m args below meth c H locs 0 0 Q (F0 m pc ls (.int x2 :: .int x1 :: .ref (g.2.1 0) :: rest)) :=
  w_calli hW (w_runV C hW (mX10_toldOf hq _) ⟨(lwg_at 571 (by decide +kernel) rfl), (lwg_at 66 (by decide +kernel) rfl), (lwg_at 568 (by decide +kernel) rfl)⟩ (lwg_at 570 (by decide +kernel) rfl) (lwg_at 7 (by decide +kernel) rfl) (np := 2) (by decide +kernel) ⟨rfl, rfl⟩ ⟨hRf, hRl⟩ (ci := 11) rfl rfl (q0 := 0) rfl rfl hls rfl hro hd ⟨Nat.zero_le _, Nat.zero_le _⟩) kk
-- X10_about
set_option maxHeartbeats 4000000 in
set_option maxRecDepth 100000 in
theorem wX10_about (C : CallFix p m c cX10_about 3 s args lwg RX10) (hRf : 4 ≤ R.frames) (hRl : 87 ≤ R.locals) {P : Int32 → XS → Prop} (hret : RetI g.1 (xw g) (xty g) A p l e R s m args below meth c 0 0 Q cX10_about P) {σ : XS} {x1 : Int32} {x2 : Int32} {H : Heap} {locs : List Loc} {ls : Array Slot} (hW : WI g.1 (xw g) (xty g) A s σ H locs) (hl : lv_has ls 3 [(0, .ref (g.2.1 0)), (1, .int x1), (2, .int x2)]) (hq : qX10_about g σ x1 x2 P) : W p l e R s m args below meth c H locs 0 0 Q (F0 m 0 ls []) := by
  have hx := C.1
  have hb := C.2.1
  unfold qX10_about at hq
  refine lv_aload_n hx hb dX10_about_0 rfl (lv_at hl 0 rfl) ?_
  refine lv_iload_n hx hb dX10_about_1 rfl (lv_at hl 1 rfl) ?_
  refine kX10_isHermit_X10_120 C hW (Nat.le_trans (by decide) hRf) (Nat.le_trans (by decide) hRl) hl.1 (Nat.le_of_ble_eq_true rfl) dX10_about_2 hq (fun r_2 σ_1 H locs hq hW => ?_)
  refine lv_if_ne (tgt := 12) hx hb dX10_about_5 (by decide) (fun h => ?_) (fun h => ?_)
  · replace hq := br_neg h hq
    refine lv_iload_n hx hb dX10_about_12 rfl (lv_at hl 2 rfl) ?_
    refine lv_iconst (v := 0) hx hb dX10_about_13 (by decide) ?_
    refine lv_bipush (v := 6) hx hb dX10_about_14 (by decide) ?_
    refine kX10_isWithin_X10_102 C hW (Nat.le_trans (by decide) hRf) (Nat.le_trans (by decide) hRl) hl.1 (Nat.le_of_ble_eq_true rfl) dX10_about_16 hq (fun r_4 σ_3 H locs hq hW => ?_)
    refine lv_if_eq (tgt := 31) hx hb dX10_about_19 (by decide) (fun h => ?_) (fun h => ?_)
    · replace hq := br_pos h hq
      refine lv_sipush (v := (-1002)) hx hb dX10_about_31 (by decide) ?_
      exact hret _ _ _ _ _ _ dX10_about_34 hW hq
    · replace hq := br_neg h hq
      refine lv_aload_n hx hb dX10_about_22 rfl (lv_at hl 0 rfl) ?_
      refine lv_iload_n hx hb dX10_about_23 rfl (lv_at hl 1 rfl) ?_
      refine lv_iload_n hx hb dX10_about_24 rfl (lv_at hl 2 rfl) ?_
      refine kX10_toldOf_X10_133 C hW (Nat.le_trans (by decide) hRf) (Nat.le_trans (by decide) hRl) hl.1 (Nat.le_of_ble_eq_true rfl) dX10_about_25 hq (fun r_6 σ_5 H locs hq hW => ?_)
      refine lv_goto (tgt := 34) hx hb dX10_about_28 (by decide) ?_
      exact hret _ _ _ _ _ _ dX10_about_34 hW hq
  · replace hq := br_pos h hq
    refine lv_sipush (v := (-1001)) hx hb dX10_about_8 (by decide) ?_
    exact hret _ _ _ _ _ _ dX10_about_11 hW hq
set_option maxHeartbeats 4000000 in
set_option maxRecDepth 100000 in
theorem mX10_about {l : Launch} {g : XG} {σ : XS} {x1 : Int32} {x2 : Int32} {P : Int32 → XS → Prop} (hq : qX10_about g σ x1 x2 P) (sz : Nat) : Met l yX10_about (cws yX10_about cX10_about 3 (some .int)) ({ frames := 4, cells := 0, slots := 0, locals := 87 } : Room) (va_Pc [.ref (g.2.1 0), .int x1, .int x2] (WP g.1 (xw g) (xty g) σ sz)) (va_Qi P (WB g.1 (xw g) (xty g) σ sz) (va_A (xw g σ) sz)) 0 0 (va_A (xw g σ) sz) :=
  w_enter (by decide) (Nat.le_of_ble_eq_true rfl) (fun p e s m args below meth c ls C hr hk hn hs hW hl => wX10_about C (Nat.le_refl _) (Nat.le_refl _) (fun pc ls v σ H locs hd hW hq => w_iret C hs hr hk hW hd hq) hW hl hq)
-- X10_store
set_option maxHeartbeats 4000000 in
set_option maxRecDepth 100000 in
theorem wX10_store (C : CallFix p m c cX10_store 4 s args lwg RX10) (hRf : 2 ≤ R.frames) (hRl : 41 ≤ R.locals) {P : Int32 → XS → Prop} (hret : RetI g.1 (xw g) (xty g) A p l e R s m args below meth c 0 0 Q cX10_store P) {σ : XS} {x1 : Int32} {x2 : Int32} {H : Heap} {locs : List Loc} {ls : Array Slot} (hW : WI g.1 (xw g) (xty g) A s σ H locs) (hl : lv_has ls 4 [(0, .ref (g.2.1 0)), (1, .int x1), (2, .int x2)]) (hq : qX10_store g σ x1 x2 P) : W p l e R s m args below meth c H locs 0 0 Q (F0 m 0 ls []) := by
  have hx := C.1
  have hb := C.2.1
  unfold qX10_store at hq
  refine lv_aload_n hx hb dX10_store_0 rfl (lv_at hl 0 rfl) ?_
  refine lv_iload_n hx hb dX10_store_1 rfl (lv_at hl 1 rfl) ?_
  refine kX10_isHermit_X10_120 C hW (Nat.le_trans (by decide) hRf) (Nat.le_trans (by decide) hRl) hl.1 (Nat.le_of_ble_eq_true rfl) dX10_store_2 hq (fun r_2 σ_1 H locs hq hW => ?_)
  refine lv_if_ne (tgt := 12) hx hb dX10_store_5 (by decide) (fun h => ?_) (fun h => ?_)
  · replace hq := br_neg h hq
    refine lv_iload_n hx hb dX10_store_12 rfl (lv_at hl 2 rfl) ?_
    refine lv_iconst (v := 0) hx hb dX10_store_13 (by decide) ?_
    refine lv_bipush (v := 99) hx hb dX10_store_14 (by decide) ?_
    refine kX10_isWithin_X10_102 C hW (Nat.le_trans (by decide) hRf) (Nat.le_trans (by decide) hRl) hl.1 (Nat.le_of_ble_eq_true rfl) dX10_store_16 hq (fun r_4 σ_3 H locs hq hW => ?_)
    refine lv_if_ne (tgt := 26) hx hb dX10_store_19 (by decide) (fun h => ?_) (fun h => ?_)
    · replace hq := br_neg h hq
      refine lv_aload_n hx hb dX10_store_26 rfl (lv_at hl 0 rfl) ?_
      refine xg_X10_31 C hW dX10_store_27 ?_
      refine xg_X10_116 C hW dX10_store_30 ?_
      refine lv_iload_n hx hb dX10_store_33 rfl (lv_at hl 1 rfl) ?_
      obtain ⟨hin5, hq⟩ := hq
      refine xa_T0 C hW hin5 dX10_store_34 ?_
      refine lv_topi (fun x3_6 ex3_6 => ?_)
      replace hq := hq _ ex3_6
      refine lv_istore_n (lv' := [(3, .int x3_6), (0, .ref (g.2.1 0)), (1, .int x1), (2, .int x2)]) hx hb dX10_store_35 rfl hl (by decide) rfl (fun ls hl => ?_)
      refine lv_aload_n hx hb dX10_store_36 rfl (lv_at hl 1 rfl) ?_
      refine xg_X10_31 C hW dX10_store_37 ?_
      refine xg_X10_116 C hW dX10_store_40 ?_
      refine lv_iload_n hx hb dX10_store_43 rfl (lv_at hl 2 rfl) ?_
      refine lv_iload_n hx hb dX10_store_44 rfl (lv_at hl 3 rfl) ?_
      refine xs_T0 C hW hin5 dX10_store_45 (fun σ_7 H locs eσ_7 hW => ?_)
      replace hq := hq _ eσ_7
      refine lv_iload_n hx hb dX10_store_46 rfl (lv_at hl 0 rfl) ?_
      exact hret _ _ _ _ _ _ dX10_store_47 hW hq
    · replace hq := br_pos h hq
      refine lv_sipush (v := (-1002)) hx hb dX10_store_22 (by decide) ?_
      exact hret _ _ _ _ _ _ dX10_store_25 hW hq
  · replace hq := br_pos h hq
    refine lv_sipush (v := (-1001)) hx hb dX10_store_8 (by decide) ?_
    exact hret _ _ _ _ _ _ dX10_store_11 hW hq
set_option maxHeartbeats 4000000 in
set_option maxRecDepth 100000 in
theorem mX10_store {l : Launch} {g : XG} {σ : XS} {x1 : Int32} {x2 : Int32} {P : Int32 → XS → Prop} (hq : qX10_store g σ x1 x2 P) (sz : Nat) : Met l yX10_store (cws yX10_store cX10_store 4 (some .int)) ({ frames := 2, cells := 0, slots := 0, locals := 41 } : Room) (va_Pc [.ref (g.2.1 0), .int x1, .int x2] (WP g.1 (xw g) (xty g) σ sz)) (va_Qi P (WB g.1 (xw g) (xty g) σ sz) (va_A (xw g σ) sz)) 0 0 (va_A (xw g σ) sz) :=
  w_enter (by decide) (Nat.le_of_ble_eq_true rfl) (fun p e s m args below meth c ls C hr hk hn hs hW hl => wX10_store C (Nat.le_refl _) (Nat.le_refl _) (fun pc ls v σ H locs hd hW hq => w_iret C hs hr hk hW hd hq) hW hl hq)
-- X10_isSeat
set_option maxHeartbeats 4000000 in
set_option maxRecDepth 100000 in
theorem wX10_isSeat (C : CallFix p m c cX10_isSeat 2 s args lwg RX10) (hRf : 1 ≤ R.frames) (hRl : 20 ≤ R.locals) {P : Int32 → XS → Prop} (hret : RetZ g.1 (xw g) (xty g) A p l e R s m args below meth c 0 0 Q cX10_isSeat P) {σ : XS} {x1 : Int32} {H : Heap} {locs : List Loc} {ls : Array Slot} (hW : WI g.1 (xw g) (xty g) A s σ H locs) (hl : lv_has ls 2 [(0, .ref (g.2.1 0)), (1, .int x1)]) (hq : qX10_isSeat g σ x1 P) : W p l e R s m args below meth c H locs 0 0 Q (F0 m 0 ls []) := by
  have hx := C.1
  have hb := C.2.1
  unfold qX10_isSeat at hq
  refine lv_iload_n hx hb dX10_isSeat_0 rfl (lv_at hl 1 rfl) ?_
  refine lv_if_lt (tgt := 19) hx hb dX10_isSeat_1 (by decide) (fun h => ?_) (fun h => ?_)
  · replace hq := br_pos h hq
    refine lv_iconst (v := 0) hx hb dX10_isSeat_19 (by decide) ?_
    exact hret _ _ _ _ _ _ dX10_isSeat_20 hW isB_0 hq
  · replace hq := br_neg h hq
    refine lv_iload_n hx hb dX10_isSeat_4 rfl (lv_at hl 1 rfl) ?_
    refine lv_aload_n hx hb dX10_isSeat_5 rfl (lv_at hl 0 rfl) ?_
    refine xg_X10_12 C hW dX10_isSeat_6 ?_
    refine xsiz_H_X10_81 C hW (Nat.le_trans (by decide) hRf) (Nat.le_trans (by decide) hRl) hl.1 (Nat.le_of_ble_eq_true rfl) dX10_isSeat_9 (fun H locs hW => ?_)
    refine lv_icmp_ge (tgt := 19) hx hb dX10_isSeat_12 (by decide) (fun h => ?_) (fun h => ?_)
    · replace hq := br_pos h hq
      refine lv_iconst (v := 0) hx hb dX10_isSeat_19 (by decide) ?_
      exact hret _ _ _ _ _ _ dX10_isSeat_20 hW isB_0 hq
    · replace hq := br_neg h hq
      refine lv_iconst (v := 1) hx hb dX10_isSeat_15 (by decide) ?_
      refine lv_goto (tgt := 20) hx hb dX10_isSeat_16 (by decide) ?_
      exact hret _ _ _ _ _ _ dX10_isSeat_20 hW isB_1 hq
set_option maxHeartbeats 4000000 in
set_option maxRecDepth 100000 in
theorem mX10_isSeat {l : Launch} {g : XG} {σ : XS} {x1 : Int32} {P : Int32 → XS → Prop} (hq : qX10_isSeat g σ x1 P) (sz : Nat) : Met l yX10_isSeat (cws yX10_isSeat cX10_isSeat 2 (some .boolean)) ({ frames := 1, cells := 0, slots := 0, locals := 20 } : Room) (va_Pc [.ref (g.2.1 0), .int x1] (WP g.1 (xw g) (xty g) σ sz)) (va_Qi P (WB g.1 (xw g) (xty g) σ sz) (va_A (xw g σ) sz)) 0 0 (va_A (xw g σ) sz) :=
  w_enter (by decide) (Nat.le_of_ble_eq_true rfl) (fun p e s m args below meth c ls C hr hk hn hs hW hl => wX10_isSeat C (Nat.le_refl _) (Nat.le_refl _) (fun pc ls v σ H locs hd hW hv hq => w_zret C hs hr hk hW hd hv hq) hW hl hq)
set_option maxHeartbeats 4000000 in
set_option maxRecDepth 100000 in
theorem kX10_isSeat_X10_137 (C : CallFix p m c cc nL s args lwg RX10) {σ : XS} (hW : WI g.1 (xw g) (xty g) A s σ H locs) (hRf : 2 ≤ R.frames) (hRl : 41 ≤ R.locals) (hls : ls.size = nL) (hro : (rest.map fun v => v.category).sum ≤ 8) {x1 : Int32} (hd : decode cc pc = .ok (.invokevirtual 137, 3)) {P : Int32 → XS → Prop} (hq : qX10_isSeat g σ x1 P) (kk : ∀ (r : Int32) (σ1 : XS) (H : Heap) (locs : List Loc), P r σ1 → WI g.1 (xw g) (xty g) A s σ1 H locs → W p l e R s m args below meth c H locs 0 0 Q (F0 m (pc + 3) ls (.int r :: rest))) : W p l e R s m args below meth c H locs 0 0 Q (F0 m pc ls (.int x1 :: .ref (g.2.1 0) :: rest)) :=
  w_calli hW (w_runV C hW (mX10_isSeat hq _) ⟨(lwg_at 604 (by decide +kernel) rfl), (lwg_at 66 (by decide +kernel) rfl), (lwg_at 601 (by decide +kernel) rfl)⟩ (lwg_at 603 (by decide +kernel) rfl) (lwg_at 8 (by decide +kernel) rfl) (np := 1) (by decide +kernel) ⟨rfl, rfl⟩ ⟨hRf, hRl⟩ (ci := 11) rfl rfl (q0 := 0) rfl rfl hls rfl hro hd ⟨Nat.zero_le _, Nat.zero_le _⟩) kk
-- X10_change
set_option maxHeartbeats 4000000 in
set_option maxRecDepth 100000 in
theorem wX10_change (C : CallFix p m c cX10_change 3 s args lwg RX10) (hRf : 2 ≤ R.frames) (hRl : 41 ≤ R.locals) {P : Int32 → XS → Prop} (hret : RetI g.1 (xw g) (xty g) A p l e R s m args below meth c 0 0 Q cX10_change P) {σ : XS} {x1 : Int32} {x2 : Int32} {H : Heap} {locs : List Loc} {ls : Array Slot} (hW : WI g.1 (xw g) (xty g) A s σ H locs) (hl : lv_has ls 3 [(0, .ref (g.2.1 0)), (1, .int x1), (2, .int x2)]) (hq : qX10_change g σ x1 x2 P) : W p l e R s m args below meth c H locs 0 0 Q (F0 m 0 ls []) := by
  have hx := C.1
  have hb := C.2.1
  unfold qX10_change at hq
  refine lv_aload_n hx hb dX10_change_0 rfl (lv_at hl 0 rfl) ?_
  refine lv_iload_n hx hb dX10_change_1 rfl (lv_at hl 1 rfl) ?_
  refine kX10_isSeat_X10_137 C hW (Nat.le_trans (by decide) hRf) (Nat.le_trans (by decide) hRl) hl.1 (Nat.le_of_ble_eq_true rfl) dX10_change_2 hq (fun r_2 σ_1 H locs hq hW => ?_)
  refine lv_if_eq (tgt := 21) hx hb dX10_change_5 (by decide) (fun h => ?_) (fun h => ?_)
  · replace hq := br_pos h hq
    refine lv_bipush (v := (-101)) hx hb dX10_change_21 (by decide) ?_
    exact hret _ _ _ _ _ _ dX10_change_23 hW hq
  · replace hq := br_neg h hq
    refine lv_aload_n hx hb dX10_change_8 rfl (lv_at hl 0 rfl) ?_
    refine lv_iload_n hx hb dX10_change_9 rfl (lv_at hl 2 rfl) ?_
    refine kX10_isSeat_X10_137 C hW (Nat.le_trans (by decide) hRf) (Nat.le_trans (by decide) hRl) hl.1 (Nat.le_of_ble_eq_true rfl) dX10_change_10 hq (fun r_4 σ_3 H locs hq hW => ?_)
    refine lv_if_eq (tgt := 21) hx hb dX10_change_13 (by decide) (fun h => ?_) (fun h => ?_)
    · replace hq := br_pos h hq
      refine lv_bipush (v := (-101)) hx hb dX10_change_21 (by decide) ?_
      exact hret _ _ _ _ _ _ dX10_change_23 hW hq
    · replace hq := br_neg h hq
      refine lv_iload_n hx hb dX10_change_16 rfl (lv_at hl 1 rfl) ?_
      refine lv_iload_n hx hb dX10_change_17 rfl (lv_at hl 2 rfl) ?_
      refine lv_icmp_ne (tgt := 24) hx hb dX10_change_18 (by decide) (fun h => ?_) (fun h => ?_)
      · replace hq := br_neg h hq
        refine lv_aload_n hx hb dX10_change_24 rfl (lv_at hl 0 rfl) ?_
        refine xg_X10_31 C hW dX10_change_25 ?_
        refine lv_iload_n hx hb dX10_change_28 rfl (lv_at hl 1 rfl) ?_
        refine lv_iload_n hx hb dX10_change_29 rfl (lv_at hl 2 rfl) ?_
        refine kX8_exchange_X10_140 C hW (Nat.le_trans (by decide) hRf) (Nat.le_trans (by decide) hRl) hl.1 (Nat.le_of_ble_eq_true rfl) dX10_change_30 hq (fun σ_5 H locs hq hW => ?_)
        refine lv_aload_n hx hb dX10_change_33 rfl (lv_at hl 0 rfl) ?_
        refine xg_X10_31 C hW dX10_change_34 ?_
        refine xg_X10_144 C hW dX10_change_37 ?_
        refine lv_iload_n hx hb dX10_change_40 rfl (lv_at hl 1 rfl) ?_
        obtain ⟨hin6, hq⟩ := hq
        refine xa_T1 C hW hin6 dX10_change_41 ?_
        exact hret _ _ _ _ _ _ dX10_change_42 hW hq
      · replace hq := br_pos h hq
        refine lv_bipush (v := (-101)) hx hb dX10_change_21 (by decide) ?_
        exact hret _ _ _ _ _ _ dX10_change_23 hW hq
set_option maxHeartbeats 4000000 in
set_option maxRecDepth 100000 in
theorem mX10_change {l : Launch} {g : XG} {σ : XS} {x1 : Int32} {x2 : Int32} {P : Int32 → XS → Prop} (hq : qX10_change g σ x1 x2 P) (sz : Nat) : Met l yX10_change (cws yX10_change cX10_change 3 (some .int)) ({ frames := 2, cells := 0, slots := 0, locals := 41 } : Room) (va_Pc [.ref (g.2.1 0), .int x1, .int x2] (WP g.1 (xw g) (xty g) σ sz)) (va_Qi P (WB g.1 (xw g) (xty g) σ sz) (va_A (xw g σ) sz)) 0 0 (va_A (xw g σ) sz) :=
  w_enter (by decide) (Nat.le_of_ble_eq_true rfl) (fun p e s m args below meth c ls C hr hk hn hs hW hl => wX10_change C (Nat.le_refl _) (Nat.le_refl _) (fun pc ls v σ H locs hd hW hq => w_iret C hs hr hk hW hd hq) hW hl hq)
-- X10_soup
set_option maxHeartbeats 4000000 in
set_option maxRecDepth 100000 in
theorem wX10_soup (C : CallFix p m c cX10_soup 4 s args lwg RX10) (hRf : 1 ≤ R.frames) (hRl : 22 ≤ R.locals) {P : Int32 → XS → Prop} (hret : RetI g.1 (xw g) (xty g) A p l e R s m args below meth c 0 0 Q cX10_soup P) {σ : XS} {x1 : Int32} {x2 : Int32} {H : Heap} {locs : List Loc} {ls : Array Slot} (hW : WI g.1 (xw g) (xty g) A s σ H locs) (hl : lv_has ls 4 [(0, .ref (g.2.1 0)), (1, .int x1), (2, .int x2)]) (hq : qX10_soup g σ x1 x2 P) : W p l e R s m args below meth c H locs 0 0 Q (F0 m 0 ls []) := by
  have hx := C.1
  have hb := C.2.1
  unfold qX10_soup at hq
  refine lv_iload_n hx hb dX10_soup_0 rfl (lv_at hl 1 rfl) ?_
  refine lv_iconst (v := 0) hx hb dX10_soup_1 (by decide) ?_
  refine lv_iconst (v := 4) hx hb dX10_soup_2 (by decide) ?_
  refine kX10_isWithin_X10_102 C hW (Nat.le_trans (by decide) hRf) (Nat.le_trans (by decide) hRl) hl.1 (Nat.le_of_ble_eq_true rfl) dX10_soup_3 hq (fun r_2 σ_1 H locs hq hW => ?_)
  refine lv_if_ne (tgt := 12) hx hb dX10_soup_6 (by decide) (fun h => ?_) (fun h => ?_)
  · replace hq := br_neg h hq
    refine lv_iload_n hx hb dX10_soup_12 rfl (lv_at hl 2 rfl) ?_
    refine lv_iconst (v := 0) hx hb dX10_soup_13 (by decide) ?_
    refine lv_bipush (v := 99) hx hb dX10_soup_14 (by decide) ?_
    refine kX10_isWithin_X10_102 C hW (Nat.le_trans (by decide) hRf) (Nat.le_trans (by decide) hRl) hl.1 (Nat.le_of_ble_eq_true rfl) dX10_soup_16 hq (fun r_4 σ_3 H locs hq hW => ?_)
    refine lv_if_ne (tgt := 25) hx hb dX10_soup_19 (by decide) (fun h => ?_) (fun h => ?_)
    · replace hq := br_neg h hq
      refine lv_aload_n hx hb dX10_soup_25 rfl (lv_at hl 0 rfl) ?_
      refine xg_X10_31 C hW dX10_soup_26 ?_
      refine xg_X10_147 C hW dX10_soup_29 ?_
      refine lv_iload_n hx hb dX10_soup_32 rfl (lv_at hl 1 rfl) ?_
      obtain ⟨hin5, hq⟩ := hq
      refine xa_T2 C hW hin5 dX10_soup_33 ?_
      refine lv_topi (fun x3_6 ex3_6 => ?_)
      replace hq := hq _ ex3_6
      refine lv_istore_n (lv' := [(3, .int x3_6), (0, .ref (g.2.1 0)), (1, .int x1), (2, .int x2)]) hx hb dX10_soup_34 rfl hl (by decide) rfl (fun ls hl => ?_)
      refine lv_aload_n hx hb dX10_soup_35 rfl (lv_at hl 1 rfl) ?_
      refine xg_X10_31 C hW dX10_soup_36 ?_
      refine xg_X10_147 C hW dX10_soup_39 ?_
      refine lv_iload_n hx hb dX10_soup_42 rfl (lv_at hl 2 rfl) ?_
      refine lv_iload_n hx hb dX10_soup_43 rfl (lv_at hl 3 rfl) ?_
      refine xs_T2 C hW hin5 dX10_soup_44 (fun σ_7 H locs eσ_7 hW => ?_)
      replace hq := hq _ eσ_7
      refine lv_iload_n hx hb dX10_soup_45 rfl (lv_at hl 0 rfl) ?_
      exact hret _ _ _ _ _ _ dX10_soup_46 hW hq
    · replace hq := br_pos h hq
      refine lv_bipush (v := (-102)) hx hb dX10_soup_22 (by decide) ?_
      exact hret _ _ _ _ _ _ dX10_soup_24 hW hq
  · replace hq := br_pos h hq
    refine lv_bipush (v := (-101)) hx hb dX10_soup_9 (by decide) ?_
    exact hret _ _ _ _ _ _ dX10_soup_11 hW hq
set_option maxHeartbeats 4000000 in
set_option maxRecDepth 100000 in
theorem mX10_soup {l : Launch} {g : XG} {σ : XS} {x1 : Int32} {x2 : Int32} {P : Int32 → XS → Prop} (hq : qX10_soup g σ x1 x2 P) (sz : Nat) : Met l yX10_soup (cws yX10_soup cX10_soup 4 (some .int)) ({ frames := 1, cells := 0, slots := 0, locals := 22 } : Room) (va_Pc [.ref (g.2.1 0), .int x1, .int x2] (WP g.1 (xw g) (xty g) σ sz)) (va_Qi P (WB g.1 (xw g) (xty g) σ sz) (va_A (xw g σ) sz)) 0 0 (va_A (xw g σ) sz) :=
  w_enter (by decide) (Nat.le_of_ble_eq_true rfl) (fun p e s m args below meth c ls C hr hk hn hs hW hl => wX10_soup C (Nat.le_refl _) (Nat.le_refl _) (fun pc ls v σ H locs hd hW hq => w_iret C hs hr hk hW hd hq) hW hl hq)
-- X10_heat
set_option maxHeartbeats 4000000 in
set_option maxRecDepth 100000 in
theorem wX10_heat (C : CallFix p m c cX10_heat 3 s args lwg RX10) (hRf : 1 ≤ R.frames) (hRl : 22 ≤ R.locals) {P : Int32 → XS → Prop} (hret : RetI g.1 (xw g) (xty g) A p l e R s m args below meth c 0 0 Q cX10_heat P) {σ : XS} {x1 : Int32} {H : Heap} {locs : List Loc} {ls : Array Slot} (hW : WI g.1 (xw g) (xty g) A s σ H locs) (hl : lv_has ls 3 [(0, .ref (g.2.1 0)), (1, .int x1)]) (hq : qX10_heat g σ x1 P) : W p l e R s m args below meth c H locs 0 0 Q (F0 m 0 ls []) := by
  have hx := C.1
  have hb := C.2.1
  unfold qX10_heat at hq
  refine lv_iload_n hx hb dX10_heat_0 rfl (lv_at hl 1 rfl) ?_
  refine lv_iconst (v := 0) hx hb dX10_heat_1 (by decide) ?_
  refine lv_sipush (v := 300) hx hb dX10_heat_2 (by decide) ?_
  refine kX10_isWithin_X10_102 C hW (Nat.le_trans (by decide) hRf) (Nat.le_trans (by decide) hRl) hl.1 (Nat.le_of_ble_eq_true rfl) dX10_heat_5 hq (fun r_2 σ_1 H locs hq hW => ?_)
  refine lv_if_ne (tgt := 14) hx hb dX10_heat_8 (by decide) (fun h => ?_) (fun h => ?_)
  · replace hq := br_neg h hq
    refine lv_aload_n hx hb dX10_heat_14 rfl (lv_at hl 0 rfl) ?_
    refine xg_X10_31 C hW dX10_heat_15 ?_
    refine xg_X10_150 C hW dX10_heat_18 ?_
    refine lv_topi (fun x2_3 ex2_3 => ?_)
    replace hq := hq _ ex2_3
    refine lv_istore_n (lv' := [(2, .int x2_3), (0, .ref (g.2.1 0)), (1, .int x1)]) hx hb dX10_heat_21 rfl hl (by decide) rfl (fun ls hl => ?_)
    refine lv_aload_n hx hb dX10_heat_22 rfl (lv_at hl 1 rfl) ?_
    refine xg_X10_31 C hW dX10_heat_23 ?_
    refine lv_iload_n hx hb dX10_heat_26 rfl (lv_at hl 2 rfl) ?_
    refine xp_X10_150 C hW dX10_heat_27 (fun σ_4 H locs eσ_4 hW => ?_)
    replace hq := hq _ eσ_4
    refine lv_iload_n hx hb dX10_heat_30 rfl (lv_at hl 0 rfl) ?_
    exact hret _ _ _ _ _ _ dX10_heat_31 hW hq
  · replace hq := br_pos h hq
    refine lv_bipush (v := (-102)) hx hb dX10_heat_11 (by decide) ?_
    exact hret _ _ _ _ _ _ dX10_heat_13 hW hq
set_option maxHeartbeats 4000000 in
set_option maxRecDepth 100000 in
theorem mX10_heat {l : Launch} {g : XG} {σ : XS} {x1 : Int32} {P : Int32 → XS → Prop} (hq : qX10_heat g σ x1 P) (sz : Nat) : Met l yX10_heat (cws yX10_heat cX10_heat 3 (some .int)) ({ frames := 1, cells := 0, slots := 0, locals := 22 } : Room) (va_Pc [.ref (g.2.1 0), .int x1] (WP g.1 (xw g) (xty g) σ sz)) (va_Qi P (WB g.1 (xw g) (xty g) σ sz) (va_A (xw g σ) sz)) 0 0 (va_A (xw g σ) sz) :=
  w_enter (by decide) (Nat.le_of_ble_eq_true rfl) (fun p e s m args below meth c ls C hr hk hn hs hW hl => wX10_heat C (Nat.le_refl _) (Nat.le_refl _) (fun pc ls v σ H locs hd hW hq => w_iret C hs hr hk hW hd hq) hW hl hq)
-- X10_feast
set_option maxHeartbeats 4000000 in
set_option maxRecDepth 100000 in
theorem wX10_feast (C : CallFix p m c cX10_feast 3 s args lwg RX10) (hRf : 1 ≤ R.frames) (hRl : 20 ≤ R.locals) {P : Int32 → XS → Prop} (hret : RetI g.1 (xw g) (xty g) A p l e R s m args below meth c 0 0 Q cX10_feast P) {σ : XS} {x1 : Int32} {H : Heap} {locs : List Loc} {ls : Array Slot} (hW : WI g.1 (xw g) (xty g) A s σ H locs) (hl : lv_has ls 3 [(0, .ref (g.2.1 0)), (1, .int x1)]) (hq : qX10_feast g σ x1 P) : W p l e R s m args below meth c H locs 0 0 Q (F0 m 0 ls []) := by
  have hx := C.1
  have hb := C.2.1
  unfold qX10_feast at hq
  refine lv_aload_n hx hb dX10_feast_0 rfl (lv_at hl 0 rfl) ?_
  refine xg_X10_31 C hW dX10_feast_1 ?_
  refine xg_X10_153 C hW dX10_feast_4 ?_
  refine kX10_asNumber_X10_156 C hW (Nat.le_trans (by decide) hRf) (Nat.le_trans (by decide) hRl) hl.1 (Nat.le_of_ble_eq_true rfl) dX10_feast_7 hq (fun r_2 σ_1 H locs hq hW => ?_)
  refine lv_istore_n (lv' := [(2, .int r_2), (0, .ref (g.2.1 0)), (1, .int x1)]) hx hb dX10_feast_10 rfl hl (by decide) rfl (fun ls hl => ?_)
  refine lv_aload_n hx hb dX10_feast_11 rfl (lv_at hl 1 rfl) ?_
  refine xg_X10_31 C hW dX10_feast_12 ?_
  refine lv_iload_n hx hb dX10_feast_15 rfl (lv_at hl 2 rfl) ?_
  obtain ⟨hib, hq⟩ := hq
  refine xp_X10_153 C hW hib dX10_feast_16 (fun σ_3 H locs eσ_3 hW => ?_)
  replace hq := hq _ eσ_3
  refine lv_iload_n hx hb dX10_feast_19 rfl (lv_at hl 0 rfl) ?_
  exact hret _ _ _ _ _ _ dX10_feast_20 hW hq
set_option maxHeartbeats 4000000 in
set_option maxRecDepth 100000 in
theorem mX10_feast {l : Launch} {g : XG} {σ : XS} {x1 : Int32} {P : Int32 → XS → Prop} (hq : qX10_feast g σ x1 P) (sz : Nat) : Met l yX10_feast (cws yX10_feast cX10_feast 3 (some .int)) ({ frames := 1, cells := 0, slots := 0, locals := 20 } : Room) (va_Pc [.ref (g.2.1 0), .int x1] (WP g.1 (xw g) (xty g) σ sz)) (va_Qi P (WB g.1 (xw g) (xty g) σ sz) (va_A (xw g σ) sz)) 0 0 (va_A (xw g σ) sz) :=
  w_enter (by decide) (Nat.le_of_ble_eq_true rfl) (fun p e s m args below meth c ls C hr hk hn hs hW hl => wX10_feast C (Nat.le_refl _) (Nat.le_refl _) (fun pc ls v σ H locs hd hW hq => w_iret C hs hr hk hW hd hq) hW hl hq)
-- X10_areFasts
set_option maxHeartbeats 4000000 in
set_option maxRecDepth 100000 in
theorem wX10_areFasts (C : CallFix p m c cX10_areFasts 2 s args lwg RX10) (hRf : 1 ≤ R.frames) (hRl : 20 ≤ R.locals) {P : Int32 → XS → Prop} (hret : RetZ g.1 (xw g) (xty g) A p l e R s m args below meth c 0 0 Q cX10_areFasts P) {σ : XS} {x1 : Int32} {H : Heap} {locs : List Loc} {ls : Array Slot} (hW : WI g.1 (xw g) (xty g) A s σ H locs) (hl : lv_has ls 2 [(0, .ref (g.2.1 0)), (1, .int x1)]) (hq : qX10_areFasts g σ x1 P) : W p l e R s m args below meth c H locs 0 0 Q (F0 m 0 ls []) := by
  have hx := C.1
  have hb := C.2.1
  unfold qX10_areFasts at hq
  refine lv_iload_n hx hb dX10_areFasts_0 rfl (lv_at hl 1 rfl) ?_
  refine lv_if_lt (tgt := 21) hx hb dX10_areFasts_1 (by decide) (fun h => ?_) (fun h => ?_)
  · replace hq := br_pos h hq
    refine lv_iconst (v := 0) hx hb dX10_areFasts_21 (by decide) ?_
    exact hret _ _ _ _ _ _ dX10_areFasts_22 hW isB_0 hq
  · replace hq := br_neg h hq
    refine lv_iload_n hx hb dX10_areFasts_4 rfl (lv_at hl 1 rfl) ?_
    refine lv_iconst (v := 1) hx hb dX10_areFasts_5 (by decide) ?_
    refine lv_aload_n hx hb dX10_areFasts_6 rfl (lv_at hl 0 rfl) ?_
    refine xg_X10_12 C hW dX10_areFasts_7 ?_
    refine xsiz_H_X10_81 C hW (Nat.le_trans (by decide) hRf) (Nat.le_trans (by decide) hRl) hl.1 (Nat.le_of_ble_eq_true rfl) dX10_areFasts_10 (fun H locs hW => ?_)
    refine w_ishl hx hb dX10_areFasts_13 ?_
    refine lv_icmp_ge (tgt := 21) hx hb dX10_areFasts_14 (by decide) (fun h => ?_) (fun h => ?_)
    · replace hq := br_pos h hq
      refine lv_iconst (v := 0) hx hb dX10_areFasts_21 (by decide) ?_
      exact hret _ _ _ _ _ _ dX10_areFasts_22 hW isB_0 hq
    · replace hq := br_neg h hq
      refine lv_iconst (v := 1) hx hb dX10_areFasts_17 (by decide) ?_
      refine lv_goto (tgt := 22) hx hb dX10_areFasts_18 (by decide) ?_
      exact hret _ _ _ _ _ _ dX10_areFasts_22 hW isB_1 hq
set_option maxHeartbeats 4000000 in
set_option maxRecDepth 100000 in
theorem mX10_areFasts {l : Launch} {g : XG} {σ : XS} {x1 : Int32} {P : Int32 → XS → Prop} (hq : qX10_areFasts g σ x1 P) (sz : Nat) : Met l yX10_areFasts (cws yX10_areFasts cX10_areFasts 2 (some .boolean)) ({ frames := 1, cells := 0, slots := 0, locals := 20 } : Room) (va_Pc [.ref (g.2.1 0), .int x1] (WP g.1 (xw g) (xty g) σ sz)) (va_Qi P (WB g.1 (xw g) (xty g) σ sz) (va_A (xw g σ) sz)) 0 0 (va_A (xw g σ) sz) :=
  w_enter (by decide) (Nat.le_of_ble_eq_true rfl) (fun p e s m args below meth c ls C hr hk hn hs hW hl => wX10_areFasts C (Nat.le_refl _) (Nat.le_refl _) (fun pc ls v σ H locs hd hW hv hq => w_zret C hs hr hk hW hd hv hq) hW hl hq)
set_option maxHeartbeats 4000000 in
set_option maxRecDepth 100000 in
theorem kX10_areFasts_X10_160 (C : CallFix p m c cc nL s args lwg RX10) {σ : XS} (hW : WI g.1 (xw g) (xty g) A s σ H locs) (hRf : 2 ≤ R.frames) (hRl : 41 ≤ R.locals) (hls : ls.size = nL) (hro : (rest.map fun v => v.category).sum ≤ 8) {x1 : Int32} (hd : decode cc pc = .ok (.invokevirtual 160, 3)) {P : Int32 → XS → Prop} (hq : qX10_areFasts g σ x1 P) (kk : ∀ (r : Int32) (σ1 : XS) (H : Heap) (locs : List Loc), P r σ1 → WI g.1 (xw g) (xty g) A s σ1 H locs → W p l e R s m args below meth c H locs 0 0 Q (F0 m (pc + 3) ls (.int r :: rest))) : W p l e R s m args below meth c H locs 0 0 Q (F0 m pc ls (.int x1 :: .ref (g.2.1 0) :: rest)) :=
  w_calli hW (w_runV C hW (mX10_areFasts hq _) ⟨(lwg_at 629 (by decide +kernel) rfl), (lwg_at 66 (by decide +kernel) rfl), (lwg_at 626 (by decide +kernel) rfl)⟩ (lwg_at 628 (by decide +kernel) rfl) (lwg_at 9 (by decide +kernel) rfl) (np := 1) (by decide +kernel) ⟨rfl, rfl⟩ ⟨hRf, hRl⟩ (ci := 11) rfl rfl (q0 := 0) rfl rfl hls rfl hro hd ⟨Nat.zero_le _, Nat.zero_le _⟩) kk
-- X10_day
set_option maxHeartbeats 4000000 in
set_option maxRecDepth 100000 in
theorem wX10_day (C : CallFix p m c cX10_day 6 s args lwg RX10) (hRf : 8 ≤ R.frames) (hRl : 189 ≤ R.locals) {P : Int32 → XS → Prop} (hret : RetI g.1 (xw g) (xty g) A p l e R s m args below meth c 0 0 Q cX10_day P) {σ : XS} {x1 : Int32} {x2 : Int32} {x3 : Int32} {x4 : Int32} {H : Heap} {locs : List Loc} {ls : Array Slot} (hW : WI g.1 (xw g) (xty g) A s σ H locs) (hl : lv_has ls 6 [(0, .ref (g.2.1 0)), (1, .int x1), (2, .int x2), (3, .int x3), (4, .int x4)]) (hq : qX10_day g σ x1 x2 x3 x4 P) : W p l e R s m args below meth c H locs 0 0 Q (F0 m 0 ls []) := by
  have hx := C.1
  have hb := C.2.1
  unfold qX10_day at hq
  refine lv_aload_n hx hb dX10_day_0 rfl (lv_at hl 0 rfl) ?_
  refine lv_iload_n hx hb dX10_day_1 rfl (lv_at hl 1 rfl) ?_
  refine kX10_vowNumbered_X10_94 C hW (Nat.le_trans (by decide) hRf) (Nat.le_trans (by decide) hRl) hl.1 (Nat.le_of_ble_eq_true rfl) dX10_day_2 hq (fun r_2 σ_1 H locs hq hW => ?_)
  rcases r_2 with _ | v_3
  · replace hq := hq.1 rfl
    refine W.eq (g2 := F0 m 5 ls (.null :: [])) rfl ?_
    refine lv_astoreN (lv' := [(5, .null), (0, .ref (g.2.1 0)), (1, .int x1), (2, .int x2), (3, .int x3), (4, .int x4)]) hx hb dX10_day_5 hl (by decide) rfl (fun ls hl => ?_)
    refine lv_aloadN hx hb dX10_day_7 (lv_at hl 0 rfl) ?_
    refine lv_ifnullN (tgt := 20) hx hb dX10_day_9 (by decide) ?_
    refine lv_bipush (v := (-101)) hx hb dX10_day_20 (by decide) ?_
    exact hret _ _ _ _ _ _ dX10_day_22 hW hq
  · replace hq := hq.2 v_3 rfl
    refine W.eq (g2 := F0 m 5 ls (.ref (vA g v_3) :: [])) rfl ?_
    refine lv_astore (lv' := [(5, .ref (vA g v_3)), (0, .ref (g.2.1 0)), (1, .int x1), (2, .int x2), (3, .int x3), (4, .int x4)]) hx hb dX10_day_5 hl (by decide) rfl (fun ls hl => ?_)
    refine lv_aload hx hb dX10_day_7 (lv_at hl 0 rfl) ?_
    refine lv_ifnull hx hb dX10_day_9 ?_
    refine lv_aload_n hx hb dX10_day_12 rfl (lv_at hl 1 rfl) ?_
    refine lv_iload_n hx hb dX10_day_13 rfl (lv_at hl 3 rfl) ?_
    refine kX10_isSeat_X10_137 C hW (Nat.le_trans (by decide) hRf) (Nat.le_trans (by decide) hRl) hl.1 (Nat.le_of_ble_eq_true rfl) dX10_day_14 hq (fun r_5 σ_4 H locs hq hW => ?_)
    refine lv_if_ne (tgt := 23) hx hb dX10_day_17 (by decide) (fun h => ?_) (fun h => ?_)
    · replace hq := br_neg h hq
      refine lv_aload_n hx hb dX10_day_23 rfl (lv_at hl 1 rfl) ?_
      refine lv_iload_n hx hb dX10_day_24 rfl (lv_at hl 4 rfl) ?_
      refine kX10_areFasts_X10_160 C hW (Nat.le_trans (by decide) hRf) (Nat.le_trans (by decide) hRl) hl.1 (Nat.le_of_ble_eq_true rfl) dX10_day_25 hq (fun r_7 σ_6 H locs hq hW => ?_)
      refine lv_if_eq (tgt := 41) hx hb dX10_day_28 (by decide) (fun h => ?_) (fun h => ?_)
      · replace hq := br_pos h hq
        refine lv_bipush (v := (-102)) hx hb dX10_day_41 (by decide) ?_
        exact hret _ _ _ _ _ _ dX10_day_43 hW hq
      · replace hq := br_neg h hq
        refine lv_iload hx hb dX10_day_31 (lv_at hl 5 rfl) ?_
        refine lv_iconst (v := 0) hx hb dX10_day_33 (by decide) ?_
        refine lv_iconst (v := 5) hx hb dX10_day_34 (by decide) ?_
        refine kX10_isWithin_X10_102 C hW (Nat.le_trans (by decide) hRf) (Nat.le_trans (by decide) hRl) hl.1 (Nat.le_of_ble_eq_true rfl) dX10_day_35 hq (fun r_9 σ_8 H locs hq hW => ?_)
        refine lv_if_ne (tgt := 44) hx hb dX10_day_38 (by decide) (fun h => ?_) (fun h => ?_)
        · replace hq := br_neg h hq
          refine lv_aload_n hx hb dX10_day_44 rfl (lv_at hl 1 rfl) ?_
          refine xg_X10_47 C hW dX10_day_45 ?_
          refine lv_aload_n hx hb dX10_day_48 rfl (lv_at hl 1 rfl) ?_
          refine xg_X10_31 C hW dX10_day_49 ?_
          refine lv_aload hx hb dX10_day_52 (lv_at hl 0 rfl) ?_
          refine lv_iload_n hx hb dX10_day_54 rfl (lv_at hl 3 rfl) ?_
          refine lv_iload_n hx hb dX10_day_55 rfl (lv_at hl 4 rfl) ?_
          refine kX6_wholeDay_X10_163 C hW (Nat.le_trans (by decide) hRf) (Nat.le_trans (by decide) hRl) hl.1 (Nat.le_of_ble_eq_true rfl) dX10_day_56 hq (fun σ_10 H locs hq hW => ?_)
          refine lv_aload_n hx hb dX10_day_59 rfl (lv_at hl 1 rfl) ?_
          refine xg_X10_47 C hW dX10_day_60 ?_
          refine lv_iload hx hb dX10_day_63 (lv_at hl 5 rfl) ?_
          refine kX6_told_X10_167 C hW (Nat.le_trans (by decide) hRf) (Nat.le_trans (by decide) hRl) hl.1 (Nat.le_of_ble_eq_true rfl) dX10_day_65 hq (fun r_12 σ_11 H locs hq hW => ?_)
          exact hret _ _ _ _ _ _ dX10_day_68 hW hq
        · replace hq := br_pos h hq
          refine lv_bipush (v := (-102)) hx hb dX10_day_41 (by decide) ?_
          exact hret _ _ _ _ _ _ dX10_day_43 hW hq
    · replace hq := br_pos h hq
      refine lv_bipush (v := (-101)) hx hb dX10_day_20 (by decide) ?_
      exact hret _ _ _ _ _ _ dX10_day_22 hW hq
set_option maxHeartbeats 4000000 in
set_option maxRecDepth 100000 in
theorem mX10_day {l : Launch} {g : XG} {σ : XS} {x1 : Int32} {x2 : Int32} {x3 : Int32} {x4 : Int32} {P : Int32 → XS → Prop} (hq : qX10_day g σ x1 x2 x3 x4 P) (sz : Nat) : Met l yX10_day (cws yX10_day cX10_day 6 (some .int)) ({ frames := 8, cells := 0, slots := 0, locals := 189 } : Room) (va_Pc [.ref (g.2.1 0), .int x1, .int x2, .int x3, .int x4] (WP g.1 (xw g) (xty g) σ sz)) (va_Qi P (WB g.1 (xw g) (xty g) σ sz) (va_A (xw g σ) sz)) 0 0 (va_A (xw g σ) sz) :=
  w_enter (by decide) (Nat.le_of_ble_eq_true rfl) (fun p e s m args below meth c ls C hr hk hn hs hW hl => wX10_day C (Nat.le_refl _) (Nat.le_refl _) (fun pc ls v σ H locs hd hW hq => w_iret C hs hr hk hW hd hq) hW hl hq)
-- X10_meal
set_option maxHeartbeats 4000000 in
set_option maxRecDepth 100000 in
theorem wX10_meal (C : CallFix p m c cX10_meal 6 s args lwg RX10) (hRf : 8 ≤ R.frames) (hRl : 189 ≤ R.locals) {P : Int32 → XS → Prop} (hret : RetI g.1 (xw g) (xty g) A p l e R s m args below meth c 0 0 Q cX10_meal P) {σ : XS} {x1 : Int32} {x2 : Int32} {x3 : Int32} {x4 : Int32} {H : Heap} {locs : List Loc} {ls : Array Slot} (hW : WI g.1 (xw g) (xty g) A s σ H locs) (hl : lv_has ls 6 [(0, .ref (g.2.1 0)), (1, .int x1), (2, .int x2), (3, .int x3), (4, .int x4)]) (hq : qX10_meal g σ x1 x2 x3 x4 P) : W p l e R s m args below meth c H locs 0 0 Q (F0 m 0 ls []) := by
  have hx := C.1
  have hb := C.2.1
  unfold qX10_meal at hq
  refine lv_aload_n hx hb dX10_meal_0 rfl (lv_at hl 0 rfl) ?_
  refine lv_iload_n hx hb dX10_meal_1 rfl (lv_at hl 1 rfl) ?_
  refine kX10_vowNumbered_X10_94 C hW (Nat.le_trans (by decide) hRf) (Nat.le_trans (by decide) hRl) hl.1 (Nat.le_of_ble_eq_true rfl) dX10_meal_2 hq (fun r_2 σ_1 H locs hq hW => ?_)
  rcases r_2 with _ | v_3
  · replace hq := hq.1 rfl
    refine W.eq (g2 := F0 m 5 ls (.null :: [])) rfl ?_
    refine lv_astoreN (lv' := [(5, .null), (0, .ref (g.2.1 0)), (1, .int x1), (2, .int x2), (3, .int x3), (4, .int x4)]) hx hb dX10_meal_5 hl (by decide) rfl (fun ls hl => ?_)
    refine lv_aloadN hx hb dX10_meal_7 (lv_at hl 0 rfl) ?_
    refine lv_ifnullN (tgt := 29) hx hb dX10_meal_9 (by decide) ?_
    refine lv_bipush (v := (-101)) hx hb dX10_meal_29 (by decide) ?_
    exact hret _ _ _ _ _ _ dX10_meal_31 hW hq
  · replace hq := hq.2 v_3 rfl
    refine W.eq (g2 := F0 m 5 ls (.ref (vA g v_3) :: [])) rfl ?_
    refine lv_astore (lv' := [(5, .ref (vA g v_3)), (0, .ref (g.2.1 0)), (1, .int x1), (2, .int x2), (3, .int x3), (4, .int x4)]) hx hb dX10_meal_5 hl (by decide) rfl (fun ls hl => ?_)
    refine lv_aload hx hb dX10_meal_7 (lv_at hl 0 rfl) ?_
    refine lv_ifnull hx hb dX10_meal_9 ?_
    refine lv_aload_n hx hb dX10_meal_12 rfl (lv_at hl 1 rfl) ?_
    refine lv_iload_n hx hb dX10_meal_13 rfl (lv_at hl 3 rfl) ?_
    refine kX10_isSeat_X10_137 C hW (Nat.le_trans (by decide) hRf) (Nat.le_trans (by decide) hRl) hl.1 (Nat.le_of_ble_eq_true rfl) dX10_meal_14 hq (fun r_5 σ_4 H locs hq hW => ?_)
    refine lv_if_eq (tgt := 29) hx hb dX10_meal_17 (by decide) (fun h => ?_) (fun h => ?_)
    · replace hq := br_pos h hq
      refine lv_bipush (v := (-101)) hx hb dX10_meal_29 (by decide) ?_
      exact hret _ _ _ _ _ _ dX10_meal_31 hW hq
    · replace hq := br_neg h hq
      refine lv_aload_n hx hb dX10_meal_20 rfl (lv_at hl 1 rfl) ?_
      refine lv_iload hx hb dX10_meal_21 (lv_at hl 5 rfl) ?_
      refine kX10_isHermit_X10_120 C hW (Nat.le_trans (by decide) hRf) (Nat.le_trans (by decide) hRl) hl.1 (Nat.le_of_ble_eq_true rfl) dX10_meal_23 hq (fun r_7 σ_6 H locs hq hW => ?_)
      refine lv_if_ne (tgt := 32) hx hb dX10_meal_26 (by decide) (fun h => ?_) (fun h => ?_)
      · replace hq := br_neg h hq
        refine lv_aload_n hx hb dX10_meal_32 rfl (lv_at hl 1 rfl) ?_
        refine lv_iload_n hx hb dX10_meal_33 rfl (lv_at hl 4 rfl) ?_
        refine kX10_areFasts_X10_160 C hW (Nat.le_trans (by decide) hRf) (Nat.le_trans (by decide) hRl) hl.1 (Nat.le_of_ble_eq_true rfl) dX10_meal_34 hq (fun r_9 σ_8 H locs hq hW => ?_)
        refine lv_if_ne (tgt := 43) hx hb dX10_meal_37 (by decide) (fun h => ?_) (fun h => ?_)
        · replace hq := br_neg h hq
          refine lv_aload_n hx hb dX10_meal_43 rfl (lv_at hl 1 rfl) ?_
          refine xg_X10_47 C hW dX10_meal_44 ?_
          refine lv_aload_n hx hb dX10_meal_47 rfl (lv_at hl 1 rfl) ?_
          refine xg_X10_31 C hW dX10_meal_48 ?_
          refine lv_aload hx hb dX10_meal_51 (lv_at hl 0 rfl) ?_
          refine lv_iload_n hx hb dX10_meal_53 rfl (lv_at hl 3 rfl) ?_
          refine lv_iload_n hx hb dX10_meal_54 rfl (lv_at hl 4 rfl) ?_
          refine kX6_wholeDay_X10_163 C hW (Nat.le_trans (by decide) hRf) (Nat.le_trans (by decide) hRl) hl.1 (Nat.le_of_ble_eq_true rfl) dX10_meal_55 hq (fun σ_10 H locs hq hW => ?_)
          refine lv_aload_n hx hb dX10_meal_58 rfl (lv_at hl 1 rfl) ?_
          refine xg_X10_47 C hW dX10_meal_59 ?_
          refine xg_X10_168 C hW dX10_meal_62 ?_
          refine lv_iload hx hb dX10_meal_65 (lv_at hl 5 rfl) ?_
          obtain ⟨hin11, hq⟩ := hq
          refine xa_R C hW hin11 dX10_meal_67 ?_
          exact hret _ _ _ _ _ _ dX10_meal_68 hW hq
        · replace hq := br_pos h hq
          refine lv_bipush (v := (-102)) hx hb dX10_meal_40 (by decide) ?_
          exact hret _ _ _ _ _ _ dX10_meal_42 hW hq
      · replace hq := br_pos h hq
        refine lv_bipush (v := (-101)) hx hb dX10_meal_29 (by decide) ?_
        exact hret _ _ _ _ _ _ dX10_meal_31 hW hq
set_option maxHeartbeats 4000000 in
set_option maxRecDepth 100000 in
theorem mX10_meal {l : Launch} {g : XG} {σ : XS} {x1 : Int32} {x2 : Int32} {x3 : Int32} {x4 : Int32} {P : Int32 → XS → Prop} (hq : qX10_meal g σ x1 x2 x3 x4 P) (sz : Nat) : Met l yX10_meal (cws yX10_meal cX10_meal 6 (some .int)) ({ frames := 8, cells := 0, slots := 0, locals := 189 } : Room) (va_Pc [.ref (g.2.1 0), .int x1, .int x2, .int x3, .int x4] (WP g.1 (xw g) (xty g) σ sz)) (va_Qi P (WB g.1 (xw g) (xty g) σ sz) (va_A (xw g σ) sz)) 0 0 (va_A (xw g σ) sz) :=
  w_enter (by decide) (Nat.le_of_ble_eq_true rfl) (fun p e s m args below meth c ls C hr hk hn hs hW hl => wX10_meal C (Nat.le_refl _) (Nat.le_refl _) (fun pc ls v σ H locs hd hW hq => w_iret C hs hr hk hW hd hq) hW hl hq)
-- X10_bite
set_option maxHeartbeats 4000000 in
set_option maxRecDepth 100000 in
theorem wX10_bite (C : CallFix p m c cX10_bite 7 s args lwg RX10) (hRf : 7 ≤ R.frames) (hRl : 165 ≤ R.locals) {P : Int32 → XS → Prop} (hret : RetI g.1 (xw g) (xty g) A p l e R s m args below meth c 0 0 Q cX10_bite P) {σ : XS} {x1 : Int32} {x2 : Int32} {x3 : Int32} {x4 : Int32} {x5 : Int32} {H : Heap} {locs : List Loc} {ls : Array Slot} (hW : WI g.1 (xw g) (xty g) A s σ H locs) (hl : lv_has ls 7 [(0, .ref (g.2.1 0)), (1, .int x1), (2, .int x2), (3, .int x3), (4, .int x4), (5, .int x5)]) (hq : qX10_bite g σ x1 x2 x3 x4 x5 P) : W p l e R s m args below meth c H locs 0 0 Q (F0 m 0 ls []) := by
  have hx := C.1
  have hb := C.2.1
  unfold qX10_bite at hq
  refine lv_aload_n hx hb dX10_bite_0 rfl (lv_at hl 0 rfl) ?_
  refine lv_iload_n hx hb dX10_bite_1 rfl (lv_at hl 1 rfl) ?_
  refine kX10_vowNumbered_X10_94 C hW (Nat.le_trans (by decide) hRf) (Nat.le_trans (by decide) hRl) hl.1 (Nat.le_of_ble_eq_true rfl) dX10_bite_2 hq (fun r_2 σ_1 H locs hq hW => ?_)
  rcases r_2 with _ | v_3
  · replace hq := hq.1 rfl
    refine W.eq (g2 := F0 m 5 ls (.null :: [])) rfl ?_
    refine lv_astoreN (lv' := [(6, .null), (0, .ref (g.2.1 0)), (1, .int x1), (2, .int x2), (3, .int x3), (4, .int x4), (5, .int x5)]) hx hb dX10_bite_5 hl (by decide) rfl (fun ls hl => ?_)
    refine lv_aloadN hx hb dX10_bite_7 (lv_at hl 0 rfl) ?_
    refine lv_ifnullN (tgt := 20) hx hb dX10_bite_9 (by decide) ?_
    refine lv_bipush (v := (-101)) hx hb dX10_bite_20 (by decide) ?_
    exact hret _ _ _ _ _ _ dX10_bite_22 hW hq
  · replace hq := hq.2 v_3 rfl
    refine W.eq (g2 := F0 m 5 ls (.ref (vA g v_3) :: [])) rfl ?_
    refine lv_astore (lv' := [(6, .ref (vA g v_3)), (0, .ref (g.2.1 0)), (1, .int x1), (2, .int x2), (3, .int x3), (4, .int x4), (5, .int x5)]) hx hb dX10_bite_5 hl (by decide) rfl (fun ls hl => ?_)
    refine lv_aload hx hb dX10_bite_7 (lv_at hl 0 rfl) ?_
    refine lv_ifnull hx hb dX10_bite_9 ?_
    refine lv_aload_n hx hb dX10_bite_12 rfl (lv_at hl 1 rfl) ?_
    refine lv_iload_n hx hb dX10_bite_13 rfl (lv_at hl 3 rfl) ?_
    refine kX10_isSeat_X10_137 C hW (Nat.le_trans (by decide) hRf) (Nat.le_trans (by decide) hRl) hl.1 (Nat.le_of_ble_eq_true rfl) dX10_bite_14 hq (fun r_5 σ_4 H locs hq hW => ?_)
    refine lv_if_ne (tgt := 23) hx hb dX10_bite_17 (by decide) (fun h => ?_) (fun h => ?_)
    · replace hq := br_neg h hq
      refine lv_aload_n hx hb dX10_bite_23 rfl (lv_at hl 1 rfl) ?_
      refine lv_iload_n hx hb dX10_bite_24 rfl (lv_at hl 4 rfl) ?_
      refine kX10_areFasts_X10_160 C hW (Nat.le_trans (by decide) hRf) (Nat.le_trans (by decide) hRl) hl.1 (Nat.le_of_ble_eq_true rfl) dX10_bite_25 hq (fun r_7 σ_6 H locs hq hW => ?_)
      refine lv_if_eq (tgt := 53) hx hb dX10_bite_28 (by decide) (fun h => ?_) (fun h => ?_)
      · replace hq := br_pos h hq
        refine lv_bipush (v := (-102)) hx hb dX10_bite_53 (by decide) ?_
        exact hret _ _ _ _ _ _ dX10_bite_55 hW hq
      · replace hq := br_neg h hq
        refine lv_iload hx hb dX10_bite_31 (lv_at hl 5 rfl) ?_
        refine lv_iconst (v := 0) hx hb dX10_bite_33 (by decide) ?_
        refine lv_sipush (v := 599) hx hb dX10_bite_34 (by decide) ?_
        refine kX10_isWithin_X10_102 C hW (Nat.le_trans (by decide) hRf) (Nat.le_trans (by decide) hRl) hl.1 (Nat.le_of_ble_eq_true rfl) dX10_bite_37 hq (fun r_9 σ_8 H locs hq hW => ?_)
        refine lv_if_eq (tgt := 53) hx hb dX10_bite_40 (by decide) (fun h => ?_) (fun h => ?_)
        · replace hq := br_pos h hq
          refine lv_bipush (v := (-102)) hx hb dX10_bite_53 (by decide) ?_
          exact hret _ _ _ _ _ _ dX10_bite_55 hW hq
        · replace hq := br_neg h hq
          refine lv_iload hx hb dX10_bite_43 (lv_at hl 6 rfl) ?_
          refine lv_iconst (v := 0) hx hb dX10_bite_45 (by decide) ?_
          refine lv_iconst (v := 4) hx hb dX10_bite_46 (by decide) ?_
          refine kX10_isWithin_X10_102 C hW (Nat.le_trans (by decide) hRf) (Nat.le_trans (by decide) hRl) hl.1 (Nat.le_of_ble_eq_true rfl) dX10_bite_47 hq (fun r_11 σ_10 H locs hq hW => ?_)
          refine lv_if_ne (tgt := 56) hx hb dX10_bite_50 (by decide) (fun h => ?_) (fun h => ?_)
          · replace hq := br_neg h hq
            refine lv_aload_n hx hb dX10_bite_56 rfl (lv_at hl 1 rfl) ?_
            refine xg_X10_47 C hW dX10_bite_57 ?_
            refine lv_aload_n hx hb dX10_bite_60 rfl (lv_at hl 1 rfl) ?_
            refine xg_X10_31 C hW dX10_bite_61 ?_
            refine kX6_begin_X10_171 C hW (Nat.le_trans (by decide) hRf) (Nat.le_trans (by decide) hRl) hl.1 (Nat.le_of_ble_eq_true rfl) dX10_bite_64 hq (fun σ_12 H locs hq hW => ?_)
            refine lv_aload_n hx hb dX10_bite_67 rfl (lv_at hl 1 rfl) ?_
            refine xg_X10_47 C hW dX10_bite_68 ?_
            refine lv_iload hx hb dX10_bite_71 (lv_at hl 5 rfl) ?_
            refine xp_X10_174 C hW dX10_bite_73 (fun σ_13 H locs eσ_13 hW => ?_)
            replace hq := hq _ eσ_13
            refine lv_aload_n hx hb dX10_bite_76 rfl (lv_at hl 1 rfl) ?_
            refine xg_X10_47 C hW dX10_bite_77 ?_
            refine lv_aload hx hb dX10_bite_80 (lv_at hl 0 rfl) ?_
            refine lv_aload hx hb dX10_bite_82 (lv_at hl 0 rfl) ?_
            refine xg_X10_177 C hW dX10_bite_84 ?_
            refine lv_iload_n hx hb dX10_bite_87 rfl (lv_at hl 3 rfl) ?_
            refine lv_iload_n hx hb dX10_bite_88 rfl (lv_at hl 4 rfl) ?_
            refine lv_sipush (v := 300) hx hb dX10_bite_89 (by decide) ?_
            refine kX6_goRound_X10_180 C hW (Nat.le_trans (by decide) hRf) (Nat.le_trans (by decide) hRl) hl.1 (Nat.le_of_ble_eq_true rfl) dX10_bite_92 hq (fun σ_14 H locs hq hW => ?_)
            refine lv_aload_n hx hb dX10_bite_95 rfl (lv_at hl 1 rfl) ?_
            refine xg_X10_47 C hW dX10_bite_96 ?_
            refine xg_X10_184 C hW dX10_bite_99 ?_
            refine lv_iload hx hb dX10_bite_102 (lv_at hl 5 rfl) ?_
            refine lv_icmp_le (tgt := 120) hx hb dX10_bite_104 (by decide) (fun h => ?_) (fun h => ?_)
            · replace hq := br_pos h hq
              refine lv_iconst (v := (-1)) hx hb dX10_bite_120 (by decide) ?_
              exact hret _ _ _ _ _ _ dX10_bite_121 hW hq
            · replace hq := br_neg h hq
              refine lv_aload_n hx hb dX10_bite_107 rfl (lv_at hl 1 rfl) ?_
              refine xg_X10_47 C hW dX10_bite_108 ?_
              refine xg_X10_187 C hW dX10_bite_111 ?_
              refine lv_iload hx hb dX10_bite_114 (lv_at hl 6 rfl) ?_
              obtain ⟨hin15, hq⟩ := hq
              refine xa_A13 C hW hin15 dX10_bite_116 ?_
              refine lv_goto (tgt := 121) hx hb dX10_bite_117 (by decide) ?_
              exact hret _ _ _ _ _ _ dX10_bite_121 hW hq
          · replace hq := br_pos h hq
            refine lv_bipush (v := (-102)) hx hb dX10_bite_53 (by decide) ?_
            exact hret _ _ _ _ _ _ dX10_bite_55 hW hq
    · replace hq := br_pos h hq
      refine lv_bipush (v := (-101)) hx hb dX10_bite_20 (by decide) ?_
      exact hret _ _ _ _ _ _ dX10_bite_22 hW hq
set_option maxHeartbeats 4000000 in
set_option maxRecDepth 100000 in
theorem mX10_bite {l : Launch} {g : XG} {σ : XS} {x1 : Int32} {x2 : Int32} {x3 : Int32} {x4 : Int32} {x5 : Int32} {P : Int32 → XS → Prop} (hq : qX10_bite g σ x1 x2 x3 x4 x5 P) (sz : Nat) : Met l yX10_bite (cws yX10_bite cX10_bite 7 (some .int)) ({ frames := 7, cells := 0, slots := 0, locals := 165 } : Room) (va_Pc [.ref (g.2.1 0), .int x1, .int x2, .int x3, .int x4, .int x5] (WP g.1 (xw g) (xty g) σ sz)) (va_Qi P (WB g.1 (xw g) (xty g) σ sz) (va_A (xw g σ) sz)) 0 0 (va_A (xw g σ) sz) :=
  w_enter (by decide) (Nat.le_of_ble_eq_true rfl) (fun p e s m args below meth c ls C hr hk hn hs hW hl => wX10_bite C (Nat.le_refl _) (Nat.le_refl _) (fun pc ls v σ H locs hd hW hq => w_iret C hs hr hk hW hd hq) hW hl hq)
-- X10_least
set_option maxHeartbeats 4000000 in
set_option maxRecDepth 100000 in
theorem wX10_least (C : CallFix p m c cX10_least 4 s args lwg RX10) (hRf : 8 ≤ R.frames) (hRl : 189 ≤ R.locals) {P : Int32 → XS → Prop} (hret : RetI g.1 (xw g) (xty g) A p l e R s m args below meth c 0 0 Q cX10_least P) {σ : XS} {x1 : Int32} {x2 : Int32} {H : Heap} {locs : List Loc} {ls : Array Slot} (hW : WI g.1 (xw g) (xty g) A s σ H locs) (hl : lv_has ls 4 [(0, .ref (g.2.1 0)), (1, .int x1), (2, .int x2)]) (hq : qX10_least g σ x1 x2 P) : W p l e R s m args below meth c H locs 0 0 Q (F0 m 0 ls []) := by
  have hx := C.1
  have hb := C.2.1
  unfold qX10_least at hq
  refine lv_aload_n hx hb dX10_least_0 rfl (lv_at hl 0 rfl) ?_
  refine lv_iload_n hx hb dX10_least_1 rfl (lv_at hl 1 rfl) ?_
  refine kX10_vowNumbered_X10_94 C hW (Nat.le_trans (by decide) hRf) (Nat.le_trans (by decide) hRl) hl.1 (Nat.le_of_ble_eq_true rfl) dX10_least_2 hq (fun r_2 σ_1 H locs hq hW => ?_)
  rcases r_2 with _ | v_3
  · replace hq := hq.1 rfl
    refine W.eq (g2 := F0 m 5 ls (.null :: [])) rfl ?_
    refine lv_astore_nN (lv' := [(3, .null), (0, .ref (g.2.1 0)), (1, .int x1), (2, .int x2)]) hx hb dX10_least_5 rfl hl (by decide) rfl (fun ls hl => ?_)
    refine lv_aload_nN hx hb dX10_least_6 rfl (lv_at hl 0 rfl) ?_
    refine lv_ifnullN (tgt := 18) hx hb dX10_least_7 (by decide) ?_
    refine lv_sipush (v := (-1001)) hx hb dX10_least_18 (by decide) ?_
    exact hret _ _ _ _ _ _ dX10_least_21 hW hq
  · replace hq := hq.2 v_3 rfl
    refine W.eq (g2 := F0 m 5 ls (.ref (vA g v_3) :: [])) rfl ?_
    refine lv_astore_n (lv' := [(3, .ref (vA g v_3)), (0, .ref (g.2.1 0)), (1, .int x1), (2, .int x2)]) hx hb dX10_least_5 rfl hl (by decide) rfl (fun ls hl => ?_)
    refine lv_aload_n hx hb dX10_least_6 rfl (lv_at hl 0 rfl) ?_
    refine lv_ifnull hx hb dX10_least_7 ?_
    refine lv_aload_n hx hb dX10_least_10 rfl (lv_at hl 1 rfl) ?_
    refine lv_iload_n hx hb dX10_least_11 rfl (lv_at hl 3 rfl) ?_
    refine kX10_isSeat_X10_137 C hW (Nat.le_trans (by decide) hRf) (Nat.le_trans (by decide) hRl) hl.1 (Nat.le_of_ble_eq_true rfl) dX10_least_12 hq (fun r_5 σ_4 H locs hq hW => ?_)
    refine lv_if_ne (tgt := 22) hx hb dX10_least_15 (by decide) (fun h => ?_) (fun h => ?_)
    · replace hq := br_neg h hq
      refine lv_aload_n hx hb dX10_least_22 rfl (lv_at hl 1 rfl) ?_
      refine xg_X10_47 C hW dX10_least_23 ?_
      refine lv_aload_n hx hb dX10_least_26 rfl (lv_at hl 1 rfl) ?_
      refine xg_X10_31 C hW dX10_least_27 ?_
      refine lv_aload_n hx hb dX10_least_30 rfl (lv_at hl 0 rfl) ?_
      refine lv_aload_n hx hb dX10_least_31 rfl (lv_at hl 0 rfl) ?_
      refine xg_X10_177 C hW dX10_least_32 ?_
      refine lv_iload_n hx hb dX10_least_35 rfl (lv_at hl 3 rfl) ?_
      refine kX6_leastOf_X10_190 C hW (Nat.le_trans (by decide) hRf) (Nat.le_trans (by decide) hRl) hl.1 (Nat.le_of_ble_eq_true rfl) dX10_least_36 hq (fun r_7 σ_6 H locs hq hW => ?_)
      exact hret _ _ _ _ _ _ dX10_least_39 hW hq
    · replace hq := br_pos h hq
      refine lv_sipush (v := (-1001)) hx hb dX10_least_18 (by decide) ?_
      exact hret _ _ _ _ _ _ dX10_least_21 hW hq
set_option maxHeartbeats 4000000 in
set_option maxRecDepth 100000 in
theorem mX10_least {l : Launch} {g : XG} {σ : XS} {x1 : Int32} {x2 : Int32} {P : Int32 → XS → Prop} (hq : qX10_least g σ x1 x2 P) (sz : Nat) : Met l yX10_least (cws yX10_least cX10_least 4 (some .int)) ({ frames := 8, cells := 0, slots := 0, locals := 189 } : Room) (va_Pc [.ref (g.2.1 0), .int x1, .int x2] (WP g.1 (xw g) (xty g) σ sz)) (va_Qi P (WB g.1 (xw g) (xty g) σ sz) (va_A (xw g σ) sz)) 0 0 (va_A (xw g σ) sz) :=
  w_enter (by decide) (Nat.le_of_ble_eq_true rfl) (fun p e s m args below meth c ls C hr hk hn hs hW hl => wX10_least C (Nat.le_refl _) (Nat.le_refl _) (fun pc ls v σ H locs hd hW hq => w_iret C hs hr hk hW hd hq) hW hl hq)
-- X10_bestStart
set_option maxHeartbeats 4000000 in
set_option maxRecDepth 100000 in
theorem wX10_bestStart (C : CallFix p m c cX10_bestStart 3 s args lwg RX10) (hRf : 9 ≤ R.frames) (hRl : 215 ≤ R.locals) {P : Int32 → XS → Prop} (hret : RetI g.1 (xw g) (xty g) A p l e R s m args below meth c 0 0 Q cX10_bestStart P) {σ : XS} {x1 : Int32} {H : Heap} {locs : List Loc} {ls : Array Slot} (hW : WI g.1 (xw g) (xty g) A s σ H locs) (hl : lv_has ls 3 [(0, .ref (g.2.1 0)), (1, .int x1)]) (hq : qX10_bestStart g σ x1 P) : W p l e R s m args below meth c H locs 0 0 Q (F0 m 0 ls []) := by
  have hx := C.1
  have hb := C.2.1
  unfold qX10_bestStart at hq
  refine lv_aload_n hx hb dX10_bestStart_0 rfl (lv_at hl 0 rfl) ?_
  refine lv_iload_n hx hb dX10_bestStart_1 rfl (lv_at hl 1 rfl) ?_
  refine kX10_vowNumbered_X10_94 C hW (Nat.le_trans (by decide) hRf) (Nat.le_trans (by decide) hRl) hl.1 (Nat.le_of_ble_eq_true rfl) dX10_bestStart_2 hq (fun r_2 σ_1 H locs hq hW => ?_)
  rcases r_2 with _ | v_3
  · replace hq := hq.1 rfl
    refine W.eq (g2 := F0 m 5 ls (.null :: [])) rfl ?_
    refine lv_astore_nN (lv' := [(2, .null), (0, .ref (g.2.1 0)), (1, .int x1)]) hx hb dX10_bestStart_5 rfl hl (by decide) rfl (fun ls hl => ?_)
    refine lv_aload_nN hx hb dX10_bestStart_6 rfl (lv_at hl 0 rfl) ?_
    refine lv_ifnonnullN hx hb dX10_bestStart_7 ?_
    refine lv_bipush (v := (-101)) hx hb dX10_bestStart_10 (by decide) ?_
    exact hret _ _ _ _ _ _ dX10_bestStart_12 hW hq
  · replace hq := hq.2 v_3 rfl
    refine W.eq (g2 := F0 m 5 ls (.ref (vA g v_3) :: [])) rfl ?_
    refine lv_astore_n (lv' := [(2, .ref (vA g v_3)), (0, .ref (g.2.1 0)), (1, .int x1)]) hx hb dX10_bestStart_5 rfl hl (by decide) rfl (fun ls hl => ?_)
    refine lv_aload_n hx hb dX10_bestStart_6 rfl (lv_at hl 0 rfl) ?_
    refine lv_ifnonnull (tgt := 13) hx hb dX10_bestStart_7 (by decide) ?_
    refine lv_aload_n hx hb dX10_bestStart_13 rfl (lv_at hl 1 rfl) ?_
    refine xg_X10_12 C hW dX10_bestStart_14 ?_
    refine xemp_H_X10_194 C hW (Nat.le_trans (by decide) hRf) (Nat.le_trans (by decide) hRl) hl.1 (Nat.le_of_ble_eq_true rfl) dX10_bestStart_17 (fun H locs hW => ?_)
    refine lv_topi (fun v_4 ev_4 => ?_)
    replace hq := hq _ ev_4
    refine lv_if_eq (tgt := 28) hx hb dX10_bestStart_20 (by decide) (fun h => ?_) (fun h => ?_)
    · replace hq := br_pos h hq
      refine lv_aload_n hx hb dX10_bestStart_28 rfl (lv_at hl 1 rfl) ?_
      refine xg_X10_56 C hW dX10_bestStart_29 ?_
      refine lv_aload_n hx hb dX10_bestStart_32 rfl (lv_at hl 1 rfl) ?_
      refine xg_X10_31 C hW dX10_bestStart_33 ?_
      refine lv_aload_n hx hb dX10_bestStart_36 rfl (lv_at hl 0 rfl) ?_
      refine kX0_startAdvised_X10_198 C hW (Nat.le_trans (by decide) hRf) (Nat.le_trans (by decide) hRl) hl.1 (Nat.le_of_ble_eq_true rfl) dX10_bestStart_37 hq (fun r_6 σ_5 H locs hq hW => ?_)
      exact hret _ _ _ _ _ _ dX10_bestStart_40 hW hq
    · replace hq := br_neg h hq
      refine lv_bipush (v := (-103)) hx hb dX10_bestStart_23 (by decide) ?_
      refine lv_goto (tgt := 40) hx hb dX10_bestStart_25 (by decide) ?_
      exact hret _ _ _ _ _ _ dX10_bestStart_40 hW hq
set_option maxHeartbeats 4000000 in
set_option maxRecDepth 100000 in
theorem mX10_bestStart {l : Launch} {g : XG} {σ : XS} {x1 : Int32} {P : Int32 → XS → Prop} (hq : qX10_bestStart g σ x1 P) (sz : Nat) : Met l yX10_bestStart (cws yX10_bestStart cX10_bestStart 3 (some .int)) ({ frames := 9, cells := 0, slots := 0, locals := 215 } : Room) (va_Pc [.ref (g.2.1 0), .int x1] (WP g.1 (xw g) (xty g) σ sz)) (va_Qi P (WB g.1 (xw g) (xty g) σ sz) (va_A (xw g σ) sz)) 0 0 (va_A (xw g σ) sz) :=
  w_enter (by decide) (Nat.le_of_ble_eq_true rfl) (fun p e s m args below meth c ls C hr hk hn hs hW hl => wX10_bestStart C (Nat.le_refl _) (Nat.le_refl _) (fun pc ls v σ H locs hd hW hq => w_iret C hs hr hk hW hd hq) hW hl hq)
-- X10_bestSwap
set_option maxHeartbeats 4000000 in
set_option maxRecDepth 100000 in
theorem wX10_bestSwap (C : CallFix p m c cX10_bestSwap 4 s args lwg RX10) (hRf : 9 ≤ R.frames) (hRl : 218 ≤ R.locals) {P : Int32 → XS → Prop} (hret : RetI g.1 (xw g) (xty g) A p l e R s m args below meth c 0 0 Q cX10_bestSwap P) {σ : XS} {x1 : Int32} {x2 : Int32} {H : Heap} {locs : List Loc} {ls : Array Slot} (hW : WI g.1 (xw g) (xty g) A s σ H locs) (hl : lv_has ls 4 [(0, .ref (g.2.1 0)), (1, .int x1), (2, .int x2)]) (hq : qX10_bestSwap g σ x1 x2 P) : W p l e R s m args below meth c H locs 0 0 Q (F0 m 0 ls []) := by
  have hx := C.1
  have hb := C.2.1
  unfold qX10_bestSwap at hq
  refine lv_aload_n hx hb dX10_bestSwap_0 rfl (lv_at hl 0 rfl) ?_
  refine lv_iload_n hx hb dX10_bestSwap_1 rfl (lv_at hl 1 rfl) ?_
  refine kX10_vowNumbered_X10_94 C hW (Nat.le_trans (by decide) hRf) (Nat.le_trans (by decide) hRl) hl.1 (Nat.le_of_ble_eq_true rfl) dX10_bestSwap_2 hq (fun r_2 σ_1 H locs hq hW => ?_)
  rcases r_2 with _ | v_3
  · replace hq := hq.1 rfl
    refine W.eq (g2 := F0 m 5 ls (.null :: [])) rfl ?_
    refine lv_astore_nN (lv' := [(3, .null), (0, .ref (g.2.1 0)), (1, .int x1), (2, .int x2)]) hx hb dX10_bestSwap_5 rfl hl (by decide) rfl (fun ls hl => ?_)
    refine lv_aload_nN hx hb dX10_bestSwap_6 rfl (lv_at hl 0 rfl) ?_
    refine lv_ifnullN (tgt := 18) hx hb dX10_bestSwap_7 (by decide) ?_
    refine lv_bipush (v := (-101)) hx hb dX10_bestSwap_18 (by decide) ?_
    exact hret _ _ _ _ _ _ dX10_bestSwap_20 hW hq
  · replace hq := hq.2 v_3 rfl
    refine W.eq (g2 := F0 m 5 ls (.ref (vA g v_3) :: [])) rfl ?_
    refine lv_astore_n (lv' := [(3, .ref (vA g v_3)), (0, .ref (g.2.1 0)), (1, .int x1), (2, .int x2)]) hx hb dX10_bestSwap_5 rfl hl (by decide) rfl (fun ls hl => ?_)
    refine lv_aload_n hx hb dX10_bestSwap_6 rfl (lv_at hl 0 rfl) ?_
    refine lv_ifnull hx hb dX10_bestSwap_7 ?_
    refine lv_aload_n hx hb dX10_bestSwap_10 rfl (lv_at hl 1 rfl) ?_
    refine lv_iload_n hx hb dX10_bestSwap_11 rfl (lv_at hl 3 rfl) ?_
    refine kX10_isSeat_X10_137 C hW (Nat.le_trans (by decide) hRf) (Nat.le_trans (by decide) hRl) hl.1 (Nat.le_of_ble_eq_true rfl) dX10_bestSwap_12 hq (fun r_5 σ_4 H locs hq hW => ?_)
    refine lv_if_ne (tgt := 21) hx hb dX10_bestSwap_15 (by decide) (fun h => ?_) (fun h => ?_)
    · replace hq := br_neg h hq
      refine lv_aload_n hx hb dX10_bestSwap_21 rfl (lv_at hl 1 rfl) ?_
      refine xg_X10_56 C hW dX10_bestSwap_22 ?_
      refine lv_aload_n hx hb dX10_bestSwap_25 rfl (lv_at hl 1 rfl) ?_
      refine xg_X10_31 C hW dX10_bestSwap_26 ?_
      refine lv_aload_n hx hb dX10_bestSwap_29 rfl (lv_at hl 0 rfl) ?_
      refine lv_iload_n hx hb dX10_bestSwap_30 rfl (lv_at hl 3 rfl) ?_
      refine kX0_swapAdvised_X10_202 C hW (Nat.le_trans (by decide) hRf) (Nat.le_trans (by decide) hRl) hl.1 (Nat.le_of_ble_eq_true rfl) dX10_bestSwap_31 hq (fun r_7 σ_6 H locs hq hW => ?_)
      exact hret _ _ _ _ _ _ dX10_bestSwap_34 hW hq
    · replace hq := br_pos h hq
      refine lv_bipush (v := (-101)) hx hb dX10_bestSwap_18 (by decide) ?_
      exact hret _ _ _ _ _ _ dX10_bestSwap_20 hW hq
set_option maxHeartbeats 4000000 in
set_option maxRecDepth 100000 in
theorem mX10_bestSwap {l : Launch} {g : XG} {σ : XS} {x1 : Int32} {x2 : Int32} {P : Int32 → XS → Prop} (hq : qX10_bestSwap g σ x1 x2 P) (sz : Nat) : Met l yX10_bestSwap (cws yX10_bestSwap cX10_bestSwap 4 (some .int)) ({ frames := 9, cells := 0, slots := 0, locals := 218 } : Room) (va_Pc [.ref (g.2.1 0), .int x1, .int x2] (WP g.1 (xw g) (xty g) σ sz)) (va_Qi P (WB g.1 (xw g) (xty g) σ sz) (va_A (xw g σ) sz)) 0 0 (va_A (xw g σ) sz) :=
  w_enter (by decide) (Nat.le_of_ble_eq_true rfl) (fun p e s m args below meth c ls C hr hk hn hs hW hl => wX10_bestSwap C (Nat.le_refl _) (Nat.le_refl _) (fun pc ls v σ H locs hd hW hq => w_iret C hs hr hk hW hd hq) hW hl hq)
-- X10_bestStir
set_option maxHeartbeats 4000000 in
set_option maxRecDepth 100000 in
theorem wX10_bestStir (C : CallFix p m c cX10_bestStir 4 s args lwg RX10) (hRf : 9 ≤ R.frames) (hRl : 216 ≤ R.locals) {P : Int32 → XS → Prop} (hret : RetI g.1 (xw g) (xty g) A p l e R s m args below meth c 0 0 Q cX10_bestStir P) {σ : XS} {x1 : Int32} {x2 : Int32} {H : Heap} {locs : List Loc} {ls : Array Slot} (hW : WI g.1 (xw g) (xty g) A s σ H locs) (hl : lv_has ls 4 [(0, .ref (g.2.1 0)), (1, .int x1), (2, .int x2)]) (hq : qX10_bestStir g σ x1 x2 P) : W p l e R s m args below meth c H locs 0 0 Q (F0 m 0 ls []) := by
  have hx := C.1
  have hb := C.2.1
  unfold qX10_bestStir at hq
  refine lv_aload_n hx hb dX10_bestStir_0 rfl (lv_at hl 0 rfl) ?_
  refine lv_iload_n hx hb dX10_bestStir_1 rfl (lv_at hl 1 rfl) ?_
  refine kX10_vowNumbered_X10_94 C hW (Nat.le_trans (by decide) hRf) (Nat.le_trans (by decide) hRl) hl.1 (Nat.le_of_ble_eq_true rfl) dX10_bestStir_2 hq (fun r_2 σ_1 H locs hq hW => ?_)
  rcases r_2 with _ | v_3
  · replace hq := hq.1 rfl
    refine W.eq (g2 := F0 m 5 ls (.null :: [])) rfl ?_
    refine lv_astore_nN (lv' := [(3, .null), (0, .ref (g.2.1 0)), (1, .int x1), (2, .int x2)]) hx hb dX10_bestStir_5 rfl hl (by decide) rfl (fun ls hl => ?_)
    refine lv_aload_nN hx hb dX10_bestStir_6 rfl (lv_at hl 0 rfl) ?_
    refine lv_ifnullN (tgt := 18) hx hb dX10_bestStir_7 (by decide) ?_
    refine lv_bipush (v := (-101)) hx hb dX10_bestStir_18 (by decide) ?_
    exact hret _ _ _ _ _ _ dX10_bestStir_20 hW hq
  · replace hq := hq.2 v_3 rfl
    refine W.eq (g2 := F0 m 5 ls (.ref (vA g v_3) :: [])) rfl ?_
    refine lv_astore_n (lv' := [(3, .ref (vA g v_3)), (0, .ref (g.2.1 0)), (1, .int x1), (2, .int x2)]) hx hb dX10_bestStir_5 rfl hl (by decide) rfl (fun ls hl => ?_)
    refine lv_aload_n hx hb dX10_bestStir_6 rfl (lv_at hl 0 rfl) ?_
    refine lv_ifnull hx hb dX10_bestStir_7 ?_
    refine lv_aload_n hx hb dX10_bestStir_10 rfl (lv_at hl 1 rfl) ?_
    refine lv_iload_n hx hb dX10_bestStir_11 rfl (lv_at hl 3 rfl) ?_
    refine kX10_isSeat_X10_137 C hW (Nat.le_trans (by decide) hRf) (Nat.le_trans (by decide) hRl) hl.1 (Nat.le_of_ble_eq_true rfl) dX10_bestStir_12 hq (fun r_5 σ_4 H locs hq hW => ?_)
    refine lv_if_ne (tgt := 21) hx hb dX10_bestStir_15 (by decide) (fun h => ?_) (fun h => ?_)
    · replace hq := br_neg h hq
      refine lv_aload_n hx hb dX10_bestStir_21 rfl (lv_at hl 1 rfl) ?_
      refine xg_X10_56 C hW dX10_bestStir_22 ?_
      refine lv_aload_n hx hb dX10_bestStir_25 rfl (lv_at hl 1 rfl) ?_
      refine xg_X10_31 C hW dX10_bestStir_26 ?_
      refine lv_aload_n hx hb dX10_bestStir_29 rfl (lv_at hl 0 rfl) ?_
      refine lv_iload_n hx hb dX10_bestStir_30 rfl (lv_at hl 3 rfl) ?_
      refine kX0_stirAdvised_X10_206 C hW (Nat.le_trans (by decide) hRf) (Nat.le_trans (by decide) hRl) hl.1 (Nat.le_of_ble_eq_true rfl) dX10_bestStir_31 hq (fun r_7 σ_6 H locs hq hW => ?_)
      exact hret _ _ _ _ _ _ dX10_bestStir_34 hW hq
    · replace hq := br_pos h hq
      refine lv_bipush (v := (-101)) hx hb dX10_bestStir_18 (by decide) ?_
      exact hret _ _ _ _ _ _ dX10_bestStir_20 hW hq
set_option maxHeartbeats 4000000 in
set_option maxRecDepth 100000 in
theorem mX10_bestStir {l : Launch} {g : XG} {σ : XS} {x1 : Int32} {x2 : Int32} {P : Int32 → XS → Prop} (hq : qX10_bestStir g σ x1 x2 P) (sz : Nat) : Met l yX10_bestStir (cws yX10_bestStir cX10_bestStir 4 (some .int)) ({ frames := 9, cells := 0, slots := 0, locals := 216 } : Room) (va_Pc [.ref (g.2.1 0), .int x1, .int x2] (WP g.1 (xw g) (xty g) σ sz)) (va_Qi P (WB g.1 (xw g) (xty g) σ sz) (va_A (xw g σ) sz)) 0 0 (va_A (xw g σ) sz) :=
  w_enter (by decide) (Nat.le_of_ble_eq_true rfl) (fun p e s m args below meth c ls C hr hk hn hs hW hl => wX10_bestStir C (Nat.le_refl _) (Nat.le_refl _) (fun pc ls v σ H locs hd hW hq => w_iret C hs hr hk hW hd hq) hW hl hq)
-- X10_live
set_option maxHeartbeats 4000000 in
set_option maxRecDepth 100000 in
theorem wX10_live (C : CallFix p m c cX10_live 5 s args lwg RX10) (hRf : 8 ≤ R.frames) (hRl : 189 ≤ R.locals) {P : Int32 → XS → Prop} (hret : RetI g.1 (xw g) (xty g) A p l e R s m args below meth c 0 0 Q cX10_live P) {σ : XS} {x1 : Int32} {x2 : Int32} {x3 : Int32} {H : Heap} {locs : List Loc} {ls : Array Slot} (hW : WI g.1 (xw g) (xty g) A s σ H locs) (hl : lv_has ls 5 [(0, .ref (g.2.1 0)), (1, .int x1), (2, .int x2), (3, .int x3)]) (hq : qX10_live g σ x1 x2 x3 P) : W p l e R s m args below meth c H locs 0 0 Q (F0 m 0 ls []) := by
  have hx := C.1
  have hb := C.2.1
  unfold qX10_live at hq
  refine lv_aload_n hx hb dX10_live_0 rfl (lv_at hl 0 rfl) ?_
  refine lv_iload_n hx hb dX10_live_1 rfl (lv_at hl 1 rfl) ?_
  refine kX10_vowNumbered_X10_94 C hW (Nat.le_trans (by decide) hRf) (Nat.le_trans (by decide) hRl) hl.1 (Nat.le_of_ble_eq_true rfl) dX10_live_2 hq (fun r_2 σ_1 H locs hq hW => ?_)
  rcases r_2 with _ | v_3
  · replace hq := hq.1 rfl
    refine W.eq (g2 := F0 m 5 ls (.null :: [])) rfl ?_
    refine lv_astoreN (lv' := [(4, .null), (0, .ref (g.2.1 0)), (1, .int x1), (2, .int x2), (3, .int x3)]) hx hb dX10_live_5 hl (by decide) rfl (fun ls hl => ?_)
    refine lv_aloadN hx hb dX10_live_7 (lv_at hl 0 rfl) ?_
    refine lv_ifnullN (tgt := 20) hx hb dX10_live_9 (by decide) ?_
    refine lv_bipush (v := (-101)) hx hb dX10_live_20 (by decide) ?_
    exact hret _ _ _ _ _ _ dX10_live_22 hW hq
  · replace hq := hq.2 v_3 rfl
    refine W.eq (g2 := F0 m 5 ls (.ref (vA g v_3) :: [])) rfl ?_
    refine lv_astore (lv' := [(4, .ref (vA g v_3)), (0, .ref (g.2.1 0)), (1, .int x1), (2, .int x2), (3, .int x3)]) hx hb dX10_live_5 hl (by decide) rfl (fun ls hl => ?_)
    refine lv_aload hx hb dX10_live_7 (lv_at hl 0 rfl) ?_
    refine lv_ifnull hx hb dX10_live_9 ?_
    refine lv_aload_n hx hb dX10_live_12 rfl (lv_at hl 1 rfl) ?_
    refine lv_iload_n hx hb dX10_live_13 rfl (lv_at hl 3 rfl) ?_
    refine kX10_isSeat_X10_137 C hW (Nat.le_trans (by decide) hRf) (Nat.le_trans (by decide) hRl) hl.1 (Nat.le_of_ble_eq_true rfl) dX10_live_14 hq (fun r_5 σ_4 H locs hq hW => ?_)
    refine lv_if_ne (tgt := 23) hx hb dX10_live_17 (by decide) (fun h => ?_) (fun h => ?_)
    · replace hq := br_neg h hq
      refine lv_aload_n hx hb dX10_live_23 rfl (lv_at hl 1 rfl) ?_
      refine lv_iload_n hx hb dX10_live_24 rfl (lv_at hl 4 rfl) ?_
      refine kX10_areFasts_X10_160 C hW (Nat.le_trans (by decide) hRf) (Nat.le_trans (by decide) hRl) hl.1 (Nat.le_of_ble_eq_true rfl) dX10_live_25 hq (fun r_7 σ_6 H locs hq hW => ?_)
      refine lv_if_ne (tgt := 34) hx hb dX10_live_28 (by decide) (fun h => ?_) (fun h => ?_)
      · replace hq := br_neg h hq
        refine lv_aload_n hx hb dX10_live_34 rfl (lv_at hl 1 rfl) ?_
        refine xg_X10_47 C hW dX10_live_35 ?_
        refine lv_aload_n hx hb dX10_live_38 rfl (lv_at hl 1 rfl) ?_
        refine xg_X10_31 C hW dX10_live_39 ?_
        refine lv_aload hx hb dX10_live_42 (lv_at hl 0 rfl) ?_
        refine lv_iload_n hx hb dX10_live_44 rfl (lv_at hl 3 rfl) ?_
        refine lv_iload_n hx hb dX10_live_45 rfl (lv_at hl 4 rfl) ?_
        refine kX6_wholeDay_X10_163 C hW (Nat.le_trans (by decide) hRf) (Nat.le_trans (by decide) hRl) hl.1 (Nat.le_of_ble_eq_true rfl) dX10_live_46 hq (fun σ_8 H locs hq hW => ?_)
        refine lv_aload_n hx hb dX10_live_49 rfl (lv_at hl 1 rfl) ?_
        refine xg_X10_31 C hW dX10_live_50 ?_
        refine lv_aload_n hx hb dX10_live_53 rfl (lv_at hl 1 rfl) ?_
        refine xg_X10_47 C hW dX10_live_54 ?_
        refine xg_X10_168 C hW dX10_live_57 ?_
        refine kX8_endDay_X10_209 C hW (Nat.le_trans (by decide) hRf) (Nat.le_trans (by decide) hRl) hl.1 (Nat.le_of_ble_eq_true rfl) dX10_live_60 hq (fun r_10 σ_9 H locs hq hW => ?_)
        exact hret _ _ _ _ _ _ dX10_live_63 hW hq
      · replace hq := br_pos h hq
        refine lv_bipush (v := (-102)) hx hb dX10_live_31 (by decide) ?_
        exact hret _ _ _ _ _ _ dX10_live_33 hW hq
    · replace hq := br_pos h hq
      refine lv_bipush (v := (-101)) hx hb dX10_live_20 (by decide) ?_
      exact hret _ _ _ _ _ _ dX10_live_22 hW hq
set_option maxHeartbeats 4000000 in
set_option maxRecDepth 100000 in
theorem mX10_live {l : Launch} {g : XG} {σ : XS} {x1 : Int32} {x2 : Int32} {x3 : Int32} {P : Int32 → XS → Prop} (hq : qX10_live g σ x1 x2 x3 P) (sz : Nat) : Met l yX10_live (cws yX10_live cX10_live 5 (some .int)) ({ frames := 8, cells := 0, slots := 0, locals := 189 } : Room) (va_Pc [.ref (g.2.1 0), .int x1, .int x2, .int x3] (WP g.1 (xw g) (xty g) σ sz)) (va_Qi P (WB g.1 (xw g) (xty g) σ sz) (va_A (xw g σ) sz)) 0 0 (va_A (xw g σ) sz) :=
  w_enter (by decide) (Nat.le_of_ble_eq_true rfl) (fun p e s m args below meth c ls C hr hk hn hs hW hl => wX10_live C (Nat.le_refl _) (Nat.le_refl _) (fun pc ls v σ H locs hd hW hq => w_iret C hs hr hk hW hd hq) hW hl hq)
end
