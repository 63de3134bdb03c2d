/-! hermit and vow: up to where a new one is made -/
def qX10_hermit (g : XG) (e88 : XS → Int32 → Int32 → Int32 → Int32 → Int32 → Int32 → Int32 → Prop) (σ : XS) (x1 : Int32) (x2 : Int32) (x3 : Int32) (x4 : Int32) (x5 : Int32) (x6 : Int32) (P : Int32 → XS → Prop) : Prop := qX10_isWithin g σ x1 0 4 fun r_2 σ_1 => (if r_2 = 0 then (P (-102) σ_1) else (qX10_leastNumber g σ_1 x1 fun r_4 σ_3 => qX10_mostNumber g σ_3 x1 fun r_6 σ_5 => qX10_isWithin g σ_5 x2 r_4 r_6 fun r_8 σ_7 => (if r_8 = 0 then (P (-102) σ_7) else (qX10_isWithin g σ_7 x3 1 99 fun r_10 σ_9 => (if r_10 = 0 then (P (-102) σ_9) else (qX10_isWithin g σ_9 x4 0 3 fun r_12 σ_11 => (if r_12 = 0 then (P (-102) σ_11) else (qX10_isWithin g σ_11 x5 1 9 fun r_14 σ_13 => (if r_14 = 0 then (P (-102) σ_13) else (qX10_isWithin g σ_13 x6 0 99 fun r_16 σ_15 => (if r_16 = 0 then (P (-102) σ_15) else (bnd (nI (nH g)) fun x7_17 => (if x7_17 < 10 then (e88 σ_15 x1 x2 x3 x4 x5 x6 x7_17) else (P (-104) σ_15))))))))))))))
def qX10_vow (g : XG) (e35 : XS → Prop) (σ : XS) (P : Int32 → XS → Prop) : Prop := qX5_read g σ fun σ_1 => (if (xP σ_1 3) = 0 then (P (-103) σ_1) else ((if (nI (nV g)) < 6 then (e35 σ_1) else (P (-104) σ_1))))
section
variable {p : Program} {l : Launch} {e : Env} {R : Room} {s : State} {m : MethodId} {args : Array Value} {below : List Frame} {meth : Method} {c : Code} {H : Heap} {locs : List Loc} {cells slots : Nat} {Q : State → Prop}
variable {cc : ByteArray} {pc : Nat} {ls : Array Slot} {rest : List Value} {own : String} {nL : Nat}
variable {g : XG} {A : Nat → Prop}
set_option maxHeartbeats 4000000 in
set_option maxRecDepth 100000 in
theorem wX10_hermit (C : CallFix p m c cX10_hermit 8 s args lwg RX10) (hRf : 9 ≤ R.frames) (hRl : 200 ≤ R.locals) {P : Int32 → XS → Prop} (hret : RetI g.1 (xw g) (xty g) A p l e R s m args below meth c 0 0 Q cX10_hermit P) {e88 : XS → Int32 → Int32 → Int32 → Int32 → Int32 → Int32 → Int32 → Prop} (he88 : ∀ (σ : XS) (x1 : Int32) (x2 : Int32) (x3 : Int32) (x4 : Int32) (x5 : Int32) (x6 : Int32) (x7 : Int32) (H : Heap) (locs : List Loc) (ls : Array Slot), WI g.1 (xw g) (xty g) A s σ H locs → lv_has ls 8 [(0, .ref (g.2.1 0)), (1, .int x1), (2, .int x2), (3, .int x3), (4, .int x4), (5, .int x5), (6, .int x6), (7, .int x7)] → e88 σ x1 x2 x3 x4 x5 x6 x7 → W p l e R s m args below meth c H locs 0 0 Q (F0 m 88 ls [])) {σ : XS} {x1 : Int32} {x2 : Int32} {x3 : Int32} {x4 : Int32} {x5 : Int32} {x6 : Int32} {H : Heap} {locs : List Loc} {ls : Array Slot} (hW : WI g.1 (xw g) (xty g) A s σ H locs) (hl : lv_has ls 8 [(0, .ref (g.2.1 0)), (1, .int x1), (2, .int x2), (3, .int x3), (4, .int x4), (5, .int x5), (6, .int x6)]) (hq : qX10_hermit g e88 σ x1 x2 x3 x4 x5 x6 P) : W p l e R s m args below meth c H locs 0 0 Q (F0 m 0 ls []) := by
  have hx := C.1
  have hb := C.2.1
  unfold qX10_hermit at hq
  refine lv_iload_n hx hb dX10_hermit_0 rfl (lv_at hl 1 rfl) ?_
  refine lv_iconst (v := 0) hx hb dX10_hermit_1 (by decide) ?_
  refine lv_iconst (v := 4) hx hb dX10_hermit_2 (by decide) ?_
  refine kX10_isWithin_X10_102 C hW (Nat.le_trans (by decide) hRf) (Nat.le_trans (by decide) hRl) hl.1 (Nat.le_of_ble_eq_true rfl) dX10_hermit_3 hq (fun r_2 σ_1 H locs hq hW => ?_)
  refine lv_if_eq (tgt := 66) hx hb dX10_hermit_6 (by decide) (fun h => ?_) (fun h => ?_)
  · replace hq := br_pos h hq
    refine lv_bipush (v := (-102)) hx hb dX10_hermit_66 (by decide) ?_
    exact hret _ _ _ _ _ _ dX10_hermit_68 hW hq
  · replace hq := br_neg h hq
    refine lv_iload_n hx hb dX10_hermit_9 rfl (lv_at hl 2 rfl) ?_
    refine lv_iload_n hx hb dX10_hermit_10 rfl (lv_at hl 1 rfl) ?_
    refine kX10_leastNumber_X10_106 C hW (Nat.le_trans (by decide) hRf) (Nat.le_trans (by decide) hRl) hl.1 (Nat.le_of_ble_eq_true rfl) dX10_hermit_11 hq (fun r_4 σ_3 H locs hq hW => ?_)
    refine lv_iload_n hx hb dX10_hermit_14 rfl (lv_at hl 1 rfl) ?_
    refine kX10_mostNumber_X10_109 C hW (Nat.le_trans (by decide) hRf) (Nat.le_trans (by decide) hRl) hl.1 (Nat.le_of_ble_eq_true rfl) dX10_hermit_15 hq (fun r_6 σ_5 H locs hq hW => ?_)
    refine kX10_isWithin_X10_102 C hW (Nat.le_trans (by decide) hRf) (Nat.le_trans (by decide) hRl) hl.1 (Nat.le_of_ble_eq_true rfl) dX10_hermit_18 hq (fun r_8 σ_7 H locs hq hW => ?_)
    refine lv_if_eq (tgt := 66) hx hb dX10_hermit_21 (by decide) (fun h => ?_) (fun h => ?_)
    · replace hq := br_pos h hq
      refine lv_bipush (v := (-102)) hx hb dX10_hermit_66 (by decide) ?_
      exact hret _ _ _ _ _ _ dX10_hermit_68 hW hq
    · replace hq := br_neg h hq
      refine lv_iload_n hx hb dX10_hermit_24 rfl (lv_at hl 3 rfl) ?_
      refine lv_iconst (v := 1) hx hb dX10_hermit_25 (by decide) ?_
      refine lv_bipush (v := 99) hx hb dX10_hermit_26 (by decide) ?_
      refine kX10_isWithin_X10_102 C hW (Nat.le_trans (by decide) hRf) (Nat.le_trans (by decide) hRl) hl.1 (Nat.le_of_ble_eq_true rfl) dX10_hermit_28 hq (fun r_10 σ_9 H locs hq hW => ?_)
      refine lv_if_eq (tgt := 66) hx hb dX10_hermit_31 (by decide) (fun h => ?_) (fun h => ?_)
      · replace hq := br_pos h hq
        refine lv_bipush (v := (-102)) hx hb dX10_hermit_66 (by decide) ?_
        exact hret _ _ _ _ _ _ dX10_hermit_68 hW hq
      · replace hq := br_neg h hq
        refine lv_iload hx hb dX10_hermit_34 (lv_at hl 4 rfl) ?_
        refine lv_iconst (v := 0) hx hb dX10_hermit_36 (by decide) ?_
        refine lv_iconst (v := 3) hx hb dX10_hermit_37 (by decide) ?_
        refine kX10_isWithin_X10_102 C hW (Nat.le_trans (by decide) hRf) (Nat.le_trans (by decide) hRl) hl.1 (Nat.le_of_ble_eq_true rfl) dX10_hermit_38 hq (fun r_12 σ_11 H locs hq hW => ?_)
        refine lv_if_eq (tgt := 66) hx hb dX10_hermit_41 (by decide) (fun h => ?_) (fun h => ?_)
        · replace hq := br_pos h hq
          refine lv_bipush (v := (-102)) hx hb dX10_hermit_66 (by decide) ?_
          exact hret _ _ _ _ _ _ dX10_hermit_68 hW hq
        · replace hq := br_neg h hq
          refine lv_iload hx hb dX10_hermit_44 (lv_at hl 5 rfl) ?_
          refine lv_iconst (v := 1) hx hb dX10_hermit_46 (by decide) ?_
          refine lv_bipush (v := 9) hx hb dX10_hermit_47 (by decide) ?_
          refine kX10_isWithin_X10_102 C hW (Nat.le_trans (by decide) hRf) (Nat.le_trans (by decide) hRl) hl.1 (Nat.le_of_ble_eq_true rfl) dX10_hermit_49 hq (fun r_14 σ_13 H locs hq hW => ?_)
          refine lv_if_eq (tgt := 66) hx hb dX10_hermit_52 (by decide) (fun h => ?_) (fun h => ?_)
          · replace hq := br_pos h hq
            refine lv_bipush (v := (-102)) hx hb dX10_hermit_66 (by decide) ?_
            exact hret _ _ _ _ _ _ dX10_hermit_68 hW hq
          · replace hq := br_neg h hq
            refine lv_iload hx hb dX10_hermit_55 (lv_at hl 6 rfl) ?_
            refine lv_iconst (v := 0) hx hb dX10_hermit_57 (by decide) ?_
            refine lv_bipush (v := 99) hx hb dX10_hermit_58 (by decide) ?_
            refine kX10_isWithin_X10_102 C hW (Nat.le_trans (by decide) hRf) (Nat.le_trans (by decide) hRl) hl.1 (Nat.le_of_ble_eq_true rfl) dX10_hermit_60 hq (fun r_16 σ_15 H locs hq hW => ?_)
            refine lv_if_ne (tgt := 69) hx hb dX10_hermit_63 (by decide) (fun h => ?_) (fun h => ?_)
            · replace hq := br_neg h hq
              refine lv_aload_n hx hb dX10_hermit_69 rfl (lv_at hl 0 rfl) ?_
              refine xg_X10_12 C hW dX10_hermit_70 ?_
              refine xsiz_H_X10_81 C hW (Nat.le_trans (by decide) hRf) (Nat.le_trans (by decide) hRl) hl.1 (Nat.le_of_ble_eq_true rfl) dX10_hermit_73 (fun H locs hW => ?_)
              refine lv_topi (fun x7_17 ex7_17 => ?_)
              replace hq := hq _ ex7_17
              refine lv_istore (lv' := [(7, .int x7_17), (0, .ref (g.2.1 0)), (1, .int x1), (2, .int x2), (3, .int x3), (4, .int x4), (5, .int x5), (6, .int x6)]) hx hb dX10_hermit_76 hl (by decide) rfl (fun ls hl => ?_)
              refine lv_iload hx hb dX10_hermit_78 (lv_at hl 0 rfl) ?_
              refine lv_bipush (v := 10) hx hb dX10_hermit_80 (by decide) ?_
              refine lv_icmp_lt (tgt := 88) hx hb dX10_hermit_82 (by decide) (fun h => ?_) (fun h => ?_)
              · replace hq := br_pos h hq
                exact he88 _ _ _ _ _ _ _ _ _ _ _ hW (lv_sub hl [1, 2, 3, 4, 5, 6, 7, 0] rfl) hq
              · replace hq := br_neg h hq
                refine lv_bipush (v := (-104)) hx hb dX10_hermit_85 (by decide) ?_
                exact hret _ _ _ _ _ _ dX10_hermit_87 hW hq
            · replace hq := br_pos h hq
              refine lv_bipush (v := (-102)) hx hb dX10_hermit_66 (by decide) ?_
              exact hret _ _ _ _ _ _ dX10_hermit_68 hW hq
set_option maxHeartbeats 4000000 in
set_option maxRecDepth 100000 in
theorem wX10_vow (C : CallFix p m c cX10_vow 1 s args lwg RX10) (hRf : 9 ≤ R.frames) (hRl : 200 ≤ R.locals) {P : Int32 → XS → Prop} (hret : RetI g.1 (xw g) (xty g) A p l e R s m args below meth c 0 0 Q cX10_vow P) {e35 : XS → Prop} (he35 : ∀ (σ : XS) (H : Heap) (locs : List Loc) (ls : Array Slot), WI g.1 (xw g) (xty g) A s σ H locs → lv_has ls 1 [(0, .ref (g.2.1 0))] → e35 σ → W p l e R s m args below meth c H locs 0 0 Q (F0 m 35 ls [])) {σ : XS} {H : Heap} {locs : List Loc} {ls : Array Slot} (hW : WI g.1 (xw g) (xty g) A s σ H locs) (hl : lv_has ls 1 [(0, .ref (g.2.1 0))]) (hq : qX10_vow g e35 σ  P) : W p l e R s m args below meth c H locs 0 0 Q (F0 m 0 ls []) := by
  have hx := C.1
  have hb := C.2.1
  unfold qX10_vow at hq
  refine lv_aload_n hx hb dX10_vow_0 rfl (lv_at hl 0 rfl) ?_
  refine xg_X10_22 C hW dX10_vow_1 ?_
  refine kX5_read_X10_71 C hW (Nat.le_trans (by decide) hRf) (Nat.le_trans (by decide) hRl) hl.1 (Nat.le_of_ble_eq_true rfl) dX10_vow_4 hq (fun σ_1 H locs hq hW => ?_)
  refine lv_aload_n hx hb dX10_vow_7 rfl (lv_at hl 0 rfl) ?_
  refine xg_X10_22 C hW dX10_vow_8 ?_
  refine xg_X10_77 C hW dX10_vow_11 ?_
  refine lv_if_ne (tgt := 20) hx hb dX10_vow_14 (by decide) (fun h => ?_) (fun h => ?_)
  · replace hq := br_neg h hq
    refine lv_aload_n hx hb dX10_vow_20 rfl (lv_at hl 0 rfl) ?_
    refine xg_X10_16 C hW dX10_vow_21 ?_
    refine xsiz_V_X10_81 C hW (Nat.le_trans (by decide) hRf) (Nat.le_trans (by decide) hRl) hl.1 (Nat.le_of_ble_eq_true rfl) dX10_vow_24 (fun H locs hW => ?_)
    refine lv_bipush (v := 6) hx hb dX10_vow_27 (by decide) ?_
    refine lv_icmp_lt (tgt := 35) hx hb dX10_vow_29 (by decide) (fun h => ?_) (fun h => ?_)
    · replace hq := br_pos h hq
      exact he35 _ _ _ _ hW hl hq
    · replace hq := br_neg h hq
      refine lv_bipush (v := (-104)) hx hb dX10_vow_32 (by decide) ?_
      exact hret _ _ _ _ _ _ dX10_vow_34 hW hq
  · replace hq := br_pos h hq
    refine lv_bipush (v := (-103)) hx hb dX10_vow_17 (by decide) ?_
    exact hret _ _ _ _ _ _ dX10_vow_19 hW hq
end
