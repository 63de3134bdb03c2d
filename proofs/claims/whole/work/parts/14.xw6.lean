section
variable {p : Program} {l : Launch} {e : Env} {R : Room} {s : State} {m : MethodId} {args : Array Value} {below : List Frame} {meth : Method} {c : Code} {H : Heap} {locs : List Loc} {cells slots : Nat} {Q : State → Prop}
variable {cc : ByteArray} {pc : Nat} {ls : Array Slot} {rest : List Value} {own : String} {nL : Nat}
variable {g : XG} {A : Nat → Prop}
-- X10_starves
set_option maxHeartbeats 4000000 in
set_option maxRecDepth 100000 in
theorem wX10_starves (C : CallFix p m c cX10_starves 5 s args lwg RX10) (hRf : 9 ≤ R.frames) (hRl : 221 ≤ R.locals) {P : Int32 → XS → Prop} (hret : RetI g.1 (xw g) (xty g) A p l e R s m args below meth c 0 0 Q cX10_starves P) {σ : XS} {x1 : Int32} {x2 : Int32} {x3 : Int32} {H : Heap} {locs : List Loc} {ls : Array Slot} (hW : WI g.1 (xw g) (xty g) A s σ H locs) (hl : lv_has ls 5 [(0, .ref (g.2.1 0)), (1, .int x1), (2, .int x2), (3, .int x3)]) (hq : qX10_starves g σ x1 x2 x3 P) : W p l e R s m args below meth c H locs 0 0 Q (F0 m 0 ls []) := by
  have hx := C.1
  have hb := C.2.1
  unfold qX10_starves at hq
  refine lv_aload_n hx hb dX10_starves_0 rfl (lv_at hl 0 rfl) ?_
  refine lv_iload_n hx hb dX10_starves_1 rfl (lv_at hl 1 rfl) ?_
  refine kX10_vowNumbered_X10_94 C hW (Nat.le_trans (by decide) hRf) (Nat.le_trans (by decide) hRl) hl.1 (Nat.le_of_ble_eq_true rfl) dX10_starves_2 hq (fun r_2 σ_1 H locs hq hW => ?_)
  rcases r_2 with _ | v_3
  · replace hq := hq.1 rfl
    refine W.eq (g2 := F0 m 5 ls (.null :: [])) rfl ?_
    refine lv_astoreN (lv' := [(4, .null), (0, .ref (g.2.1 0)), (1, .int x1), (2, .int x2), (3, .int x3)]) hx hb dX10_starves_5 hl (by decide) rfl (fun ls hl => ?_)
    refine lv_aloadN hx hb dX10_starves_7 (lv_at hl 0 rfl) ?_
    refine lv_ifnullN (tgt := 28) hx hb dX10_starves_9 (by decide) ?_
    refine lv_bipush (v := (-101)) hx hb dX10_starves_28 (by decide) ?_
    exact hret _ _ _ _ _ _ dX10_starves_30 hW hq
  · replace hq := hq.2 v_3 rfl
    refine W.eq (g2 := F0 m 5 ls (.ref (vA g v_3) :: [])) rfl ?_
    refine lv_astore (lv' := [(4, .ref (vA g v_3)), (0, .ref (g.2.1 0)), (1, .int x1), (2, .int x2), (3, .int x3)]) hx hb dX10_starves_5 hl (by decide) rfl (fun ls hl => ?_)
    refine lv_aload hx hb dX10_starves_7 (lv_at hl 0 rfl) ?_
    refine lv_ifnull hx hb dX10_starves_9 ?_
    refine lv_aload_n hx hb dX10_starves_12 rfl (lv_at hl 1 rfl) ?_
    refine lv_iload_n hx hb dX10_starves_13 rfl (lv_at hl 3 rfl) ?_
    refine kX10_isSeat_X10_137 C hW (Nat.le_trans (by decide) hRf) (Nat.le_trans (by decide) hRl) hl.1 (Nat.le_of_ble_eq_true rfl) dX10_starves_14 hq (fun r_5 σ_4 H locs hq hW => ?_)
    refine lv_if_eq (tgt := 28) hx hb dX10_starves_17 (by decide) (fun h => ?_) (fun h => ?_)
    · replace hq := br_pos h hq
      refine lv_bipush (v := (-101)) hx hb dX10_starves_28 (by decide) ?_
      exact hret _ _ _ _ _ _ dX10_starves_30 hW hq
    · replace hq := br_neg h hq
      refine lv_aload_n hx hb dX10_starves_20 rfl (lv_at hl 1 rfl) ?_
      refine lv_iload_n hx hb dX10_starves_21 rfl (lv_at hl 4 rfl) ?_
      refine kX10_isHermit_X10_120 C hW (Nat.le_trans (by decide) hRf) (Nat.le_trans (by decide) hRl) hl.1 (Nat.le_of_ble_eq_true rfl) dX10_starves_22 hq (fun r_7 σ_6 H locs hq hW => ?_)
      refine lv_if_ne (tgt := 31) hx hb dX10_starves_25 (by decide) (fun h => ?_) (fun h => ?_)
      · replace hq := br_neg h hq
        refine lv_aload_n hx hb dX10_starves_31 rfl (lv_at hl 1 rfl) ?_
        refine xg_X10_31 C hW dX10_starves_32 ?_
        refine lv_iload_n hx hb dX10_starves_35 rfl (lv_at hl 4 rfl) ?_
        refine kX8_isStarved_X10_213 C hW (Nat.le_trans (by decide) hRf) (Nat.le_trans (by decide) hRl) hl.1 (Nat.le_of_ble_eq_true rfl) dX10_starves_36 hq (fun r_9 σ_8 H locs hq hW => ?_)
        refine lv_if_eq (tgt := 46) hx hb dX10_starves_39 (by decide) (fun h => ?_) (fun h => ?_)
        · replace hq := br_pos h hq
          refine lv_aload_n hx hb dX10_starves_46 rfl (lv_at hl 1 rfl) ?_
          refine xg_X10_56 C hW dX10_starves_47 ?_
          refine lv_aload_n hx hb dX10_starves_50 rfl (lv_at hl 1 rfl) ?_
          refine xg_X10_31 C hW dX10_starves_51 ?_
          refine lv_aload hx hb dX10_starves_54 (lv_at hl 0 rfl) ?_
          refine lv_iload_n hx hb dX10_starves_56 rfl (lv_at hl 3 rfl) ?_
          refine lv_iconst (v := 0) hx hb dX10_starves_57 (by decide) ?_
          refine lv_bipush (v := 60) hx hb dX10_starves_58 (by decide) ?_
          refine lv_iconst (v := 1) hx hb dX10_starves_60 (by decide) ?_
          refine lv_iload_n hx hb dX10_starves_61 rfl (lv_at hl 4 rfl) ?_
          refine w_ishl hx hb dX10_starves_62 ?_
          refine kX0_dayOfLoss_X10_216 C hW (Nat.le_trans (by decide) hRf) (Nat.le_trans (by decide) hRl) hl.1 (Nat.le_of_ble_eq_true rfl) dX10_starves_63 hq (fun r_11 σ_10 H locs hq hW => ?_)
          exact hret _ _ _ _ _ _ dX10_starves_66 hW hq
        · replace hq := br_neg h hq
          refine lv_iconst (v := 0) hx hb dX10_starves_42 (by decide) ?_
          refine lv_goto (tgt := 66) hx hb dX10_starves_43 (by decide) ?_
          exact hret _ _ _ _ _ _ dX10_starves_66 hW hq
      · replace hq := br_pos h hq
        refine lv_bipush (v := (-101)) hx hb dX10_starves_28 (by decide) ?_
        exact hret _ _ _ _ _ _ dX10_starves_30 hW hq
set_option maxHeartbeats 4000000 in
set_option maxRecDepth 100000 in
theorem mX10_starves {l : Launch} {g : XG} {σ : XS} {x1 : Int32} {x2 : Int32} {x3 : Int32} {P : Int32 → XS → Prop} (hq : qX10_starves g σ x1 x2 x3 P) (sz : Nat) : Met l yX10_starves (cws yX10_starves cX10_starves 5 (some .int)) ({ frames := 9, cells := 0, slots := 0, locals := 221 } : Room) (va_Pc [.ref (g.2.1 0), .int x1, .int x2, .int x3] (WP g.1 (xw g) (xty g) σ sz)) (va_Qi P (WB g.1 (xw g) (xty g) σ sz) (va_A (xw g σ) sz)) 0 0 (va_A (xw g σ) sz) :=
  w_enter (by decide) (Nat.le_of_ble_eq_true rfl) (fun p e s m args below meth c ls C hr hk hn hs hW hl => wX10_starves C (Nat.le_refl _) (Nat.le_refl _) (fun pc ls v σ H locs hd hW hq => w_iret C hs hr hk hW hd hq) hW hl hq)
-- X10_fasting
set_option maxHeartbeats 4000000 in
set_option maxRecDepth 100000 in
theorem wX10_fasting_L39 (C : CallFix p m c cX10_fasting 6 s args lwg RX10) (hRf : 9 ≤ R.frames) (hRl : 221 ≤ R.locals) {P : Int32 → XS → Prop} (hret : RetI g.1 (xw g) (xty g) A p l e R s m args below meth c 0 0 Q cX10_fasting P) : ∀ (n : Nat) (σ : XS) (x2 : Int32) (x3 : Int32) (x4 : Fin (nV g)) (x5 : Int32) (H : Heap) (locs : List Loc) (ls : Array Slot), WI g.1 (xw g) (xty g) A s σ H locs → lv_has ls 6 [(0, .ref (g.2.1 0)), (2, .int x2), (3, .int x3), (4, .ref (vA g x4)), (5, .int x5)] → qX10_fasting_L39 g  P n σ x2 x3 x4 x5 → W p l e R s m args below meth c H locs 0 0 Q (F0 m 39 ls []) := by
  have hx := C.1
  have hb := C.2.1
  intro n
  induction n with
  | zero =>
    intro σ x2 x3 x4 x5 H locs ls hW hl hq
    rw [qX10_fasting_L39] at hq
    exact hq.elim
  | succ n ih =>
    intro σ x2 x3 x4 x5 H locs ls hW hl hq
    rw [qX10_fasting_L39] at hq
    refine lv_iload hx hb dX10_fasting_39 (lv_at hl 4 rfl) ?_
    refine lv_aload_n hx hb dX10_fasting_41 rfl (lv_at hl 0 rfl) ?_
    refine xg_X10_12 C hW dX10_fasting_42 ?_
    refine xsiz_H_X10_81 C hW (Nat.le_trans (by decide) hRf) (Nat.le_trans (by decide) hRl) hl.1 (Nat.le_of_ble_eq_true rfl) dX10_fasting_45 (fun H locs hW => ?_)
    refine lv_icmp_ge (tgt := 84) hx hb dX10_fasting_48 (by decide) (fun h => ?_) (fun h => ?_)
    · replace hq := br_pos h hq
      refine lv_iconst (v := (-1)) hx hb dX10_fasting_84 (by decide) ?_
      exact hret _ _ _ _ _ _ dX10_fasting_85 hW hq
    · replace hq := br_neg h hq
      refine lv_aload_n hx hb dX10_fasting_51 rfl (lv_at hl 0 rfl) ?_
      refine xg_X10_56 C hW dX10_fasting_52 ?_
      refine lv_aload_n hx hb dX10_fasting_55 rfl (lv_at hl 0 rfl) ?_
      refine xg_X10_31 C hW dX10_fasting_56 ?_
      refine lv_aload hx hb dX10_fasting_59 (lv_at hl 3 rfl) ?_
      refine lv_iload_n hx hb dX10_fasting_61 rfl (lv_at hl 1 rfl) ?_
      refine lv_iload hx hb dX10_fasting_62 (lv_at hl 4 rfl) ?_
      refine lv_iload_n hx hb dX10_fasting_64 rfl (lv_at hl 2 rfl) ?_
      refine lv_sipush (v := 1023) hx hb dX10_fasting_65 (by decide) ?_
      refine kX0_dayOfLoss_X10_216 C hW (Nat.le_trans (by decide) hRf) (Nat.le_trans (by decide) hRl) hl.1 (Nat.le_of_ble_eq_true rfl) dX10_fasting_68 hq (fun r_2 σ_1 H locs hq hW => ?_)
      refine lv_iconst (v := (-1)) hx hb dX10_fasting_71 (by decide) ?_
      refine lv_icmp_ne (tgt := 78) hx hb dX10_fasting_72 (by decide) (fun h => ?_) (fun h => ?_)
      · replace hq := br_neg h hq
        obtain ⟨x5_3, ex5_3⟩ : ∃ y : Int32, y = x5 + 1 := ⟨_, rfl⟩
        replace hq := hq _ ex5_3
        refine lv_iinc (v := x5_3) (lv' := [(5, .int x5_3), (0, .ref (g.2.1 0)), (2, .int x2), (3, .int x3), (4, .ref (vA g x4))]) hx hb dX10_fasting_78 hl (k := 4) rfl (by rw [ex5_3]; rfl) (by decide) rfl (fun ls hl => ?_)
        refine lv_goto (tgt := 39) hx hb dX10_fasting_81 (by decide) ?_
        exact ih _ _ _ _ _ _ _ _ hW (lv_sub hl [1, 2, 3, 4, 0] rfl) hq
      · replace hq := br_pos h hq
        refine lv_iload hx hb dX10_fasting_75 (lv_at hl 4 rfl) ?_
        exact hret _ _ _ _ _ _ dX10_fasting_77 hW hq
set_option maxHeartbeats 4000000 in
set_option maxRecDepth 100000 in
theorem wX10_fasting (C : CallFix p m c cX10_fasting 6 s args lwg RX10) (hRf : 9 ≤ R.frames) (hRl : 221 ≤ R.locals) {P : Int32 → XS → Prop} (hret : RetI g.1 (xw g) (xty g) A p l e R s m args below meth c 0 0 Q cX10_fasting P) {σ : XS} {x1 : Int32} {x2 : Int32} {x3 : Int32} {H : Heap} {locs : List Loc} {ls : Array Slot} (hW : WI g.1 (xw g) (xty g) A s σ H locs) (hl : lv_has ls 6 [(0, .ref (g.2.1 0)), (1, .int x1), (2, .int x2), (3, .int x3)]) (hq : qX10_fasting g σ x1 x2 x3 P) : W p l e R s m args below meth c H locs 0 0 Q (F0 m 0 ls []) := by
  have hx := C.1
  have hb := C.2.1
  unfold qX10_fasting at hq
  refine lv_aload_n hx hb dX10_fasting_0 rfl (lv_at hl 0 rfl) ?_
  refine lv_iload_n hx hb dX10_fasting_1 rfl (lv_at hl 1 rfl) ?_
  refine kX10_vowNumbered_X10_94 C hW (Nat.le_trans (by decide) hRf) (Nat.le_trans (by decide) hRl) hl.1 (Nat.le_of_ble_eq_true rfl) dX10_fasting_2 hq (fun r_2 σ_1 H locs hq hW => ?_)
  rcases r_2 with _ | v_3
  · replace hq := hq.1 rfl
    refine W.eq (g2 := F0 m 5 ls (.null :: [])) rfl ?_
    refine lv_astoreN (lv' := [(4, .null), (0, .ref (g.2.1 0)), (1, .int x1), (2, .int x2), (3, .int x3)]) hx hb dX10_fasting_5 hl (by decide) rfl (fun ls hl => ?_)
    refine lv_aloadN hx hb dX10_fasting_7 (lv_at hl 0 rfl) ?_
    refine lv_ifnullN (tgt := 20) hx hb dX10_fasting_9 (by decide) ?_
    refine lv_bipush (v := (-101)) hx hb dX10_fasting_20 (by decide) ?_
    exact hret _ _ _ _ _ _ dX10_fasting_22 hW hq
  · replace hq := hq.2 v_3 rfl
    refine W.eq (g2 := F0 m 5 ls (.ref (vA g v_3) :: [])) rfl ?_
    refine lv_astore (lv' := [(4, .ref (vA g v_3)), (0, .ref (g.2.1 0)), (1, .int x1), (2, .int x2), (3, .int x3)]) hx hb dX10_fasting_5 hl (by decide) rfl (fun ls hl => ?_)
    refine lv_aload hx hb dX10_fasting_7 (lv_at hl 0 rfl) ?_
    refine lv_ifnull hx hb dX10_fasting_9 ?_
    refine lv_aload_n hx hb dX10_fasting_12 rfl (lv_at hl 1 rfl) ?_
    refine lv_iload_n hx hb dX10_fasting_13 rfl (lv_at hl 3 rfl) ?_
    refine kX10_isSeat_X10_137 C hW (Nat.le_trans (by decide) hRf) (Nat.le_trans (by decide) hRl) hl.1 (Nat.le_of_ble_eq_true rfl) dX10_fasting_14 hq (fun r_5 σ_4 H locs hq hW => ?_)
    refine lv_if_ne (tgt := 23) hx hb dX10_fasting_17 (by decide) (fun h => ?_) (fun h => ?_)
    · replace hq := br_neg h hq
      refine lv_iload_n hx hb dX10_fasting_23 rfl (lv_at hl 4 rfl) ?_
      refine lv_iconst (v := 1) hx hb dX10_fasting_24 (by decide) ?_
      refine lv_bipush (v := 30) hx hb dX10_fasting_25 (by decide) ?_
      refine kX10_isWithin_X10_102 C hW (Nat.le_trans (by decide) hRf) (Nat.le_trans (by decide) hRl) hl.1 (Nat.le_of_ble_eq_true rfl) dX10_fasting_27 hq (fun r_7 σ_6 H locs hq hW => ?_)
      refine lv_if_ne (tgt := 36) hx hb dX10_fasting_30 (by decide) (fun h => ?_) (fun h => ?_)
      · replace hq := br_neg h hq
        refine lv_iconst (v := 0) hx hb dX10_fasting_36 (by decide) ?_
        refine lv_istore (lv' := [(5, .int 0), (4, .ref (vA g v_3)), (0, .ref (g.2.1 0)), (1, .int x1), (2, .int x2), (3, .int x3)]) hx hb dX10_fasting_37 hl (by decide) rfl (fun ls hl => ?_)
        obtain ⟨f39, hq⟩ := hq
        exact wX10_fasting_L39 C hRf hRl hret f39 _ _ _ _ _ _ _ _ hW (lv_sub hl [2, 4, 5, 1, 0] rfl) hq
      · replace hq := br_pos h hq
        refine lv_bipush (v := (-102)) hx hb dX10_fasting_33 (by decide) ?_
        exact hret _ _ _ _ _ _ dX10_fasting_35 hW hq
    · replace hq := br_pos h hq
      refine lv_bipush (v := (-101)) hx hb dX10_fasting_20 (by decide) ?_
      exact hret _ _ _ _ _ _ dX10_fasting_22 hW hq
set_option maxHeartbeats 4000000 in
set_option maxRecDepth 100000 in
theorem mX10_fasting {l : Launch} {g : XG} {σ : XS} {x1 : Int32} {x2 : Int32} {x3 : Int32} {P : Int32 → XS → Prop} (hq : qX10_fasting g σ x1 x2 x3 P) (sz : Nat) : Met l yX10_fasting (cws yX10_fasting cX10_fasting 6 (some .int)) ({ frames := 9, cells := 0, slots := 0, locals := 221 } : Room) (va_Pc [.ref (g.2.1 0), .int x1, .int x2, .int x3] (WP g.1 (xw g) (xty g) σ sz)) (va_Qi P (WB g.1 (xw g) (xty g) σ sz) (va_A (xw g σ) sz)) 0 0 (va_A (xw g σ) sz) :=
  w_enter (by decide) (Nat.le_of_ble_eq_true rfl) (fun p e s m args below meth c ls C hr hk hn hs hW hl => wX10_fasting C (Nat.le_refl _) (Nat.le_refl _) (fun pc ls v σ H locs hd hW hq => w_iret C hs hr hk hW hd hq) hW hl hq)
-- X10_schism
set_option maxHeartbeats 4000000 in
set_option maxRecDepth 100000 in
theorem wX10_schism_J40 (C : CallFix p m c cX10_schism 3 s args lwg RX10) (hRf : 7 ≤ R.frames) (hRl : 165 ≤ R.locals) {P : Int32 → XS → Prop} (hret : RetI g.1 (xw g) (xty g) A p l e R s m args below meth c 0 0 Q cX10_schism P) {σ : XS} {x1 : Int32} {x2 : Int32} {H : Heap} {locs : List Loc} {ls : Array Slot} (hW : WI g.1 (xw g) (xty g) A s σ H locs) (hl : lv_has ls 3 [(0, .ref (g.2.1 0)), (1, .int x1), (2, .int x2)]) (hq : qX10_schism_J40 g  P σ x1 x2) : W p l e R s m args below meth c H locs 0 0 Q (F0 m 40 ls []) := by
  have hx := C.1
  have hb := C.2.1
  unfold qX10_schism_J40 at hq
  refine lv_aload_n hx hb dX10_schism_40 rfl (lv_at hl 0 rfl) ?_
  refine xg_X10_47 C hW dX10_schism_41 ?_
  refine lv_aload_n hx hb dX10_schism_44 rfl (lv_at hl 0 rfl) ?_
  refine xg_X10_31 C hW dX10_schism_45 ?_
  refine kX6_begin_X10_171 C hW (Nat.le_trans (by decide) hRf) (Nat.le_trans (by decide) hRl) hl.1 (Nat.le_of_ble_eq_true rfl) dX10_schism_48 hq (fun σ_1 H locs hq hW => ?_)
  refine lv_aload_n hx hb dX10_schism_51 rfl (lv_at hl 0 rfl) ?_
  refine xg_X10_47 C hW dX10_schism_52 ?_
  refine lv_iload_n hx hb dX10_schism_55 rfl (lv_at hl 1 rfl) ?_
  refine kX6_goBothWays_X10_220 C hW (Nat.le_trans (by decide) hRf) (Nat.le_trans (by decide) hRl) hl.1 (Nat.le_of_ble_eq_true rfl) dX10_schism_56 hq (fun σ_2 H locs hq hW => ?_)
  refine lv_iload_n hx hb dX10_schism_59 rfl (lv_at hl 2 rfl) ?_
  refine lv_bipush (v := 10) hx hb dX10_schism_60 (by decide) ?_
  refine lv_icmp_ge (tgt := 75) hx hb dX10_schism_62 (by decide) (fun h => ?_) (fun h => ?_)
  · replace hq := br_pos h hq
    refine lv_iload_n hx hb dX10_schism_75 rfl (lv_at hl 2 rfl) ?_
    refine lv_bipush (v := 10) hx hb dX10_schism_76 (by decide) ?_
    refine lv_icmp_ne (tgt := 91) hx hb dX10_schism_78 (by decide) (fun h => ?_) (fun h => ?_)
    · replace hq := br_neg h hq
      refine lv_aload_n hx hb dX10_schism_91 rfl (lv_at hl 0 rfl) ?_
      refine xg_X10_47 C hW dX10_schism_92 ?_
      refine xg_X10_225 C hW dX10_schism_95 ?_
      exact hret _ _ _ _ _ _ dX10_schism_98 hW hq
    · replace hq := br_pos h hq
      refine lv_aload_n hx hb dX10_schism_81 rfl (lv_at hl 0 rfl) ?_
      refine xg_X10_47 C hW dX10_schism_82 ?_
      refine xg_X10_224 C hW dX10_schism_85 ?_
      refine lv_goto (tgt := 98) hx hb dX10_schism_88 (by decide) ?_
      exact hret _ _ _ _ _ _ dX10_schism_98 hW hq
  · replace hq := br_neg h hq
    refine lv_aload_n hx hb dX10_schism_65 rfl (lv_at hl 0 rfl) ?_
    refine xg_X10_47 C hW dX10_schism_66 ?_
    refine xg_X10_168 C hW dX10_schism_69 ?_
    refine lv_iload_n hx hb dX10_schism_72 rfl (lv_at hl 2 rfl) ?_
    obtain ⟨hin3, hq⟩ := hq
    refine xa_R C hW hin3 dX10_schism_73 ?_
    exact hret _ _ _ _ _ _ dX10_schism_74 hW hq
set_option maxHeartbeats 4000000 in
set_option maxRecDepth 100000 in
theorem wX10_schism (C : CallFix p m c cX10_schism 3 s args lwg RX10) (hRf : 7 ≤ R.frames) (hRl : 165 ≤ R.locals) {P : Int32 → XS → Prop} (hret : RetI g.1 (xw g) (xty g) A p l e R s m args below meth c 0 0 Q cX10_schism P) {σ : XS} {x1 : Int32} {x2 : Int32} {H : Heap} {locs : List Loc} {ls : Array Slot} (hW : WI g.1 (xw g) (xty g) A s σ H locs) (hl : lv_has ls 3 [(0, .ref (g.2.1 0)), (1, .int x1), (2, .int x2)]) (hq : qX10_schism g σ x1 x2 P) : W p l e R s m args below meth c H locs 0 0 Q (F0 m 0 ls []) := by
  have hx := C.1
  have hb := C.2.1
  unfold qX10_schism at hq
  refine lv_aload_n hx hb dX10_schism_0 rfl (lv_at hl 0 rfl) ?_
  refine lv_iload_n hx hb dX10_schism_1 rfl (lv_at hl 1 rfl) ?_
  refine kX10_isSeat_X10_137 C hW (Nat.le_trans (by decide) hRf) (Nat.le_trans (by decide) hRl) hl.1 (Nat.le_of_ble_eq_true rfl) dX10_schism_2 hq (fun r_2 σ_1 H locs hq hW => ?_)
  refine lv_if_ne (tgt := 11) hx hb dX10_schism_5 (by decide) (fun h => ?_) (fun h => ?_)
  · replace hq := br_neg h hq
    refine lv_iload_n hx hb dX10_schism_11 rfl (lv_at hl 2 rfl) ?_
    refine lv_iconst (v := 0) hx hb dX10_schism_12 (by decide) ?_
    refine lv_bipush (v := 11) hx hb dX10_schism_13 (by decide) ?_
    refine kX10_isWithin_X10_102 C hW (Nat.le_trans (by decide) hRf) (Nat.le_trans (by decide) hRl) hl.1 (Nat.le_of_ble_eq_true rfl) dX10_schism_15 hq (fun r_4 σ_3 H locs hq hW => ?_)
    refine lv_if_ne (tgt := 24) hx hb dX10_schism_18 (by decide) (fun h => ?_) (fun h => ?_)
    · replace hq := br_neg h hq
      refine lv_iload_n hx hb dX10_schism_24 rfl (lv_at hl 2 rfl) ?_
      refine lv_bipush (v := 10) hx hb dX10_schism_25 (by decide) ?_
      refine lv_icmp_ge (tgt := 40) hx hb dX10_schism_27 (by decide) (fun h => ?_) (fun h => ?_)
      · replace hq := br_pos h hq
        exact wX10_schism_J40 C hRf hRl hret  hW hl hq
      · replace hq := br_neg h hq
        refine lv_aload_n hx hb dX10_schism_30 rfl (lv_at hl 0 rfl) ?_
        refine lv_iload_n hx hb dX10_schism_31 rfl (lv_at hl 2 rfl) ?_
        refine kX10_isHermit_X10_120 C hW (Nat.le_trans (by decide) hRf) (Nat.le_trans (by decide) hRl) hl.1 (Nat.le_of_ble_eq_true rfl) dX10_schism_32 hq (fun r_6 σ_5 H locs hq hW => ?_)
        refine lv_if_ne (tgt := 40) hx hb dX10_schism_35 (by decide) (fun h => ?_) (fun h => ?_)
        · replace hq := br_neg h hq
          exact wX10_schism_J40 C hRf hRl hret  hW hl hq
        · replace hq := br_pos h hq
          refine lv_iconst (v := (-1)) hx hb dX10_schism_38 (by decide) ?_
          exact hret _ _ _ _ _ _ dX10_schism_39 hW hq
    · replace hq := br_pos h hq
      refine lv_bipush (v := (-102)) hx hb dX10_schism_21 (by decide) ?_
      exact hret _ _ _ _ _ _ dX10_schism_23 hW hq
  · replace hq := br_pos h hq
    refine lv_bipush (v := (-101)) hx hb dX10_schism_8 (by decide) ?_
    exact hret _ _ _ _ _ _ dX10_schism_10 hW hq
set_option maxHeartbeats 4000000 in
set_option maxRecDepth 100000 in
theorem mX10_schism {l : Launch} {g : XG} {σ : XS} {x1 : Int32} {x2 : Int32} {P : Int32 → XS → Prop} (hq : qX10_schism g σ x1 x2 P) (sz : Nat) : Met l yX10_schism (cws yX10_schism cX10_schism 3 (some .int)) ({ frames := 7, cells := 0, slots := 0, locals := 165 } : Room) (va_Pc [.ref (g.2.1 0), .int x1, .int x2] (WP g.1 (xw g) (xty g) σ sz)) (va_Qi P (WB g.1 (xw g) (xty g) σ sz) (va_A (xw g σ) sz)) 0 0 (va_A (xw g σ) sz) :=
  w_enter (by decide) (Nat.le_of_ble_eq_true rfl) (fun p e s m args below meth c ls C hr hk hn hs hW hl => wX10_schism C (Nat.le_refl _) (Nat.le_refl _) (fun pc ls v σ H locs hd hW hq => w_iret C hs hr hk hW hd hq) hW hl hq)
-- X10_leftIf
set_option maxHeartbeats 4000000 in
set_option maxRecDepth 100000 in
theorem wX10_leftIf (C : CallFix p m c cX10_leftIf 5 s args lwg RX10) (hRf : 7 ≤ R.frames) (hRl : 165 ≤ R.locals) {P : Int32 → XS → Prop} (hret : RetI g.1 (xw g) (xty g) A p l e R s m args below meth c 0 0 Q cX10_leftIf P) {σ : XS} {x1 : Int32} {x2 : Fin (nV g)} {x3 : Int32} {x4 : Int32} {H : Heap} {locs : List Loc} {ls : Array Slot} (hW : WI g.1 (xw g) (xty g) A s σ H locs) (hl : lv_has ls 5 [(0, .ref (g.2.1 0)), (1, .int x1), (2, .ref (vA g x2)), (3, .int x3), (4, .int x4)]) (hq : qX10_leftIf g σ x1 x2 x3 x4 P) : W p l e R s m args below meth c H locs 0 0 Q (F0 m 0 ls []) := by
  have hx := C.1
  have hb := C.2.1
  unfold qX10_leftIf at hq
  refine lv_aload_n hx hb dX10_leftIf_0 rfl (lv_at hl 0 rfl) ?_
  refine xg_X10_47 C hW dX10_leftIf_1 ?_
  refine lv_aload_n hx hb dX10_leftIf_4 rfl (lv_at hl 0 rfl) ?_
  refine xg_X10_31 C hW dX10_leftIf_5 ?_
  refine kX6_begin_X10_171 C hW (Nat.le_trans (by decide) hRf) (Nat.le_trans (by decide) hRl) hl.1 (Nat.le_of_ble_eq_true rfl) dX10_leftIf_8 hq (fun σ_1 H locs hq hW => ?_)
  refine lv_aload_n hx hb dX10_leftIf_11 rfl (lv_at hl 0 rfl) ?_
  refine xg_X10_47 C hW dX10_leftIf_12 ?_
  refine lv_iload_n hx hb dX10_leftIf_15 rfl (lv_at hl 1 rfl) ?_
  refine xp_X10_291 C hW dX10_leftIf_16 (fun σ_2 H locs eσ_2 hW => ?_)
  replace hq := hq _ eσ_2
  refine lv_aload_n hx hb dX10_leftIf_19 rfl (lv_at hl 0 rfl) ?_
  refine xg_X10_47 C hW dX10_leftIf_20 ?_
  refine lv_aload_n hx hb dX10_leftIf_23 rfl (lv_at hl 2 rfl) ?_
  refine lv_aload_n hx hb dX10_leftIf_24 rfl (lv_at hl 2 rfl) ?_
  refine xg_X10_177 C hW dX10_leftIf_25 ?_
  refine lv_iload_n hx hb dX10_leftIf_28 rfl (lv_at hl 3 rfl) ?_
  refine lv_iconst (v := 0) hx hb dX10_leftIf_29 (by decide) ?_
  refine lv_iload hx hb dX10_leftIf_30 (lv_at hl 4 rfl) ?_
  refine kX6_goRound_X10_180 C hW (Nat.le_trans (by decide) hRf) (Nat.le_trans (by decide) hRl) hl.1 (Nat.le_of_ble_eq_true rfl) dX10_leftIf_32 hq (fun σ_3 H locs hq hW => ?_)
  refine lv_aload_n hx hb dX10_leftIf_35 rfl (lv_at hl 0 rfl) ?_
  refine xg_X10_47 C hW dX10_leftIf_36 ?_
  refine xg_X10_225 C hW dX10_leftIf_39 ?_
  exact hret _ _ _ _ _ _ dX10_leftIf_42 hW hq
set_option maxHeartbeats 4000000 in
set_option maxRecDepth 100000 in
theorem mX10_leftIf {l : Launch} {g : XG} {σ : XS} {x1 : Int32} {x2 : Fin (nV g)} {x3 : Int32} {x4 : Int32} {P : Int32 → XS → Prop} (hq : qX10_leftIf g σ x1 x2 x3 x4 P) (sz : Nat) : Met l yX10_leftIf (cws yX10_leftIf cX10_leftIf 5 (some .int)) ({ frames := 7, cells := 0, slots := 0, locals := 165 } : Room) (va_Pc [.ref (g.2.1 0), .int x1, .ref (vA g x2), .int x3, .int x4] (WP g.1 (xw g) (xty g) σ sz)) (va_Qi P (WB g.1 (xw g) (xty g) σ sz) (va_A (xw g σ) sz)) 0 0 (va_A (xw g σ) sz) :=
  w_enter (by decide) (Nat.le_of_ble_eq_true rfl) (fun p e s m args below meth c ls C hr hk hn hs hW hl => wX10_leftIf C (Nat.le_refl _) (Nat.le_refl _) (fun pc ls v σ H locs hd hW hq => w_iret C hs hr hk hW hd hq) hW hl hq)
set_option maxHeartbeats 4000000 in
set_option maxRecDepth 100000 in
theorem kX10_leftIf_X10_228 (C : CallFix p m c cc nL s args lwg RX10) {σ : XS} (hW : WI g.1 (xw g) (xty g) A s σ H locs) (hRf : 8 ≤ R.frames) (hRl : 189 ≤ R.locals) (hls : ls.size = nL) (hro : (rest.map fun v => v.category).sum ≤ 8) {x1 : Int32} {x2 : Fin (nV g)} {x3 : Int32} {x4 : Int32} (hd : decode cc pc = .ok (.invokevirtual 228, 3)) {P : Int32 → XS → Prop} (hq : qX10_leftIf g σ x1 x2 x3 x4 P) (kk : ∀ (r : Int32) (σ1 : XS) (H : Heap) (locs : List Loc), P r σ1 → WI g.1 (xw g) (xty g) A s σ1 H locs → W p l e R s m args below meth c H locs 0 0 Q (F0 m (pc + 3) ls (.int r :: rest))) : W p l e R s m args below meth c H locs 0 0 Q (F0 m pc ls (.int x4 :: .int x3 :: .ref (vA g x2) :: .int x1 :: .ref (g.2.1 0) :: rest)) :=
  w_calli hW (w_runV C hW (mX10_leftIf hq _) ⟨(lwg_at 873 (by decide +kernel) rfl), (lwg_at 66 (by decide +kernel) rfl), (lwg_at 870 (by decide +kernel) rfl)⟩ (lwg_at 872 (by decide +kernel) rfl) (lwg_at 22 (by decide +kernel) rfl) (np := 4) (by decide +kernel) ⟨rfl, rfl⟩ ⟨hRf, hRl⟩ (ci := 11) rfl rfl (q0 := 0) rfl rfl hls rfl hro hd ⟨Nat.zero_le _, Nat.zero_le _⟩) kk
-- X10_twice
set_option maxHeartbeats 4000000 in
set_option maxRecDepth 100000 in
theorem wX10_twice_J110 (C : CallFix p m c cX10_twice 8 s args lwg RX10) (hRf : 8 ≤ R.frames) (hRl : 189 ≤ R.locals) {P : Int32 → XS → Prop} (hret : RetI g.1 (xw g) (xty g) A p l e R s m args below meth c 0 0 Q cX10_twice P) {k74 : XS → Int32 → Int32 → Int32 → Fin (nV g) → Int32 → Int32 → Prop} (hk74 : ∀ (σ : XS) (x2 : Int32) (x3 : Int32) (x4 : Int32) (x5 : Fin (nV g)) (x6 : Int32) (x7 : Int32) (H : Heap) (locs : List Loc) (ls : Array Slot), WI g.1 (xw g) (xty g) A s σ H locs → lv_has ls 8 [(0, .ref (g.2.1 0)), (2, .int x2), (3, .int x3), (4, .int x4), (5, .ref (vA g x5)), (6, .int x6), (7, .int x7)] → k74 σ x2 x3 x4 x5 x6 x7 → W p l e R s m args below meth c H locs 0 0 Q (F0 m 74 ls [])) {σ : XS} {x2 : Int32} {x3 : Int32} {x4 : Int32} {x5 : Fin (nV g)} {x6 : Int32} {x7 : Int32} {H : Heap} {locs : List Loc} {ls : Array Slot} (hW : WI g.1 (xw g) (xty g) A s σ H locs) (hl : lv_has ls 8 [(0, .ref (g.2.1 0)), (2, .int x2), (3, .int x3), (4, .int x4), (5, .ref (vA g x5)), (6, .int x6), (7, .int x7)]) (hq : qX10_twice_J110 g k74 P σ x2 x3 x4 x5 x6 x7) : W p l e R s m args below meth c H locs 0 0 Q (F0 m 110 ls []) := by
  have hx := C.1
  have hb := C.2.1
  unfold qX10_twice_J110 at hq
  obtain ⟨x7_1, ex7_1⟩ : ∃ y : Int32, y = x7 + 1 := ⟨_, rfl⟩
  replace hq := hq _ ex7_1
  refine lv_iinc (v := x7_1) (lv' := [(7, .int x7_1), (0, .ref (g.2.1 0)), (2, .int x2), (3, .int x3), (4, .int x4), (5, .ref (vA g x5)), (6, .int x6)]) hx hb dX10_twice_110 hl (k := 6) rfl (by rw [ex7_1]; rfl) (by decide) rfl (fun ls hl => ?_)
  refine lv_goto (tgt := 74) hx hb dX10_twice_113 (by decide) ?_
  exact hk74 _ _ _ _ _ _ _ _ _ _ hW (lv_sub hl [1, 2, 3, 4, 5, 6, 0] rfl) hq
set_option maxHeartbeats 4000000 in
set_option maxRecDepth 100000 in
theorem wX10_twice_L74 (C : CallFix p m c cX10_twice 8 s args lwg RX10) (hRf : 8 ≤ R.frames) (hRl : 189 ≤ R.locals) {P : Int32 → XS → Prop} (hret : RetI g.1 (xw g) (xty g) A p l e R s m args below meth c 0 0 Q cX10_twice P) : ∀ (n : Nat) (σ : XS) (x2 : Int32) (x3 : Int32) (x4 : Int32) (x5 : Fin (nV g)) (x6 : Int32) (x7 : Int32) (H : Heap) (locs : List Loc) (ls : Array Slot), WI g.1 (xw g) (xty g) A s σ H locs → lv_has ls 8 [(0, .ref (g.2.1 0)), (2, .int x2), (3, .int x3), (4, .int x4), (5, .ref (vA g x5)), (6, .int x6), (7, .int x7)] → qX10_twice_L74 g  P n σ x2 x3 x4 x5 x6 x7 → W p l e R s m args below meth c H locs 0 0 Q (F0 m 74 ls []) := by
  have hx := C.1
  have hb := C.2.1
  intro n
  induction n with
  | zero =>
    intro σ x2 x3 x4 x5 x6 x7 H locs ls hW hl hq
    rw [qX10_twice_L74] at hq
    exact hq.elim
  | succ n ih =>
    intro σ x2 x3 x4 x5 x6 x7 H locs ls hW hl hq
    rw [qX10_twice_L74] at hq
    refine lv_iload hx hb dX10_twice_74 (lv_at hl 6 rfl) ?_
    refine lv_aload_n hx hb dX10_twice_76 rfl (lv_at hl 0 rfl) ?_
    refine xg_X10_12 C hW dX10_twice_77 ?_
    refine xsiz_H_X10_81 C hW (Nat.le_trans (by decide) hRf) (Nat.le_trans (by decide) hRl) hl.1 (Nat.le_of_ble_eq_true rfl) dX10_twice_80 (fun H locs hW => ?_)
    refine lv_icmp_ge (tgt := 116) hx hb dX10_twice_83 (by decide) (fun h => ?_) (fun h => ?_)
    · replace hq := br_pos h hq
      refine lv_iload hx hb dX10_twice_116 (lv_at hl 5 rfl) ?_
      exact hret _ _ _ _ _ _ dX10_twice_118 hW hq
    · replace hq := br_neg h hq
      refine lv_aload_n hx hb dX10_twice_86 rfl (lv_at hl 0 rfl) ?_
      refine lv_iload hx hb dX10_twice_87 (lv_at hl 6 rfl) ?_
      refine lv_aload hx hb dX10_twice_89 (lv_at hl 4 rfl) ?_
      refine lv_iload_n hx hb dX10_twice_91 rfl (lv_at hl 1 rfl) ?_
      refine lv_iload_n hx hb dX10_twice_92 rfl (lv_at hl 2 rfl) ?_
      refine kX10_leftIf_X10_228 C hW (Nat.le_trans (by decide) hRf) (Nat.le_trans (by decide) hRl) hl.1 (Nat.le_of_ble_eq_true rfl) dX10_twice_93 hq (fun r_2 σ_1 H locs hq hW => ?_)
      refine lv_iload hx hb dX10_twice_96 (lv_at hl 3 rfl) ?_
      refine lv_icmp_ne (tgt := 110) hx hb dX10_twice_98 (by decide) (fun h => ?_) (fun h => ?_)
      · replace hq := br_neg h hq
        exact wX10_twice_J110 C hRf hRl hret ih hW hl hq
      · replace hq := br_pos h hq
        refine lv_iload hx hb dX10_twice_101 (lv_at hl 5 rfl) ?_
        refine lv_iconst (v := 1) hx hb dX10_twice_103 (by decide) ?_
        refine lv_iload hx hb dX10_twice_104 (lv_at hl 6 rfl) ?_
        refine w_ishl hx hb dX10_twice_106 ?_
        refine lv_ior hx hb dX10_twice_107 ?_
        refine lv_topi (fun x6_3 ex6_3 => ?_)
        replace hq := hq _ ex6_3
        refine lv_istore (lv' := [(6, .int x6_3), (0, .ref (g.2.1 0)), (2, .int x2), (3, .int x3), (4, .int x4), (5, .ref (vA g x5)), (7, .int x7)]) hx hb dX10_twice_108 hl (by decide) rfl (fun ls hl => ?_)
        exact wX10_twice_J110 C hRf hRl hret ih hW (lv_sub hl [1, 2, 3, 4, 5, 0, 6] rfl) hq
set_option maxHeartbeats 4000000 in
set_option maxRecDepth 100000 in
theorem wX10_twice (C : CallFix p m c cX10_twice 8 s args lwg RX10) (hRf : 8 ≤ R.frames) (hRl : 189 ≤ R.locals) {P : Int32 → XS → Prop} (hret : RetI g.1 (xw g) (xty g) A p l e R s m args below meth c 0 0 Q cX10_twice P) {σ : XS} {x1 : Int32} {x2 : Int32} {x3 : Int32} {x4 : Int32} {H : Heap} {locs : List Loc} {ls : Array Slot} (hW : WI g.1 (xw g) (xty g) A s σ H locs) (hl : lv_has ls 8 [(0, .ref (g.2.1 0)), (1, .int x1), (2, .int x2), (3, .int x3), (4, .int x4)]) (hq : qX10_twice g σ x1 x2 x3 x4 P) : W p l e R s m args below meth c H locs 0 0 Q (F0 m 0 ls []) := by
  have hx := C.1
  have hb := C.2.1
  unfold qX10_twice at hq
  refine lv_aload_n hx hb dX10_twice_0 rfl (lv_at hl 0 rfl) ?_
  refine lv_iload_n hx hb dX10_twice_1 rfl (lv_at hl 1 rfl) ?_
  refine kX10_vowNumbered_X10_94 C hW (Nat.le_trans (by decide) hRf) (Nat.le_trans (by decide) hRl) hl.1 (Nat.le_of_ble_eq_true rfl) dX10_twice_2 hq (fun r_2 σ_1 H locs hq hW => ?_)
  rcases r_2 with _ | v_3
  · replace hq := hq.1 rfl
    refine W.eq (g2 := F0 m 5 ls (.null :: [])) rfl ?_
    refine lv_astoreN (lv' := [(5, .null), (0, .ref (g.2.1 0)), (1, .int x1), (2, .int x2), (3, .int x3), (4, .int x4)]) hx hb dX10_twice_5 hl (by decide) rfl (fun ls hl => ?_)
    refine lv_aloadN hx hb dX10_twice_7 (lv_at hl 0 rfl) ?_
    refine lv_ifnullN (tgt := 20) hx hb dX10_twice_9 (by decide) ?_
    refine lv_bipush (v := (-101)) hx hb dX10_twice_20 (by decide) ?_
    exact hret _ _ _ _ _ _ dX10_twice_22 hW hq
  · replace hq := hq.2 v_3 rfl
    refine W.eq (g2 := F0 m 5 ls (.ref (vA g v_3) :: [])) rfl ?_
    refine lv_astore (lv' := [(5, .ref (vA g v_3)), (0, .ref (g.2.1 0)), (1, .int x1), (2, .int x2), (3, .int x3), (4, .int x4)]) hx hb dX10_twice_5 hl (by decide) rfl (fun ls hl => ?_)
    refine lv_aload hx hb dX10_twice_7 (lv_at hl 0 rfl) ?_
    refine lv_ifnull hx hb dX10_twice_9 ?_
    refine lv_aload_n hx hb dX10_twice_12 rfl (lv_at hl 1 rfl) ?_
    refine lv_iload_n hx hb dX10_twice_13 rfl (lv_at hl 3 rfl) ?_
    refine kX10_isSeat_X10_137 C hW (Nat.le_trans (by decide) hRf) (Nat.le_trans (by decide) hRl) hl.1 (Nat.le_of_ble_eq_true rfl) dX10_twice_14 hq (fun r_5 σ_4 H locs hq hW => ?_)
    refine lv_if_ne (tgt := 23) hx hb dX10_twice_17 (by decide) (fun h => ?_) (fun h => ?_)
    · replace hq := br_neg h hq
      refine lv_iload_n hx hb dX10_twice_23 rfl (lv_at hl 4 rfl) ?_
      refine lv_iconst (v := 1) hx hb dX10_twice_24 (by decide) ?_
      refine lv_bipush (v := 60) hx hb dX10_twice_25 (by decide) ?_
      refine kX10_isWithin_X10_102 C hW (Nat.le_trans (by decide) hRf) (Nat.le_trans (by decide) hRl) hl.1 (Nat.le_of_ble_eq_true rfl) dX10_twice_27 hq (fun r_7 σ_6 H locs hq hW => ?_)
      refine lv_if_eq (tgt := 45) hx hb dX10_twice_30 (by decide) (fun h => ?_) (fun h => ?_)
      · replace hq := br_pos h hq
        refine lv_bipush (v := (-102)) hx hb dX10_twice_45 (by decide) ?_
        exact hret _ _ _ _ _ _ dX10_twice_47 hW hq
      · replace hq := br_neg h hq
        refine lv_iload hx hb dX10_twice_33 (lv_at hl 5 rfl) ?_
        refine lv_iconst (v := 0) hx hb dX10_twice_35 (by decide) ?_
        refine lv_sipush (v := 495) hx hb dX10_twice_36 (by decide) ?_
        refine kX10_isWithin_X10_102 C hW (Nat.le_trans (by decide) hRf) (Nat.le_trans (by decide) hRl) hl.1 (Nat.le_of_ble_eq_true rfl) dX10_twice_39 hq (fun r_9 σ_8 H locs hq hW => ?_)
        refine lv_if_ne (tgt := 48) hx hb dX10_twice_42 (by decide) (fun h => ?_) (fun h => ?_)
        · replace hq := br_neg h hq
          refine lv_aload_n hx hb dX10_twice_48 rfl (lv_at hl 1 rfl) ?_
          refine lv_iconst (v := (-1)) hx hb dX10_twice_49 (by decide) ?_
          refine lv_aload hx hb dX10_twice_50 (lv_at hl 0 rfl) ?_
          refine lv_iload_n hx hb dX10_twice_52 rfl (lv_at hl 3 rfl) ?_
          refine lv_iload_n hx hb dX10_twice_53 rfl (lv_at hl 4 rfl) ?_
          refine kX10_leftIf_X10_228 C hW (Nat.le_trans (by decide) hRf) (Nat.le_trans (by decide) hRl) hl.1 (Nat.le_of_ble_eq_true rfl) dX10_twice_54 hq (fun r_11 σ_10 H locs hq hW => ?_)
          refine lv_iload hx hb dX10_twice_57 (lv_at hl 5 rfl) ?_
          refine (fun (K : ∀ v_12 : Int32, v_12 = ((if r_11 = x4 then 1024 else 0) : Int32) → W p l e R s m args below meth c H locs 0 0 Q (F0 m 69 ls (.int v_12 :: []))) => ?_) ?_
          · refine lv_icmp_ne (tgt := 68) hx hb dX10_twice_59 (by decide) (fun h59 => ?_) (fun h59 => ?_)
            · refine lv_iconst (v := 0) hx hb dX10_twice_68 (by decide) ?_
              exact K _ (by rw [if_neg h59])
            · refine lv_sipush (v := 1024) hx hb dX10_twice_62 (by decide) ?_
              refine lv_goto (tgt := 69) hx hb dX10_twice_65 (by decide) ?_
              exact K _ (by rw [if_pos h59])
          intro v_12 ev_12
          replace hq := hq _ ev_12
          refine lv_istore (lv' := [(6, .int v_12), (5, .ref (vA g v_3)), (0, .ref (g.2.1 0)), (1, .int x1), (2, .int x2), (3, .int x3), (4, .int x4)]) hx hb dX10_twice_69 hl (by decide) rfl (fun ls hl => ?_)
          refine lv_iconst (v := 0) hx hb dX10_twice_71 (by decide) ?_
          refine lv_istore (lv' := [(7, .int 0), (6, .int v_12), (5, .ref (vA g v_3)), (0, .ref (g.2.1 0)), (1, .int x1), (2, .int x2), (3, .int x3), (4, .int x4)]) hx hb dX10_twice_72 hl (by decide) rfl (fun ls hl => ?_)
          obtain ⟨f74, hq⟩ := hq
          exact wX10_twice_L74 C hRf hRl hret f74 _ _ _ _ _ _ _ _ _ _ hW (lv_sub hl [3, 5, 6, 7, 2, 1, 0] rfl) hq
        · replace hq := br_pos h hq
          refine lv_bipush (v := (-102)) hx hb dX10_twice_45 (by decide) ?_
          exact hret _ _ _ _ _ _ dX10_twice_47 hW hq
    · replace hq := br_pos h hq
      refine lv_bipush (v := (-101)) hx hb dX10_twice_20 (by decide) ?_
      exact hret _ _ _ _ _ _ dX10_twice_22 hW hq
set_option maxHeartbeats 4000000 in
set_option maxRecDepth 100000 in
theorem mX10_twice {l : Launch} {g : XG} {σ : XS} {x1 : Int32} {x2 : Int32} {x3 : Int32} {x4 : Int32} {P : Int32 → XS → Prop} (hq : qX10_twice g σ x1 x2 x3 x4 P) (sz : Nat) : Met l yX10_twice (cws yX10_twice cX10_twice 8 (some .int)) ({ frames := 8, cells := 0, slots := 0, locals := 189 } : Room) (va_Pc [.ref (g.2.1 0), .int x1, .int x2, .int x3, .int x4] (WP g.1 (xw g) (xty g) σ sz)) (va_Qi P (WB g.1 (xw g) (xty g) σ sz) (va_A (xw g σ) sz)) 0 0 (va_A (xw g σ) sz) :=
  w_enter (by decide) (Nat.le_of_ble_eq_true rfl) (fun p e s m args below meth c ls C hr hk hn hs hW hl => wX10_twice C (Nat.le_refl _) (Nat.le_refl _) (fun pc ls v σ H locs hd hW hq => w_iret C hs hr hk hW hd hq) hW hl hq)
-- X10_image
set_option maxHeartbeats 4000000 in
set_option maxRecDepth 100000 in
theorem wX10_image (C : CallFix p m c cX10_image 1 s args lwg RX10) (hRf : 2 ≤ R.frames) (hRl : 83 ≤ R.locals) {P : Int32 → XS → Prop} (hret : RetI g.1 (xw g) (xty g) A p l e R s m args below meth c 0 0 Q cX10_image P) {σ : XS} {H : Heap} {locs : List Loc} {ls : Array Slot} (hW : WI g.1 (xw g) (xty g) A s σ H locs) (hl : lv_has ls 1 [(0, .ref (g.2.1 0))]) (hq : qX10_image g σ  P) : W p l e R s m args below meth c H locs 0 0 Q (F0 m 0 ls []) := by
  have hx := C.1
  have hb := C.2.1
  unfold qX10_image at hq
  refine lv_aload_n hx hb dX10_image_0 rfl (lv_at hl 0 rfl) ?_
  refine lv_aload_n hx hb dX10_image_1 rfl (lv_at hl 0 rfl) ?_
  refine xg_X10_12 C hW dX10_image_2 ?_
  refine xsiz_H_X10_81 C hW (Nat.le_trans (by decide) hRf) (Nat.le_trans (by decide) hRl) hl.1 (Nat.le_of_ble_eq_true rfl) dX10_image_5 (fun H locs hW => ?_)
  refine xp_X10_38 C hW dX10_image_8 (fun σ_1 H locs eσ_1 hW => ?_)
  replace hq := hq _ eσ_1
  refine lv_aload_n hx hb dX10_image_11 rfl (lv_at hl 0 rfl) ?_
  refine xg_X10_35 C hW dX10_image_12 ?_
  refine lv_aload_n hx hb dX10_image_15 rfl (lv_at hl 0 rfl) ?_
  refine xg_X10_31 C hW dX10_image_16 ?_
  refine lv_aload_n hx hb dX10_image_19 rfl (lv_at hl 0 rfl) ?_
  refine xg_X10_38 C hW dX10_image_20 ?_
  refine kX8_becomeLike_X10_232 C hW (Nat.le_trans (by decide) hRf) (Nat.le_trans (by decide) hRl) hl.1 (Nat.le_of_ble_eq_true rfl) dX10_image_23 hq (fun σ_2 H locs hq hW => ?_)
  refine lv_aload_n hx hb dX10_image_26 rfl (lv_at hl 0 rfl) ?_
  refine xg_X10_38 C hW dX10_image_27 ?_
  exact hret _ _ _ _ _ _ dX10_image_30 hW hq
set_option maxHeartbeats 4000000 in
set_option maxRecDepth 100000 in
theorem mX10_image {l : Launch} {g : XG} {σ : XS} {P : Int32 → XS → Prop} (hq : qX10_image g σ  P) (sz : Nat) : Met l yX10_image (cws yX10_image cX10_image 1 (some .int)) ({ frames := 2, cells := 0, slots := 0, locals := 83 } : Room) (va_Pc [.ref (g.2.1 0)] (WP g.1 (xw g) (xty g) σ sz)) (va_Qi P (WB g.1 (xw g) (xty g) σ sz) (va_A (xw g σ) sz)) 0 0 (va_A (xw g σ) sz) :=
  w_enter (by decide) (Nat.le_of_ble_eq_true rfl) (fun p e s m args below meth c ls C hr hk hn hs hW hl => wX10_image C (Nat.le_refl _) (Nat.le_refl _) (fun pc ls v σ H locs hd hW hq => w_iret C hs hr hk hW hd hq) hW hl hq)
-- X10_restore
set_option maxHeartbeats 4000000 in
set_option maxRecDepth 100000 in
theorem wX10_restore (C : CallFix p m c cX10_restore 1 s args lwg RX10) (hRf : 2 ≤ R.frames) (hRl : 83 ≤ R.locals) {P : Int32 → XS → Prop} (hret : RetI g.1 (xw g) (xty g) A p l e R s m args below meth c 0 0 Q cX10_restore P) {σ : XS} {H : Heap} {locs : List Loc} {ls : Array Slot} (hW : WI g.1 (xw g) (xty g) A s σ H locs) (hl : lv_has ls 1 [(0, .ref (g.2.1 0))]) (hq : qX10_restore g σ  P) : W p l e R s m args below meth c H locs 0 0 Q (F0 m 0 ls []) := by
  have hx := C.1
  have hb := C.2.1
  unfold qX10_restore at hq
  refine lv_aload_n hx hb dX10_restore_0 rfl (lv_at hl 0 rfl) ?_
  refine xg_X10_38 C hW dX10_restore_1 ?_
  refine lv_if_ge (tgt := 10) hx hb dX10_restore_4 (by decide) (fun h => ?_) (fun h => ?_)
  · replace hq := br_pos h hq
    refine lv_aload_n hx hb dX10_restore_10 rfl (lv_at hl 0 rfl) ?_
    refine xg_X10_31 C hW dX10_restore_11 ?_
    refine lv_aload_n hx hb dX10_restore_14 rfl (lv_at hl 0 rfl) ?_
    refine xg_X10_35 C hW dX10_restore_15 ?_
    refine lv_aload_n hx hb dX10_restore_18 rfl (lv_at hl 0 rfl) ?_
    refine xg_X10_38 C hW dX10_restore_19 ?_
    refine kX8_becomeLike_X10_232 C hW (Nat.le_trans (by decide) hRf) (Nat.le_trans (by decide) hRl) hl.1 (Nat.le_of_ble_eq_true rfl) dX10_restore_22 hq (fun σ_1 H locs hq hW => ?_)
    refine lv_aload_n hx hb dX10_restore_25 rfl (lv_at hl 0 rfl) ?_
    refine xg_X10_12 C hW dX10_restore_26 ?_
    refine xsiz_H_X10_81 C hW (Nat.le_trans (by decide) hRf) (Nat.le_trans (by decide) hRl) hl.1 (Nat.le_of_ble_eq_true rfl) dX10_restore_29 (fun H locs hW => ?_)
    exact hret _ _ _ _ _ _ dX10_restore_32 hW hq
  · replace hq := br_neg h hq
    refine lv_bipush (v := (-103)) hx hb dX10_restore_7 (by decide) ?_
    exact hret _ _ _ _ _ _ dX10_restore_9 hW hq
set_option maxHeartbeats 4000000 in
set_option maxRecDepth 100000 in
theorem mX10_restore {l : Launch} {g : XG} {σ : XS} {P : Int32 → XS → Prop} (hq : qX10_restore g σ  P) (sz : Nat) : Met l yX10_restore (cws yX10_restore cX10_restore 1 (some .int)) ({ frames := 2, cells := 0, slots := 0, locals := 83 } : Room) (va_Pc [.ref (g.2.1 0)] (WP g.1 (xw g) (xty g) σ sz)) (va_Qi P (WB g.1 (xw g) (xty g) σ sz) (va_A (xw g σ) sz)) 0 0 (va_A (xw g σ) sz) :=
  w_enter (by decide) (Nat.le_of_ble_eq_true rfl) (fun p e s m args below meth c ls C hr hk hn hs hW hl => wX10_restore C (Nat.le_refl _) (Nat.le_refl _) (fun pc ls v σ H locs hd hW hq => w_iret C hs hr hk hW hd hq) hW hl hq)
-- X10_counted
set_option maxHeartbeats 4000000 in
set_option maxRecDepth 100000 in
theorem wX10_counted (C : CallFix p m c cX10_counted 2 s args lwg RX10) (hRf : 2 ≤ R.frames) (hRl : 43 ≤ R.locals) {P : Int32 → XS → Prop} (hret : RetI g.1 (xw g) (xty g) A p l e R s m args below meth c 0 0 Q cX10_counted P) {σ : XS} {x1 : Int32} {H : Heap} {locs : List Loc} {ls : Array Slot} (hW : WI g.1 (xw g) (xty g) A s σ H locs) (hl : lv_has ls 2 [(0, .ref (g.2.1 0)), (1, .int x1)]) (hq : qX10_counted g σ x1 P) : W p l e R s m args below meth c H locs 0 0 Q (F0 m 0 ls []) := by
  have hx := C.1
  have hb := C.2.1
  unfold qX10_counted at hq
  refine lv_iload_n hx hb dX10_counted_0 rfl (lv_at hl 1 rfl) ?_
  by_cases h1_0 : x1 = 0
  · replace hq := br_pos h1_0 hq
    refine lv_tableIn (off := 39) (tgt := 40) hx hb dX10_counted_1 (by rw [h1_0]; decide) (by rw [h1_0]; decide) (by rw [h1_0]; decide) (by decide) ?_
    refine lv_aload_n hx hb dX10_counted_40 rfl (lv_at hl 0 rfl) ?_
    refine xg_X10_12 C hW dX10_counted_41 ?_
    refine xsiz_H_X10_81 C hW (Nat.le_trans (by decide) hRf) (Nat.le_trans (by decide) hRl) hl.1 (Nat.le_of_ble_eq_true rfl) dX10_counted_44 (fun H locs hW => ?_)
    refine lv_goto (tgt := 110) hx hb dX10_counted_47 (by decide) ?_
    exact hret _ _ _ _ _ _ dX10_counted_110 hW hq
  · replace hq := br_neg h1_0 hq
    by_cases h1_1 : x1 = 1
    · replace hq := br_pos h1_1 hq
      refine lv_tableIn (off := 49) (tgt := 50) hx hb dX10_counted_1 (by rw [h1_1]; decide) (by rw [h1_1]; decide) (by rw [h1_1]; decide) (by decide) ?_
      refine lv_aload_n hx hb dX10_counted_50 rfl (lv_at hl 0 rfl) ?_
      refine xg_X10_16 C hW dX10_counted_51 ?_
      refine xsiz_V_X10_81 C hW (Nat.le_trans (by decide) hRf) (Nat.le_trans (by decide) hRl) hl.1 (Nat.le_of_ble_eq_true rfl) dX10_counted_54 (fun H locs hW => ?_)
      refine lv_goto (tgt := 110) hx hb dX10_counted_57 (by decide) ?_
      exact hret _ _ _ _ _ _ dX10_counted_110 hW hq
    · replace hq := br_neg h1_1 hq
      by_cases h1_2 : x1 = 2
      · replace hq := br_pos h1_2 hq
        refine lv_tableIn (off := 59) (tgt := 60) hx hb dX10_counted_1 (by rw [h1_2]; decide) (by rw [h1_2]; decide) (by rw [h1_2]; decide) (by decide) ?_
        refine lv_aload_n hx hb dX10_counted_60 rfl (lv_at hl 0 rfl) ?_
        refine xg_X10_31 C hW dX10_counted_61 ?_
        refine kX8_soupInAll_X10_285 C hW (Nat.le_trans (by decide) hRf) (Nat.le_trans (by decide) hRl) hl.1 (Nat.le_of_ble_eq_true rfl) dX10_counted_64 hq (fun r_2 σ_1 H locs hq hW => ?_)
        refine lv_goto (tgt := 110) hx hb dX10_counted_67 (by decide) ?_
        exact hret _ _ _ _ _ _ dX10_counted_110 hW hq
      · replace hq := br_neg h1_2 hq
        by_cases h1_3 : x1 = 3
        · replace hq := br_pos h1_3 hq
          refine lv_tableIn (off := 69) (tgt := 70) hx hb dX10_counted_1 (by rw [h1_3]; decide) (by rw [h1_3]; decide) (by rw [h1_3]; decide) (by decide) ?_
          refine lv_aload_n hx hb dX10_counted_70 rfl (lv_at hl 0 rfl) ?_
          refine xg_X10_31 C hW dX10_counted_71 ?_
          refine xg_X10_150 C hW dX10_counted_74 ?_
          refine lv_goto (tgt := 110) hx hb dX10_counted_77 (by decide) ?_
          exact hret _ _ _ _ _ _ dX10_counted_110 hW hq
        · replace hq := br_neg h1_3 hq
          by_cases h1_4 : x1 = 4
          · replace hq := br_pos h1_4 hq
            refine lv_tableIn (off := 79) (tgt := 80) hx hb dX10_counted_1 (by rw [h1_4]; decide) (by rw [h1_4]; decide) (by rw [h1_4]; decide) (by decide) ?_
            refine lv_aload_n hx hb dX10_counted_80 rfl (lv_at hl 0 rfl) ?_
            refine xg_X10_31 C hW dX10_counted_81 ?_
            refine xg_X10_153 C hW dX10_counted_84 ?_
            refine kX10_asNumber_X10_156 C hW (Nat.le_trans (by decide) hRf) (Nat.le_trans (by decide) hRl) hl.1 (Nat.le_of_ble_eq_true rfl) dX10_counted_87 hq (fun r_4 σ_3 H locs hq hW => ?_)
            refine lv_goto (tgt := 110) hx hb dX10_counted_90 (by decide) ?_
            exact hret _ _ _ _ _ _ dX10_counted_110 hW hq
          · replace hq := br_neg h1_4 hq
            by_cases h1_5 : x1 = 5
            · replace hq := br_pos h1_5 hq
              refine lv_tableIn (off := 92) (tgt := 93) hx hb dX10_counted_1 (by rw [h1_5]; decide) (by rw [h1_5]; decide) (by rw [h1_5]; decide) (by decide) ?_
              refine lv_aload_n hx hb dX10_counted_93 rfl (lv_at hl 0 rfl) ?_
              refine xg_X10_31 C hW dX10_counted_94 ?_
              refine kX8_starvedInAll_X10_288 C hW (Nat.le_trans (by decide) hRf) (Nat.le_trans (by decide) hRl) hl.1 (Nat.le_of_ble_eq_true rfl) dX10_counted_97 hq (fun r_6 σ_5 H locs hq hW => ?_)
              refine lv_goto (tgt := 110) hx hb dX10_counted_100 (by decide) ?_
              exact hret _ _ _ _ _ _ dX10_counted_110 hW hq
            · replace hq := br_neg h1_5 hq
              refine lv_tableOut (tgt := 103) hx hb dX10_counted_1 (ne_out6 h1_0 h1_1 h1_2 h1_3 h1_4 h1_5) (by decide) ?_
              refine lv_aload_n hx hb dX10_counted_103 rfl (lv_at hl 0 rfl) ?_
              refine xg_X10_22 C hW dX10_counted_104 ?_
              refine xg_X10_64 C hW dX10_counted_107 ?_
              exact hret _ _ _ _ _ _ dX10_counted_110 hW hq
set_option maxHeartbeats 4000000 in
set_option maxRecDepth 100000 in
theorem mX10_counted {l : Launch} {g : XG} {σ : XS} {x1 : Int32} {P : Int32 → XS → Prop} (hq : qX10_counted g σ x1 P) (sz : Nat) : Met l yX10_counted (cws yX10_counted cX10_counted 2 (some .int)) ({ frames := 2, cells := 0, slots := 0, locals := 43 } : Room) (va_Pc [.ref (g.2.1 0), .int x1] (WP g.1 (xw g) (xty g) σ sz)) (va_Qi P (WB g.1 (xw g) (xty g) σ sz) (va_A (xw g σ) sz)) 0 0 (va_A (xw g σ) sz) :=
  w_enter (by decide) (Nat.le_of_ble_eq_true rfl) (fun p e s m args below meth c ls C hr hk hn hs hW hl => wX10_counted C (Nat.le_refl _) (Nat.le_refl _) (fun pc ls v σ H locs hd hW hq => w_iret C hs hr hk hW hd hq) hW hl hq)
set_option maxHeartbeats 4000000 in
set_option maxRecDepth 100000 in
theorem kX10_counted_X10_236 (C : CallFix p m c cc nL s args lwg RX10) {σ : XS} (hW : WI g.1 (xw g) (xty g) A s σ H locs) (hRf : 3 ≤ R.frames) (hRl : 64 ≤ R.locals) (hls : ls.size = nL) (hro : (rest.map fun v => v.category).sum ≤ 8) {x1 : Int32} (hd : decode cc pc = .ok (.invokevirtual 236, 3)) {P : Int32 → XS → Prop} (hq : qX10_counted g σ x1 P) (kk : ∀ (r : Int32) (σ1 : XS) (H : Heap) (locs : List Loc), P r σ1 → WI g.1 (xw g) (xty g) A s σ1 H locs → W p l e R s m args below meth c H locs 0 0 Q (F0 m (pc + 3) ls (.int r :: rest))) : W p l e R s m args below meth c H locs 0 0 Q (F0 m pc ls (.int x1 :: .ref (g.2.1 0) :: rest)) :=
  w_calli hW (w_runV C hW (mX10_counted hq _) ⟨(lwg_at 890 (by decide +kernel) rfl), (lwg_at 66 (by decide +kernel) rfl), (lwg_at 887 (by decide +kernel) rfl)⟩ (lwg_at 889 (by decide +kernel) rfl) (lwg_at 23 (by decide +kernel) rfl) (np := 1) (by decide +kernel) ⟨rfl, rfl⟩ ⟨hRf, hRl⟩ (ci := 11) rfl rfl (q0 := 0) rfl rfl hls rfl hro hd ⟨Nat.zero_le _, Nat.zero_le _⟩) kk
-- X10_count
set_option maxHeartbeats 4000000 in
set_option maxRecDepth 100000 in
theorem wX10_count (C : CallFix p m c cX10_count 2 s args lwg RX10) (hRf : 3 ≤ R.frames) (hRl : 64 ≤ R.locals) {P : Int32 → XS → Prop} (hret : RetI g.1 (xw g) (xty g) A p l e R s m args below meth c 0 0 Q cX10_count P) {σ : XS} {x1 : Int32} {H : Heap} {locs : List Loc} {ls : Array Slot} (hW : WI g.1 (xw g) (xty g) A s σ H locs) (hl : lv_has ls 2 [(0, .ref (g.2.1 0)), (1, .int x1)]) (hq : qX10_count g σ x1 P) : W p l e R s m args below meth c H locs 0 0 Q (F0 m 0 ls []) := by
  have hx := C.1
  have hb := C.2.1
  unfold qX10_count at hq
  refine lv_iload_n hx hb dX10_count_0 rfl (lv_at hl 1 rfl) ?_
  refine lv_iconst (v := 0) hx hb dX10_count_1 (by decide) ?_
  refine lv_bipush (v := 6) hx hb dX10_count_2 (by decide) ?_
  refine kX10_isWithin_X10_102 C hW (Nat.le_trans (by decide) hRf) (Nat.le_trans (by decide) hRl) hl.1 (Nat.le_of_ble_eq_true rfl) dX10_count_4 hq (fun r_2 σ_1 H locs hq hW => ?_)
  refine lv_if_eq (tgt := 18) hx hb dX10_count_7 (by decide) (fun h => ?_) (fun h => ?_)
  · replace hq := br_pos h hq
    refine lv_bipush (v := (-102)) hx hb dX10_count_18 (by decide) ?_
    exact hret _ _ _ _ _ _ dX10_count_20 hW hq
  · replace hq := br_neg h hq
    refine lv_aload_n hx hb dX10_count_10 rfl (lv_at hl 0 rfl) ?_
    refine lv_iload_n hx hb dX10_count_11 rfl (lv_at hl 1 rfl) ?_
    refine kX10_counted_X10_236 C hW (Nat.le_trans (by decide) hRf) (Nat.le_trans (by decide) hRl) hl.1 (Nat.le_of_ble_eq_true rfl) dX10_count_12 hq (fun r_4 σ_3 H locs hq hW => ?_)
    refine lv_goto (tgt := 20) hx hb dX10_count_15 (by decide) ?_
    exact hret _ _ _ _ _ _ dX10_count_20 hW hq
set_option maxHeartbeats 4000000 in
set_option maxRecDepth 100000 in
theorem mX10_count {l : Launch} {g : XG} {σ : XS} {x1 : Int32} {P : Int32 → XS → Prop} (hq : qX10_count g σ x1 P) (sz : Nat) : Met l yX10_count (cws yX10_count cX10_count 2 (some .int)) ({ frames := 3, cells := 0, slots := 0, locals := 64 } : Room) (va_Pc [.ref (g.2.1 0), .int x1] (WP g.1 (xw g) (xty g) σ sz)) (va_Qi P (WB g.1 (xw g) (xty g) σ sz) (va_A (xw g σ) sz)) 0 0 (va_A (xw g σ) sz) :=
  w_enter (by decide) (Nat.le_of_ble_eq_true rfl) (fun p e s m args below meth c ls C hr hk hn hs hW hl => wX10_count C (Nat.le_refl _) (Nat.le_refl _) (fun pc ls v σ H locs hd hW hq => w_iret C hs hr hk hW hd hq) hW hl hq)
-- X10_vowDigested
set_option maxHeartbeats 4000000 in
set_option maxRecDepth 100000 in
theorem wX10_vowDigested_L64 (C : CallFix p m c cX10_vowDigested 7 s args lwg RX10) (hRf : 8 ≤ R.frames) (hRl : 189 ≤ R.locals) {P : Int64 → XS → Prop} (hret : RetL g.1 (xw g) (xty g) A p l e R s m args below meth c 0 0 Q cX10_vowDigested P) {e95 : XS → Int64 → Prop} (he95 : ∀ (σ : XS) (x4 : Int64) (H : Heap) (locs : List Loc) (ls : Array Slot), WI g.1 (xw g) (xty g) A s σ H locs → lv_has ls 7 [(0, .ref (g.2.1 0)), (4, .long x4)] → e95 σ x4 → W p l e R s m args below meth c H locs 0 0 Q (F0 m 95 ls [])) : ∀ (n : Nat) (σ : XS) (x4 : Int64) (x6 : Int32) (H : Heap) (locs : List Loc) (ls : Array Slot), WI g.1 (xw g) (xty g) A s σ H locs → lv_has ls 7 [(0, .ref (g.2.1 0)), (4, .long x4), (6, .int x6)] → qX10_vowDigested_L64 g e95 P n σ x4 x6 → W p l e R s m args below meth c H locs 0 0 Q (F0 m 64 ls []) := by
  have hx := C.1
  have hb := C.2.1
  intro n
  induction n with
  | zero =>
    intro σ x4 x6 H locs ls hW hl hq
    rw [qX10_vowDigested_L64] at hq
    exact hq.elim
  | succ n ih =>
    intro σ x4 x6 H locs ls hW hl hq
    rw [qX10_vowDigested_L64] at hq
    refine lv_iload hx hb dX10_vowDigested_64 (lv_at hl 2 rfl) ?_
    refine lv_iconst (v := 5) hx hb dX10_vowDigested_66 (by decide) ?_
    refine lv_icmp_gt (tgt := 95) hx hb dX10_vowDigested_67 (by decide) (fun h => ?_) (fun h => ?_)
    · replace hq := br_pos h hq
      exact he95 _ _ _ _ _ hW (lv_sub hl [0, 1] rfl) hq
    · replace hq := br_neg h hq
      refine lv_ldc2 (own := RX10) (v := 31) hx hb C.2.2.2.1 (C.2.2.2.2 _ (lwg_at 898 (by decide +kernel) rfl)) dX10_vowDigested_70 ?_
      refine lv_lload hx hb dX10_vowDigested_73 (lv_at hl 1 rfl) ?_
      refine lv_lmul hx hb dX10_vowDigested_75 ?_
      refine lv_aload_n hx hb dX10_vowDigested_76 rfl (lv_at hl 0 rfl) ?_
      refine xg_X10_47 C hW dX10_vowDigested_77 ?_
      refine lv_iload hx hb dX10_vowDigested_80 (lv_at hl 2 rfl) ?_
      refine kX6_told_X10_167 C hW (Nat.le_trans (by decide) hRf) (Nat.le_trans (by decide) hRl) hl.1 (Nat.le_of_ble_eq_true rfl) dX10_vowDigested_82 hq (fun r_2 σ_1 H locs hq hW => ?_)
      refine lv_i2l hx hb dX10_vowDigested_85 rfl ?_
      refine lv_ladd hx hb dX10_vowDigested_86 ?_
      refine lv_topl (fun x4_3 ex4_3 => ?_)
      replace hq := hq _ ex4_3
      refine lv_lstore (lv' := [(4, .long x4_3), (0, .ref (g.2.1 0)), (6, .int x6)]) hx hb dX10_vowDigested_87 hl (by decide) rfl (fun ls hl => ?_)
      obtain ⟨x6_4, ex6_4⟩ : ∃ y : Int32, y = x6 + 1 := ⟨_, rfl⟩
      replace hq := hq _ ex6_4
      refine lv_iinc (v := x6_4) (lv' := [(6, .int x6_4), (4, .long x4_3), (0, .ref (g.2.1 0))]) hx hb dX10_vowDigested_89 hl (k := 2) rfl (by rw [ex6_4]; rfl) (by decide) rfl (fun ls hl => ?_)
      refine lv_goto (tgt := 64) hx hb dX10_vowDigested_92 (by decide) ?_
      exact ih _ _ _ _ _ _ hW (lv_sub hl [2, 1, 0] rfl) hq
set_option maxHeartbeats 4000000 in
set_option maxRecDepth 100000 in
theorem wX10_vowDigested_L6 (C : CallFix p m c cX10_vowDigested 7 s args lwg RX10) (hRf : 8 ≤ R.frames) (hRl : 189 ≤ R.locals) {P : Int64 → XS → Prop} (hret : RetL g.1 (xw g) (xty g) A p l e R s m args below meth c 0 0 Q cX10_vowDigested P) {e34 : XS → Fin (nV g) → Int64 → Prop} (he34 : ∀ (σ : XS) (x3 : Fin (nV g)) (x4 : Int64) (H : Heap) (locs : List Loc) (ls : Array Slot), WI g.1 (xw g) (xty g) A s σ H locs → lv_has ls 7 [(0, .ref (g.2.1 0)), (3, .ref (vA g x3)), (4, .long x4)] → e34 σ x3 x4 → W p l e R s m args below meth c H locs 0 0 Q (F0 m 34 ls [])) : ∀ (n : Nat) (σ : XS) (x3 : Fin (nV g)) (x4 : Int64) (x6 : Int32) (H : Heap) (locs : List Loc) (ls : Array Slot), WI g.1 (xw g) (xty g) A s σ H locs → lv_has ls 7 [(0, .ref (g.2.1 0)), (3, .ref (vA g x3)), (4, .long x4), (6, .int x6)] → qX10_vowDigested_L6 g e34 P n σ x3 x4 x6 → W p l e R s m args below meth c H locs 0 0 Q (F0 m 6 ls []) := by
  have hx := C.1
  have hb := C.2.1
  intro n
  induction n with
  | zero =>
    intro σ x3 x4 x6 H locs ls hW hl hq
    rw [qX10_vowDigested_L6] at hq
    exact hq.elim
  | succ n ih =>
    intro σ x3 x4 x6 H locs ls hW hl hq
    rw [qX10_vowDigested_L6] at hq
    refine lv_iload hx hb dX10_vowDigested_6 (lv_at hl 3 rfl) ?_
    refine lv_iconst (v := 3) hx hb dX10_vowDigested_8 (by decide) ?_
    refine lv_icmp_gt (tgt := 34) hx hb dX10_vowDigested_9 (by decide) (fun h => ?_) (fun h => ?_)
    · replace hq := br_pos h hq
      exact he34 _ _ _ _ _ _ hW (lv_sub hl [0, 1, 2] rfl) hq
    · replace hq := br_neg h hq
      refine lv_ldc2 (own := RX10) (v := 31) hx hb C.2.2.2.1 (C.2.2.2.2 _ (lwg_at 898 (by decide +kernel) rfl)) dX10_vowDigested_12 ?_
      refine lv_lload hx hb dX10_vowDigested_15 (lv_at hl 2 rfl) ?_
      refine lv_lmul hx hb dX10_vowDigested_17 ?_
      refine lv_aload_n hx hb dX10_vowDigested_18 rfl (lv_at hl 1 rfl) ?_
      refine lv_iload hx hb dX10_vowDigested_19 (lv_at hl 3 rfl) ?_
      refine kX9_told_X10_98 C hW (Nat.le_trans (by decide) hRf) (Nat.le_trans (by decide) hRl) hl.1 (Nat.le_of_ble_eq_true rfl) dX10_vowDigested_21 hq (fun r_2 σ_1 H locs hq hW => ?_)
      refine lv_i2l hx hb dX10_vowDigested_24 rfl ?_
      refine lv_ladd hx hb dX10_vowDigested_25 ?_
      refine lv_topl (fun x4_3 ex4_3 => ?_)
      replace hq := hq _ ex4_3
      refine lv_lstore (lv' := [(4, .long x4_3), (0, .ref (g.2.1 0)), (3, .ref (vA g x3)), (6, .int x6)]) hx hb dX10_vowDigested_26 hl (by decide) rfl (fun ls hl => ?_)
      obtain ⟨x6_4, ex6_4⟩ : ∃ y : Int32, y = x6 + 1 := ⟨_, rfl⟩
      replace hq := hq _ ex6_4
      refine lv_iinc (v := x6_4) (lv' := [(6, .int x6_4), (4, .long x4_3), (0, .ref (g.2.1 0)), (3, .ref (vA g x3))]) hx hb dX10_vowDigested_28 hl (k := 3) rfl (by rw [ex6_4]; rfl) (by decide) rfl (fun ls hl => ?_)
      refine lv_goto (tgt := 6) hx hb dX10_vowDigested_31 (by decide) ?_
      exact ih _ _ _ _ _ _ _ hW (lv_sub hl [2, 3, 1, 0] rfl) hq
set_option maxHeartbeats 4000000 in
set_option maxRecDepth 100000 in
theorem wX10_vowDigested (C : CallFix p m c cX10_vowDigested 7 s args lwg RX10) (hRf : 8 ≤ R.frames) (hRl : 189 ≤ R.locals) {P : Int64 → XS → Prop} (hret : RetL g.1 (xw g) (xty g) A p l e R s m args below meth c 0 0 Q cX10_vowDigested P) {σ : XS} {x1 : Int64} {x3 : Fin (nV g)} {H : Heap} {locs : List Loc} {ls : Array Slot} (hW : WI g.1 (xw g) (xty g) A s σ H locs) (hl : lv_has ls 7 [(0, .ref (g.2.1 0)), (1, .long x1), (3, .ref (vA g x3))]) (hq : qX10_vowDigested g σ x1 x3 P) : W p l e R s m args below meth c H locs 0 0 Q (F0 m 0 ls []) := by
  have hx := C.1
  have hb := C.2.1
  unfold qX10_vowDigested at hq
  refine lv_lload_n hx hb dX10_vowDigested_0 rfl (lv_at hl 1 rfl) ?_
  refine lv_lstore (lv' := [(4, .long x1), (0, .ref (g.2.1 0)), (1, .long x1), (3, .ref (vA g x3))]) hx hb dX10_vowDigested_1 hl (by decide) rfl (fun ls hl => ?_)
  refine lv_iconst (v := 0) hx hb dX10_vowDigested_3 (by decide) ?_
  refine lv_istore (lv' := [(6, .int 0), (4, .long x1), (0, .ref (g.2.1 0)), (1, .long x1), (3, .ref (vA g x3))]) hx hb dX10_vowDigested_4 hl (by decide) rfl (fun ls hl => ?_)
  obtain ⟨f6, hq⟩ := hq
  refine wX10_vowDigested_L6 C hRf hRl hret ?_ f6 _ _ _ _ _ _ _ hW (lv_sub hl [2, 4, 1, 0] rfl) hq
  · intro σ_3 x3_1 x4_2 H locs ls hW hl hq
    refine lv_aload_n hx hb dX10_vowDigested_34 rfl (lv_at hl 0 rfl) ?_
    refine xg_X10_12 C hW dX10_vowDigested_35 ?_
    refine xemp_H_X10_194 C hW (Nat.le_trans (by decide) hRf) (Nat.le_trans (by decide) hRl) hl.1 (Nat.le_of_ble_eq_true rfl) dX10_vowDigested_38 (fun H locs hW => ?_)
    refine lv_topi (fun v_4 ev_4 => ?_)
    replace hq := hq _ ev_4
    refine lv_if_eq (tgt := 47) hx hb dX10_vowDigested_41 (by decide) (fun h => ?_) (fun h => ?_)
    · replace hq := br_pos h hq
      refine lv_aload_n hx hb dX10_vowDigested_47 rfl (lv_at hl 0 rfl) ?_
      refine xg_X10_47 C hW dX10_vowDigested_48 ?_
      refine lv_aload_n hx hb dX10_vowDigested_51 rfl (lv_at hl 0 rfl) ?_
      refine xg_X10_31 C hW dX10_vowDigested_52 ?_
      refine lv_aload_n hx hb dX10_vowDigested_55 rfl (lv_at hl 1 rfl) ?_
      refine lv_iconst (v := 0) hx hb dX10_vowDigested_56 (by decide) ?_
      refine lv_iconst (v := 0) hx hb dX10_vowDigested_57 (by decide) ?_
      refine kX6_wholeDay_X10_163 C hW (Nat.le_trans (by decide) hRf) (Nat.le_trans (by decide) hRl) hl.1 (Nat.le_of_ble_eq_true rfl) dX10_vowDigested_58 hq (fun σ_5 H locs hq hW => ?_)
      refine lv_iconst (v := 0) hx hb dX10_vowDigested_61 (by decide) ?_
      refine lv_istore (lv' := [(6, .int 0), (0, .ref (g.2.1 0)), (3, .ref (vA g x3_1)), (4, .long x4_2)]) hx hb dX10_vowDigested_62 hl (by decide) rfl (fun ls hl => ?_)
      obtain ⟨f64, hq⟩ := hq
      refine wX10_vowDigested_L64 C hRf hRl hret ?_ f64 _ _ _ _ _ _ hW (lv_sub hl [1, 3, 0] rfl) hq
      · intro σ_7 x4_6 H locs ls hW hl hq
        refine lv_ldc2 (own := RX10) (v := 31) hx hb C.2.2.2.1 (C.2.2.2.2 _ (lwg_at 898 (by decide +kernel) rfl)) dX10_vowDigested_95 ?_
        refine lv_lload hx hb dX10_vowDigested_98 (lv_at hl 1 rfl) ?_
        refine lv_lmul hx hb dX10_vowDigested_100 ?_
        refine lv_aload_n hx hb dX10_vowDigested_101 rfl (lv_at hl 0 rfl) ?_
        refine xg_X10_47 C hW dX10_vowDigested_102 ?_
        refine kX6_leastSurplus_X10_294 C hW (Nat.le_trans (by decide) hRf) (Nat.le_trans (by decide) hRl) hl.1 (Nat.le_of_ble_eq_true rfl) dX10_vowDigested_105 hq (fun r_9 σ_8 H locs hq hW => ?_)
        refine lv_i2l hx hb dX10_vowDigested_108 rfl ?_
        refine lv_ladd hx hb dX10_vowDigested_109 ?_
        exact hret _ _ _ _ _ _ dX10_vowDigested_110 hW hq
    · replace hq := br_neg h hq
      refine lv_lload hx hb dX10_vowDigested_44 (lv_at hl 2 rfl) ?_
      exact hret _ _ _ _ _ _ dX10_vowDigested_46 hW hq
set_option maxHeartbeats 4000000 in
set_option maxRecDepth 100000 in
theorem mX10_vowDigested {l : Launch} {g : XG} {σ : XS} {x1 : Int64} {x3 : Fin (nV g)} {P : Int64 → XS → Prop} (hq : qX10_vowDigested g σ x1 x3 P) (sz : Nat) : Met l yX10_vowDigested (cws yX10_vowDigested cX10_vowDigested 7 (some .long)) ({ frames := 8, cells := 0, slots := 0, locals := 189 } : Room) (va_Pc [.ref (g.2.1 0), .long x1, .ref (vA g x3)] (WP g.1 (xw g) (xty g) σ sz)) (va_Ql P (WB g.1 (xw g) (xty g) σ sz) (va_A (xw g σ) sz)) 0 0 (va_A (xw g σ) sz) :=
  w_enter (by decide) (Nat.le_of_ble_eq_true rfl) (fun p e s m args below meth c ls C hr hk hn hs hW hl => wX10_vowDigested C (Nat.le_refl _) (Nat.le_refl _) (fun pc ls v σ H locs hd hW hq => w_lret C hs hr hk hW hd hq) hW hl hq)
set_option maxHeartbeats 4000000 in
set_option maxRecDepth 100000 in
theorem kX10_vowDigested_X10_243 (C : CallFix p m c cc nL s args lwg RX10) {σ : XS} (hW : WI g.1 (xw g) (xty g) A s σ H locs) (hRf : 9 ≤ R.frames) (hRl : 215 ≤ R.locals) (hls : ls.size = nL) (hro : (rest.map fun v => v.category).sum ≤ 8) {x1 : Int64} {x3 : Fin (nV g)} (hd : decode cc pc = .ok (.invokevirtual 243, 3)) {P : Int64 → XS → Prop} (hq : qX10_vowDigested g σ x1 x3 P) (kk : ∀ (r : Int64) (σ1 : XS) (H : Heap) (locs : List Loc), P r σ1 → WI g.1 (xw g) (xty g) A s σ1 H locs → W p l e R s m args below meth c H locs 0 0 Q (F0 m (pc + 3) ls (.long r :: rest))) : W p l e R s m args below meth c H locs 0 0 Q (F0 m pc ls (.ref (vA g x3) :: .long x1 :: .ref (g.2.1 0) :: rest)) :=
  w_calll hW (w_runV C hW (mX10_vowDigested hq _) ⟨(lwg_at 902 (by decide +kernel) rfl), (lwg_at 66 (by decide +kernel) rfl), (lwg_at 899 (by decide +kernel) rfl)⟩ (lwg_at 901 (by decide +kernel) rfl) (lwg_at 24 (by decide +kernel) rfl) (np := 2) (by decide +kernel) ⟨rfl, rfl⟩ ⟨hRf, hRl⟩ (ci := 11) rfl rfl (q0 := 0) rfl rfl hls rfl hro hd ⟨Nat.zero_le _, Nat.zero_le _⟩) kk
-- X10_digest
set_option maxHeartbeats 4000000 in
set_option maxRecDepth 100000 in
theorem wX10_digest_L158 (C : CallFix p m c cX10_digest 5 s args lwg RX10) (hRf : 9 ≤ R.frames) (hRl : 215 ≤ R.locals) {P : Int64 → XS → Prop} (hret : RetL g.1 (xw g) (xty g) A p l e R s m args below meth c 0 0 Q cX10_digest P) : ∀ (n : Nat) (σ : XS) (x1 : Int64) (x3 : Int32) (H : Heap) (locs : List Loc) (ls : Array Slot), WI g.1 (xw g) (xty g) A s σ H locs → lv_has ls 5 [(0, .ref (g.2.1 0)), (1, .long x1), (3, .int x3)] → qX10_digest_L158 g  P n σ x1 x3 → W p l e R s m args below meth c H locs 0 0 Q (F0 m 158 ls []) := by
  have hx := C.1
  have hb := C.2.1
  intro n
  induction n with
  | zero =>
    intro σ x1 x3 H locs ls hW hl hq
    rw [qX10_digest_L158] at hq
    exact hq.elim
  | succ n ih =>
    intro σ x1 x3 H locs ls hW hl hq
    rw [qX10_digest_L158] at hq
    refine lv_iload_n hx hb dX10_digest_158 rfl (lv_at hl 2 rfl) ?_
    refine lv_bipush (v := 6) hx hb dX10_digest_159 (by decide) ?_
    refine lv_icmp_gt (tgt := 183) hx hb dX10_digest_161 (by decide) (fun h => ?_) (fun h => ?_)
    · replace hq := br_pos h hq
      refine lv_lload_n hx hb dX10_digest_183 rfl (lv_at hl 1 rfl) ?_
      exact hret _ _ _ _ _ _ dX10_digest_184 hW hq
    · replace hq := br_neg h hq
      refine lv_ldc2 (own := RX10) (v := 31) hx hb C.2.2.2.1 (C.2.2.2.2 _ (lwg_at 898 (by decide +kernel) rfl)) dX10_digest_164 ?_
      refine lv_lload_n hx hb dX10_digest_167 rfl (lv_at hl 1 rfl) ?_
      refine lv_lmul hx hb dX10_digest_168 ?_
      refine lv_aload_n hx hb dX10_digest_169 rfl (lv_at hl 0 rfl) ?_
      refine lv_iload_n hx hb dX10_digest_170 rfl (lv_at hl 2 rfl) ?_
      refine kX10_counted_X10_236 C hW (Nat.le_trans (by decide) hRf) (Nat.le_trans (by decide) hRl) hl.1 (Nat.le_of_ble_eq_true rfl) dX10_digest_171 hq (fun r_2 σ_1 H locs hq hW => ?_)
      refine lv_i2l hx hb dX10_digest_174 rfl ?_
      refine lv_ladd hx hb dX10_digest_175 ?_
      refine lv_topl (fun x1_3 ex1_3 => ?_)
      replace hq := hq _ ex1_3
      refine lv_lstore_n (lv' := [(1, .long x1_3), (0, .ref (g.2.1 0)), (3, .int x3)]) hx hb dX10_digest_176 rfl hl (by decide) rfl (fun ls hl => ?_)
      obtain ⟨x3_4, ex3_4⟩ : ∃ y : Int32, y = x3 + 1 := ⟨_, rfl⟩
      replace hq := hq _ ex3_4
      refine lv_iinc (v := x3_4) (lv' := [(3, .int x3_4), (1, .long x1_3), (0, .ref (g.2.1 0))]) hx hb dX10_digest_177 hl (k := 2) rfl (by rw [ex3_4]; rfl) (by decide) rfl (fun ls hl => ?_)
      refine lv_goto (tgt := 158) hx hb dX10_digest_180 (by decide) ?_
      exact ih _ _ _ _ _ _ hW (lv_sub hl [2, 1, 0] rfl) hq
set_option maxHeartbeats 4000000 in
set_option maxRecDepth 100000 in
theorem wX10_digest_L122 (C : CallFix p m c cX10_digest 5 s args lwg RX10) (hRf : 9 ≤ R.frames) (hRl : 215 ≤ R.locals) {P : Int64 → XS → Prop} (hret : RetL g.1 (xw g) (xty g) A p l e R s m args below meth c 0 0 Q cX10_digest P) {e156 : XS → Int64 → Prop} (he156 : ∀ (σ : XS) (x1 : Int64) (H : Heap) (locs : List Loc) (ls : Array Slot), WI g.1 (xw g) (xty g) A s σ H locs → lv_has ls 5 [(0, .ref (g.2.1 0)), (1, .long x1)] → e156 σ x1 → W p l e R s m args below meth c H locs 0 0 Q (F0 m 156 ls [])) : ∀ (n : Nat) (σ : XS) (x1 : Int64) (x3 : Int32) (H : Heap) (locs : List Loc) (ls : Array Slot), WI g.1 (xw g) (xty g) A s σ H locs → lv_has ls 5 [(0, .ref (g.2.1 0)), (1, .long x1), (3, .int x3)] → qX10_digest_L122 g e156 P n σ x1 x3 → W p l e R s m args below meth c H locs 0 0 Q (F0 m 122 ls []) := by
  have hx := C.1
  have hb := C.2.1
  intro n
  induction n with
  | zero =>
    intro σ x1 x3 H locs ls hW hl hq
    rw [qX10_digest_L122] at hq
    exact hq.elim
  | succ n ih =>
    intro σ x1 x3 H locs ls hW hl hq
    rw [qX10_digest_L122] at hq
    refine lv_iload_n hx hb dX10_digest_122 rfl (lv_at hl 2 rfl) ?_
    refine lv_aload_n hx hb dX10_digest_123 rfl (lv_at hl 0 rfl) ?_
    refine xg_X10_22 C hW dX10_digest_124 ?_
    refine xg_X10_64 C hW dX10_digest_127 ?_
    refine lv_icmp_ge (tgt := 156) hx hb dX10_digest_130 (by decide) (fun h => ?_) (fun h => ?_)
    · replace hq := br_pos h hq
      exact he156 _ _ _ _ _ hW (lv_sub hl [0, 1] rfl) hq
    · replace hq := br_neg h hq
      refine lv_ldc2 (own := RX10) (v := 31) hx hb C.2.2.2.1 (C.2.2.2.2 _ (lwg_at 898 (by decide +kernel) rfl)) dX10_digest_133 ?_
      refine lv_lload_n hx hb dX10_digest_136 rfl (lv_at hl 1 rfl) ?_
      refine lv_lmul hx hb dX10_digest_137 ?_
      refine lv_aload_n hx hb dX10_digest_138 rfl (lv_at hl 0 rfl) ?_
      refine xg_X10_22 C hW dX10_digest_139 ?_
      refine xg_X10_247 C hW dX10_digest_142 ?_
      refine lv_iload_n hx hb dX10_digest_145 rfl (lv_at hl 2 rfl) ?_
      obtain ⟨hin1, hq⟩ := hq
      refine xa_S C hW hin1 dX10_digest_146 ?_
      refine lv_i2l hx hb dX10_digest_147 rfl ?_
      refine lv_ladd hx hb dX10_digest_148 ?_
      refine lv_topl (fun x1_2 ex1_2 => ?_)
      replace hq := hq _ ex1_2
      refine lv_lstore_n (lv' := [(1, .long x1_2), (0, .ref (g.2.1 0)), (3, .int x3)]) hx hb dX10_digest_149 rfl hl (by decide) rfl (fun ls hl => ?_)
      obtain ⟨x3_3, ex3_3⟩ : ∃ y : Int32, y = x3 + 1 := ⟨_, rfl⟩
      replace hq := hq _ ex3_3
      refine lv_iinc (v := x3_3) (lv' := [(3, .int x3_3), (1, .long x1_2), (0, .ref (g.2.1 0))]) hx hb dX10_digest_150 hl (k := 2) rfl (by rw [ex3_3]; rfl) (by decide) rfl (fun ls hl => ?_)
      refine lv_goto (tgt := 122) hx hb dX10_digest_153 (by decide) ?_
      exact ih _ _ _ _ _ _ hW (lv_sub hl [2, 1, 0] rfl) hq
set_option maxHeartbeats 4000000 in
set_option maxRecDepth 100000 in
theorem wX10_digest_L86 (C : CallFix p m c cX10_digest 5 s args lwg RX10) (hRf : 9 ≤ R.frames) (hRl : 215 ≤ R.locals) {P : Int64 → XS → Prop} (hret : RetL g.1 (xw g) (xty g) A p l e R s m args below meth c 0 0 Q cX10_digest P) {e120 : XS → Int64 → Prop} (he120 : ∀ (σ : XS) (x1 : Int64) (H : Heap) (locs : List Loc) (ls : Array Slot), WI g.1 (xw g) (xty g) A s σ H locs → lv_has ls 5 [(0, .ref (g.2.1 0)), (1, .long x1)] → e120 σ x1 → W p l e R s m args below meth c H locs 0 0 Q (F0 m 120 ls [])) : ∀ (n : Nat) (σ : XS) (x1 : Int64) (x3 : Int32) (H : Heap) (locs : List Loc) (ls : Array Slot), WI g.1 (xw g) (xty g) A s σ H locs → lv_has ls 5 [(0, .ref (g.2.1 0)), (1, .long x1), (3, .int x3)] → qX10_digest_L86 g e120 P n σ x1 x3 → W p l e R s m args below meth c H locs 0 0 Q (F0 m 86 ls []) := by
  have hx := C.1
  have hb := C.2.1
  intro n
  induction n with
  | zero =>
    intro σ x1 x3 H locs ls hW hl hq
    rw [qX10_digest_L86] at hq
    exact hq.elim
  | succ n ih =>
    intro σ x1 x3 H locs ls hW hl hq
    rw [qX10_digest_L86] at hq
    refine lv_iload_n hx hb dX10_digest_86 rfl (lv_at hl 2 rfl) ?_
    refine lv_aload_n hx hb dX10_digest_87 rfl (lv_at hl 0 rfl) ?_
    refine xg_X10_16 C hW dX10_digest_88 ?_
    refine xsiz_V_X10_81 C hW (Nat.le_trans (by decide) hRf) (Nat.le_trans (by decide) hRl) hl.1 (Nat.le_of_ble_eq_true rfl) dX10_digest_91 (fun H locs hW => ?_)
    refine lv_icmp_ge (tgt := 120) hx hb dX10_digest_94 (by decide) (fun h => ?_) (fun h => ?_)
    · replace hq := br_pos h hq
      exact he120 _ _ _ _ _ hW (lv_sub hl [0, 1] rfl) hq
    · replace hq := br_neg h hq
      refine lv_aload_n hx hb dX10_digest_97 rfl (lv_at hl 0 rfl) ?_
      refine lv_lload_n hx hb dX10_digest_98 rfl (lv_at hl 1 rfl) ?_
      refine lv_aload_n hx hb dX10_digest_99 rfl (lv_at hl 0 rfl) ?_
      refine xg_X10_16 C hW dX10_digest_100 ?_
      refine lv_iload_n hx hb dX10_digest_103 rfl (lv_at hl 2 rfl) ?_
      obtain ⟨hin2, hq⟩ := hq
      refine xget_V_X10_124 C hW (Nat.le_trans (by decide) hRf) (Nat.le_trans (by decide) hRl) hl.1 (Nat.le_of_ble_eq_true rfl) hin2 dX10_digest_104 (fun j_1 H locs hj_1 hW => ?_)
      replace hq := hq j_1 hj_1
      refine xc_X10_85 C hW dX10_digest_107 ?_
      refine kX10_vowDigested_X10_243 C hW (Nat.le_trans (by decide) hRf) (Nat.le_trans (by decide) hRl) hl.1 (Nat.le_of_ble_eq_true rfl) dX10_digest_110 hq (fun r_4 σ_3 H locs hq hW => ?_)
      refine lv_lstore_n (lv' := [(1, .long r_4), (0, .ref (g.2.1 0)), (3, .int x3)]) hx hb dX10_digest_113 rfl hl (by decide) rfl (fun ls hl => ?_)
      obtain ⟨x3_5, ex3_5⟩ : ∃ y : Int32, y = x3 + 1 := ⟨_, rfl⟩
      replace hq := hq _ ex3_5
      refine lv_iinc (v := x3_5) (lv' := [(3, .int x3_5), (1, .long r_4), (0, .ref (g.2.1 0))]) hx hb dX10_digest_114 hl (k := 2) rfl (by rw [ex3_5]; rfl) (by decide) rfl (fun ls hl => ?_)
      refine lv_goto (tgt := 86) hx hb dX10_digest_117 (by decide) ?_
      exact ih _ _ _ _ _ _ hW (lv_sub hl [2, 1, 0] rfl) hq
set_option maxHeartbeats 4000000 in
set_option maxRecDepth 100000 in
theorem wX10_digest_L56 (C : CallFix p m c cX10_digest 5 s args lwg RX10) (hRf : 9 ≤ R.frames) (hRl : 215 ≤ R.locals) {P : Int64 → XS → Prop} (hret : RetL g.1 (xw g) (xty g) A p l e R s m args below meth c 0 0 Q cX10_digest P) {e84 : XS → Int64 → Prop} (he84 : ∀ (σ : XS) (x1 : Int64) (H : Heap) (locs : List Loc) (ls : Array Slot), WI g.1 (xw g) (xty g) A s σ H locs → lv_has ls 5 [(0, .ref (g.2.1 0)), (1, .long x1)] → e84 σ x1 → W p l e R s m args below meth c H locs 0 0 Q (F0 m 84 ls [])) : ∀ (n : Nat) (σ : XS) (x1 : Int64) (x3 : Int32) (H : Heap) (locs : List Loc) (ls : Array Slot), WI g.1 (xw g) (xty g) A s σ H locs → lv_has ls 5 [(0, .ref (g.2.1 0)), (1, .long x1), (3, .int x3)] → qX10_digest_L56 g e84 P n σ x1 x3 → W p l e R s m args below meth c H locs 0 0 Q (F0 m 56 ls []) := by
  have hx := C.1
  have hb := C.2.1
  intro n
  induction n with
  | zero =>
    intro σ x1 x3 H locs ls hW hl hq
    rw [qX10_digest_L56] at hq
    exact hq.elim
  | succ n ih =>
    intro σ x1 x3 H locs ls hW hl hq
    rw [qX10_digest_L56] at hq
    refine lv_iload_n hx hb dX10_digest_56 rfl (lv_at hl 2 rfl) ?_
    refine lv_iconst (v := 5) hx hb dX10_digest_57 (by decide) ?_
    refine lv_icmp_ge (tgt := 84) hx hb dX10_digest_58 (by decide) (fun h => ?_) (fun h => ?_)
    · replace hq := br_pos h hq
      exact he84 _ _ _ _ _ hW (lv_sub hl [0, 1] rfl) hq
    · replace hq := br_neg h hq
      refine lv_ldc2 (own := RX10) (v := 31) hx hb C.2.2.2.1 (C.2.2.2.2 _ (lwg_at 898 (by decide +kernel) rfl)) dX10_digest_61 ?_
      refine lv_lload_n hx hb dX10_digest_64 rfl (lv_at hl 1 rfl) ?_
      refine lv_lmul hx hb dX10_digest_65 ?_
      refine lv_aload_n hx hb dX10_digest_66 rfl (lv_at hl 0 rfl) ?_
      refine xg_X10_31 C hW dX10_digest_67 ?_
      refine xg_X10_147 C hW dX10_digest_70 ?_
      refine lv_iload_n hx hb dX10_digest_73 rfl (lv_at hl 2 rfl) ?_
      obtain ⟨hin1, hq⟩ := hq
      refine xa_T2 C hW hin1 dX10_digest_74 ?_
      refine lv_i2l hx hb dX10_digest_75 rfl ?_
      refine lv_ladd hx hb dX10_digest_76 ?_
      refine lv_topl (fun x1_2 ex1_2 => ?_)
      replace hq := hq _ ex1_2
      refine lv_lstore_n (lv' := [(1, .long x1_2), (0, .ref (g.2.1 0)), (3, .int x3)]) hx hb dX10_digest_77 rfl hl (by decide) rfl (fun ls hl => ?_)
      obtain ⟨x3_3, ex3_3⟩ : ∃ y : Int32, y = x3 + 1 := ⟨_, rfl⟩
      replace hq := hq _ ex3_3
      refine lv_iinc (v := x3_3) (lv' := [(3, .int x3_3), (1, .long x1_2), (0, .ref (g.2.1 0))]) hx hb dX10_digest_78 hl (k := 2) rfl (by rw [ex3_3]; rfl) (by decide) rfl (fun ls hl => ?_)
      refine lv_goto (tgt := 56) hx hb dX10_digest_81 (by decide) ?_
      exact ih _ _ _ _ _ _ hW (lv_sub hl [2, 1, 0] rfl) hq
set_option maxHeartbeats 4000000 in
set_option maxRecDepth 100000 in
theorem wX10_digest_L20 (C : CallFix p m c cX10_digest 5 s args lwg RX10) (hRf : 9 ≤ R.frames) (hRl : 215 ≤ R.locals) {P : Int64 → XS → Prop} (hret : RetL g.1 (xw g) (xty g) A p l e R s m args below meth c 0 0 Q cX10_digest P) {e48 : XS → Int64 → Int32 → Prop} (he48 : ∀ (σ : XS) (x1 : Int64) (x3 : Int32) (H : Heap) (locs : List Loc) (ls : Array Slot), WI g.1 (xw g) (xty g) A s σ H locs → lv_has ls 5 [(0, .ref (g.2.1 0)), (1, .long x1), (3, .int x3)] → e48 σ x1 x3 → W p l e R s m args below meth c H locs 0 0 Q (F0 m 48 ls [])) : ∀ (n : Nat) (σ : XS) (x1 : Int64) (x3 : Int32) (x4 : Int32) (H : Heap) (locs : List Loc) (ls : Array Slot), WI g.1 (xw g) (xty g) A s σ H locs → lv_has ls 5 [(0, .ref (g.2.1 0)), (1, .long x1), (3, .int x3), (4, .int x4)] → qX10_digest_L20 g e48 P n σ x1 x3 x4 → W p l e R s m args below meth c H locs 0 0 Q (F0 m 20 ls []) := by
  have hx := C.1
  have hb := C.2.1
  intro n
  induction n with
  | zero =>
    intro σ x1 x3 x4 H locs ls hW hl hq
    rw [qX10_digest_L20] at hq
    exact hq.elim
  | succ n ih =>
    intro σ x1 x3 x4 H locs ls hW hl hq
    rw [qX10_digest_L20] at hq
    refine lv_iload hx hb dX10_digest_20 (lv_at hl 3 rfl) ?_
    refine lv_bipush (v := 6) hx hb dX10_digest_22 (by decide) ?_
    refine lv_icmp_gt (tgt := 48) hx hb dX10_digest_24 (by decide) (fun h => ?_) (fun h => ?_)
    · replace hq := br_pos h hq
      exact he48 _ _ _ _ _ _ hW (lv_sub hl [0, 1, 2] rfl) hq
    · replace hq := br_neg h hq
      refine lv_ldc2 (own := RX10) (v := 31) hx hb C.2.2.2.1 (C.2.2.2.2 _ (lwg_at 898 (by decide +kernel) rfl)) dX10_digest_27 ?_
      refine lv_lload_n hx hb dX10_digest_30 rfl (lv_at hl 1 rfl) ?_
      refine lv_lmul hx hb dX10_digest_31 ?_
      refine lv_aload_n hx hb dX10_digest_32 rfl (lv_at hl 0 rfl) ?_
      refine lv_iload_n hx hb dX10_digest_33 rfl (lv_at hl 2 rfl) ?_
      refine lv_iload hx hb dX10_digest_34 (lv_at hl 3 rfl) ?_
      refine kX10_toldOf_X10_133 C hW (Nat.le_trans (by decide) hRf) (Nat.le_trans (by decide) hRl) hl.1 (Nat.le_of_ble_eq_true rfl) dX10_digest_36 hq (fun r_2 σ_1 H locs hq hW => ?_)
      refine lv_i2l hx hb dX10_digest_39 rfl ?_
      refine lv_ladd hx hb dX10_digest_40 ?_
      refine lv_topl (fun x1_3 ex1_3 => ?_)
      replace hq := hq _ ex1_3
      refine lv_lstore_n (lv' := [(1, .long x1_3), (0, .ref (g.2.1 0)), (3, .int x3), (4, .int x4)]) hx hb dX10_digest_41 rfl hl (by decide) rfl (fun ls hl => ?_)
      obtain ⟨x4_4, ex4_4⟩ : ∃ y : Int32, y = x4 + 1 := ⟨_, rfl⟩
      replace hq := hq _ ex4_4
      refine lv_iinc (v := x4_4) (lv' := [(4, .int x4_4), (1, .long x1_3), (0, .ref (g.2.1 0)), (3, .int x3)]) hx hb dX10_digest_42 hl (k := 3) rfl (by rw [ex4_4]; rfl) (by decide) rfl (fun ls hl => ?_)
      refine lv_goto (tgt := 20) hx hb dX10_digest_45 (by decide) ?_
      exact ih _ _ _ _ _ _ _ hW (lv_sub hl [2, 1, 3, 0] rfl) hq
set_option maxHeartbeats 4000000 in
set_option maxRecDepth 100000 in
theorem wX10_digest_L6 (C : CallFix p m c cX10_digest 5 s args lwg RX10) (hRf : 9 ≤ R.frames) (hRl : 215 ≤ R.locals) {P : Int64 → XS → Prop} (hret : RetL g.1 (xw g) (xty g) A p l e R s m args below meth c 0 0 Q cX10_digest P) {e54 : XS → Int64 → Prop} (he54 : ∀ (σ : XS) (x1 : Int64) (H : Heap) (locs : List Loc) (ls : Array Slot), WI g.1 (xw g) (xty g) A s σ H locs → lv_has ls 5 [(0, .ref (g.2.1 0)), (1, .long x1)] → e54 σ x1 → W p l e R s m args below meth c H locs 0 0 Q (F0 m 54 ls [])) : ∀ (n : Nat) (σ : XS) (x1 : Int64) (x3 : Int32) (H : Heap) (locs : List Loc) (ls : Array Slot), WI g.1 (xw g) (xty g) A s σ H locs → lv_has ls 5 [(0, .ref (g.2.1 0)), (1, .long x1), (3, .int x3)] → qX10_digest_L6 g e54 P n σ x1 x3 → W p l e R s m args below meth c H locs 0 0 Q (F0 m 6 ls []) := by
  have hx := C.1
  have hb := C.2.1
  intro n
  induction n with
  | zero =>
    intro σ x1 x3 H locs ls hW hl hq
    rw [qX10_digest_L6] at hq
    exact hq.elim
  | succ n ih =>
    intro σ x1 x3 H locs ls hW hl hq
    rw [qX10_digest_L6] at hq
    refine lv_iload_n hx hb dX10_digest_6 rfl (lv_at hl 2 rfl) ?_
    refine lv_aload_n hx hb dX10_digest_7 rfl (lv_at hl 0 rfl) ?_
    refine xg_X10_12 C hW dX10_digest_8 ?_
    refine xsiz_H_X10_81 C hW (Nat.le_trans (by decide) hRf) (Nat.le_trans (by decide) hRl) hl.1 (Nat.le_of_ble_eq_true rfl) dX10_digest_11 (fun H locs hW => ?_)
    refine lv_icmp_ge (tgt := 54) hx hb dX10_digest_14 (by decide) (fun h => ?_) (fun h => ?_)
    · replace hq := br_pos h hq
      exact he54 _ _ _ _ _ hW (lv_sub hl [0, 1] rfl) hq
    · replace hq := br_neg h hq
      refine lv_iconst (v := 0) hx hb dX10_digest_17 (by decide) ?_
      refine lv_istore (lv' := [(4, .int 0), (0, .ref (g.2.1 0)), (1, .long x1), (3, .int x3)]) hx hb dX10_digest_18 hl (by decide) rfl (fun ls hl => ?_)
      obtain ⟨f20, hq⟩ := hq
      refine wX10_digest_L20 C hRf hRl hret ?_ f20 _ _ _ _ _ _ _ hW (lv_sub hl [1, 2, 3, 0] rfl) hq
      · intro σ_3 x1_1 x3_2 H locs ls hW hl hq
        obtain ⟨x3_4, ex3_4⟩ : ∃ y : Int32, y = x3_2 + 1 := ⟨_, rfl⟩
        replace hq := hq _ ex3_4
        refine lv_iinc (v := x3_4) (lv' := [(3, .int x3_4), (0, .ref (g.2.1 0)), (1, .long x1_1)]) hx hb dX10_digest_48 hl (k := 2) rfl (by rw [ex3_4]; rfl) (by decide) rfl (fun ls hl => ?_)
        refine lv_goto (tgt := 6) hx hb dX10_digest_51 (by decide) ?_
        exact ih _ _ _ _ _ _ hW (lv_sub hl [1, 2, 0] rfl) hq
set_option maxHeartbeats 4000000 in
set_option maxRecDepth 100000 in
theorem wX10_digest (C : CallFix p m c cX10_digest 5 s args lwg RX10) (hRf : 9 ≤ R.frames) (hRl : 215 ≤ R.locals) {P : Int64 → XS → Prop} (hret : RetL g.1 (xw g) (xty g) A p l e R s m args below meth c 0 0 Q cX10_digest P) {σ : XS} {H : Heap} {locs : List Loc} {ls : Array Slot} (hW : WI g.1 (xw g) (xty g) A s σ H locs) (hl : lv_has ls 5 [(0, .ref (g.2.1 0))]) (hq : qX10_digest g σ  P) : W p l e R s m args below meth c H locs 0 0 Q (F0 m 0 ls []) := by
  have hx := C.1
  have hb := C.2.1
  unfold qX10_digest at hq
  refine lv_ldc2 (own := RX10) (v := 541) hx hb C.2.2.2.1 (C.2.2.2.2 _ (lwg_at 897 (by decide +kernel) rfl)) dX10_digest_0 ?_
  refine lv_lstore_n (lv' := [(1, .long 541), (0, .ref (g.2.1 0))]) hx hb dX10_digest_3 rfl hl (by decide) rfl (fun ls hl => ?_)
  refine lv_iconst (v := 0) hx hb dX10_digest_4 (by decide) ?_
  refine lv_istore_n (lv' := [(3, .int 0), (1, .long 541), (0, .ref (g.2.1 0))]) hx hb dX10_digest_5 rfl hl (by decide) rfl (fun ls hl => ?_)
  obtain ⟨f6, hq⟩ := hq
  refine wX10_digest_L6 C hRf hRl hret ?_ f6 _ _ _ _ _ _ hW (lv_sub hl [2, 1, 0] rfl) hq
  · intro σ_2 x1_1 H locs ls hW hl hq
    refine lv_iconst (v := 0) hx hb dX10_digest_54 (by decide) ?_
    refine lv_istore_n (lv' := [(3, .int 0), (0, .ref (g.2.1 0)), (1, .long x1_1)]) hx hb dX10_digest_55 rfl hl (by decide) rfl (fun ls hl => ?_)
    obtain ⟨f56, hq⟩ := hq
    refine wX10_digest_L56 C hRf hRl hret ?_ f56 _ _ _ _ _ _ hW (lv_sub hl [1, 2, 0] rfl) hq
    · intro σ_4 x1_3 H locs ls hW hl hq
      refine lv_iconst (v := 0) hx hb dX10_digest_84 (by decide) ?_
      refine lv_istore_n (lv' := [(3, .int 0), (0, .ref (g.2.1 0)), (1, .long x1_3)]) hx hb dX10_digest_85 rfl hl (by decide) rfl (fun ls hl => ?_)
      obtain ⟨f86, hq⟩ := hq
      refine wX10_digest_L86 C hRf hRl hret ?_ f86 _ _ _ _ _ _ hW (lv_sub hl [1, 2, 0] rfl) hq
      · intro σ_6 x1_5 H locs ls hW hl hq
        refine lv_iconst (v := 0) hx hb dX10_digest_120 (by decide) ?_
        refine lv_istore_n (lv' := [(3, .int 0), (0, .ref (g.2.1 0)), (1, .long x1_5)]) hx hb dX10_digest_121 rfl hl (by decide) rfl (fun ls hl => ?_)
        obtain ⟨f122, hq⟩ := hq
        refine wX10_digest_L122 C hRf hRl hret ?_ f122 _ _ _ _ _ _ hW (lv_sub hl [1, 2, 0] rfl) hq
        · intro σ_8 x1_7 H locs ls hW hl hq
          refine lv_iconst (v := 0) hx hb dX10_digest_156 (by decide) ?_
          refine lv_istore_n (lv' := [(3, .int 0), (0, .ref (g.2.1 0)), (1, .long x1_7)]) hx hb dX10_digest_157 rfl hl (by decide) rfl (fun ls hl => ?_)
          obtain ⟨f158, hq⟩ := hq
          exact wX10_digest_L158 C hRf hRl hret f158 _ _ _ _ _ _ hW (lv_sub hl [1, 2, 0] rfl) hq
set_option maxHeartbeats 4000000 in
set_option maxRecDepth 100000 in
theorem mX10_digest {l : Launch} {g : XG} {σ : XS} {P : Int64 → XS → Prop} (hq : qX10_digest g σ  P) (sz : Nat) : Met l yX10_digest (cws yX10_digest cX10_digest 5 (some .long)) ({ frames := 9, cells := 0, slots := 0, locals := 215 } : Room) (va_Pc [.ref (g.2.1 0)] (WP g.1 (xw g) (xty g) σ sz)) (va_Ql P (WB g.1 (xw g) (xty g) σ sz) (va_A (xw g σ) sz)) 0 0 (va_A (xw g σ) sz) :=
  w_enter (by decide) (Nat.le_of_ble_eq_true rfl) (fun p e s m args below meth c ls C hr hk hn hs hW hl => wX10_digest C (Nat.le_refl _) (Nat.le_refl _) (fun pc ls v σ H locs hd hW hq => w_lret C hs hr hk hW hd hq) hW hl hq)
-- X10_leastNumber
set_option maxHeartbeats 4000000 in
set_option maxRecDepth 100000 in
theorem wX10_leastNumber (C : CallFix p m c cX10_leastNumber 1 s args lwg RX10) (hRf : 0 ≤ R.frames) (hRl : 0 ≤ R.locals) {P : Int32 → XS → Prop} (hret : RetI g.1 (xw g) (xty g) A p l e R s m args below meth c 0 0 Q cX10_leastNumber P) {σ : XS} {x0 : Int32} {H : Heap} {locs : List Loc} {ls : Array Slot} (hW : WI g.1 (xw g) (xty g) A s σ H locs) (hl : lv_has ls 1 [(0, .int x0)]) (hq : qX10_leastNumber g σ x0 P) : W p l e R s m args below meth c H locs 0 0 Q (F0 m 0 ls []) := by
  have hx := C.1
  have hb := C.2.1
  unfold qX10_leastNumber at hq
  refine lv_iload_n hx hb dX10_leastNumber_0 rfl (lv_at hl 0 rfl) ?_
  by_cases h1_1 : x0 = 1
  · replace hq := br_pos h1_1 hq
    refine lv_tableIn (off := 31) (tgt := 32) hx hb dX10_leastNumber_1 (by rw [h1_1]; decide) (by rw [h1_1]; decide) (by rw [h1_1]; decide) (by decide) ?_
    refine lv_iconst (v := 2) hx hb dX10_leastNumber_32 (by decide) ?_
    refine lv_goto (tgt := 41) hx hb dX10_leastNumber_33 (by decide) ?_
    exact hret _ _ _ _ _ _ dX10_leastNumber_41 hW hq
  · replace hq := br_neg h1_1 hq
    by_cases h1_3 : x0 = 3
    · replace hq := br_pos h1_3 hq
      refine lv_tableIn (off := 35) (tgt := 36) hx hb dX10_leastNumber_1 (by rw [h1_3]; decide) (by rw [h1_3]; decide) (by rw [h1_3]; decide) (by decide) ?_
      refine lv_iconst (v := 1) hx hb dX10_leastNumber_36 (by decide) ?_
      refine lv_goto (tgt := 41) hx hb dX10_leastNumber_37 (by decide) ?_
      exact hret _ _ _ _ _ _ dX10_leastNumber_41 hW hq
    · replace hq := br_neg h1_3 hq
      by_cases h1_4 : x0 = 4
      · replace hq := br_pos h1_4 hq
        refine lv_tableIn (off := 31) (tgt := 32) hx hb dX10_leastNumber_1 (by rw [h1_4]; decide) (by rw [h1_4]; decide) (by rw [h1_4]; decide) (by decide) ?_
        refine lv_iconst (v := 2) hx hb dX10_leastNumber_32 (by decide) ?_
        refine lv_goto (tgt := 41) hx hb dX10_leastNumber_33 (by decide) ?_
        exact hret _ _ _ _ _ _ dX10_leastNumber_41 hW hq
      · replace hq := br_neg h1_4 hq
        refine (fun (K : W p l e R s m args below meth c H locs 0 0 Q (F0 m 40 ls [])) => ?_) ?_
        · by_cases h1_2 : x0 = 2
          · refine lv_tableIn (off := 39) (tgt := 40) hx hb dX10_leastNumber_1 (by rw [h1_2]; decide) (by rw [h1_2]; decide) (by rw [h1_2]; decide) (by decide) ?_
            exact K
          · skip
            exact lv_tableOut (tgt := 40) hx hb dX10_leastNumber_1 (by have a1 := lv_neT (a := 1) h1_1 (by decide); have a2 := lv_neT (a := 2) h1_2 (by decide); have a3 := lv_neT (a := 3) h1_3 (by decide); have a4 := lv_neT (a := 4) h1_4 (by decide); omega) (by decide) K
        refine lv_iconst (v := 0) hx hb dX10_leastNumber_40 (by decide) ?_
        exact hret _ _ _ _ _ _ dX10_leastNumber_41 hW hq
set_option maxHeartbeats 4000000 in
set_option maxRecDepth 100000 in
theorem mX10_leastNumber {l : Launch} {g : XG} {σ : XS} {x0 : Int32} {P : Int32 → XS → Prop} (hq : qX10_leastNumber g σ x0 P) (sz : Nat) : Met l yX10_leastNumber (cws yX10_leastNumber cX10_leastNumber 1 (some .int)) ({ frames := 0, cells := 0, slots := 0, locals := 0 } : Room) (va_Pc [.int x0] (WP g.1 (xw g) (xty g) σ sz)) (va_Qi P (WB g.1 (xw g) (xty g) σ sz) (va_A (xw g σ) sz)) 0 0 (va_A (xw g σ) sz) :=
  w_enter (by decide) (Nat.le_of_ble_eq_true rfl) (fun p e s m args below meth c ls C hr hk hn hs hW hl => wX10_leastNumber C (Nat.le_refl _) (Nat.le_refl _) (fun pc ls v σ H locs hd hW hq => w_iret C hs hr hk hW hd hq) hW hl hq)
set_option maxHeartbeats 4000000 in
set_option maxRecDepth 100000 in
theorem kX10_leastNumber_X10_106 (C : CallFix p m c cc nL s args lwg RX10) {σ : XS} (hW : WI g.1 (xw g) (xty g) A s σ H locs) (hRf : 1 ≤ R.frames) (hRl : 20 ≤ R.locals) (hls : ls.size = nL) (hro : (rest.map fun v => v.category).sum ≤ 8) {x0 : Int32} (hd : decode cc pc = .ok (.invokestatic 106, 3)) {P : Int32 → XS → Prop} (hq : qX10_leastNumber g σ x0 P) (kk : ∀ (r : Int32) (σ1 : XS) (H : Heap) (locs : List Loc), P r σ1 → WI g.1 (xw g) (xty g) A s σ1 H locs → W p l e R s m args below meth c H locs 0 0 Q (F0 m (pc + 3) ls (.int r :: rest))) : W p l e R s m args below meth c H locs 0 0 Q (F0 m pc ls (.int x0 :: rest)) :=
  w_calli hW (w_runS C hW (mX10_leastNumber hq _) ⟨(lwg_at 463 (by decide +kernel) rfl), (lwg_at 66 (by decide +kernel) rfl), (lwg_at 461 (by decide +kernel) rfl)⟩ (lwg_at 462 (by decide +kernel) rfl) (np := 1) (by decide +kernel) ⟨rfl, rfl⟩ ⟨hRf, hRl⟩ rfl hls rfl hro hd ⟨Nat.zero_le _, Nat.zero_le _⟩) kk
-- X10_mostNumber
set_option maxHeartbeats 4000000 in
set_option maxRecDepth 100000 in
theorem wX10_mostNumber_J9 (C : CallFix p m c cX10_mostNumber 1 s args lwg RX10) (hRf : 0 ≤ R.frames) (hRl : 0 ≤ R.locals) {P : Int32 → XS → Prop} (hret : RetI g.1 (xw g) (xty g) A p l e R s m args below meth c 0 0 Q cX10_mostNumber P) {σ : XS} {H : Heap} {locs : List Loc} {ls : Array Slot} (hW : WI g.1 (xw g) (xty g) A s σ H locs) (hl : lv_has ls 1 []) (hq : qX10_mostNumber_J9 g  P σ ) : W p l e R s m args below meth c H locs 0 0 Q (F0 m 9 ls []) := by
  have hx := C.1
  have hb := C.2.1
  unfold qX10_mostNumber_J9 at hq
  refine lv_iconst (v := 0) hx hb dX10_mostNumber_9 (by decide) ?_
  refine lv_goto (tgt := 14) hx hb dX10_mostNumber_10 (by decide) ?_
  exact hret _ _ _ _ _ _ dX10_mostNumber_14 hW hq
set_option maxHeartbeats 4000000 in
set_option maxRecDepth 100000 in
theorem wX10_mostNumber (C : CallFix p m c cX10_mostNumber 1 s args lwg RX10) (hRf : 0 ≤ R.frames) (hRl : 0 ≤ R.locals) {P : Int32 → XS → Prop} (hret : RetI g.1 (xw g) (xty g) A p l e R s m args below meth c 0 0 Q cX10_mostNumber P) {σ : XS} {x0 : Int32} {H : Heap} {locs : List Loc} {ls : Array Slot} (hW : WI g.1 (xw g) (xty g) A s σ H locs) (hl : lv_has ls 1 [(0, .int x0)]) (hq : qX10_mostNumber g σ x0 P) : W p l e R s m args below meth c H locs 0 0 Q (F0 m 0 ls []) := by
  have hx := C.1
  have hb := C.2.1
  unfold qX10_mostNumber at hq
  refine lv_iload_n hx hb dX10_mostNumber_0 rfl (lv_at hl 0 rfl) ?_
  refine lv_if_eq (tgt := 9) hx hb dX10_mostNumber_1 (by decide) (fun h => ?_) (fun h => ?_)
  · replace hq := br_pos h hq
    exact wX10_mostNumber_J9 C hRf hRl hret  hW (lv_sub hl [] rfl) hq
  · replace hq := br_neg h hq
    refine lv_iload_n hx hb dX10_mostNumber_4 rfl (lv_at hl 0 rfl) ?_
    refine lv_iconst (v := 2) hx hb dX10_mostNumber_5 (by decide) ?_
    refine lv_icmp_ne (tgt := 13) hx hb dX10_mostNumber_6 (by decide) (fun h => ?_) (fun h => ?_)
    · replace hq := br_neg h hq
      refine lv_iconst (v := 4) hx hb dX10_mostNumber_13 (by decide) ?_
      exact hret _ _ _ _ _ _ dX10_mostNumber_14 hW hq
    · replace hq := br_pos h hq
      exact wX10_mostNumber_J9 C hRf hRl hret  hW (lv_sub hl [] rfl) hq
set_option maxHeartbeats 4000000 in
set_option maxRecDepth 100000 in
theorem mX10_mostNumber {l : Launch} {g : XG} {σ : XS} {x0 : Int32} {P : Int32 → XS → Prop} (hq : qX10_mostNumber g σ x0 P) (sz : Nat) : Met l yX10_mostNumber (cws yX10_mostNumber cX10_mostNumber 1 (some .int)) ({ frames := 0, cells := 0, slots := 0, locals := 0 } : Room) (va_Pc [.int x0] (WP g.1 (xw g) (xty g) σ sz)) (va_Qi P (WB g.1 (xw g) (xty g) σ sz) (va_A (xw g σ) sz)) 0 0 (va_A (xw g σ) sz) :=
  w_enter (by decide) (Nat.le_of_ble_eq_true rfl) (fun p e s m args below meth c ls C hr hk hn hs hW hl => wX10_mostNumber C (Nat.le_refl _) (Nat.le_refl _) (fun pc ls v σ H locs hd hW hq => w_iret C hs hr hk hW hd hq) hW hl hq)
set_option maxHeartbeats 4000000 in
set_option maxRecDepth 100000 in
theorem kX10_mostNumber_X10_109 (C : CallFix p m c cc nL s args lwg RX10) {σ : XS} (hW : WI g.1 (xw g) (xty g) A s σ H locs) (hRf : 1 ≤ R.frames) (hRl : 20 ≤ R.locals) (hls : ls.size = nL) (hro : (rest.map fun v => v.category).sum ≤ 8) {x0 : Int32} (hd : decode cc pc = .ok (.invokestatic 109, 3)) {P : Int32 → XS → Prop} (hq : qX10_mostNumber g σ x0 P) (kk : ∀ (r : Int32) (σ1 : XS) (H : Heap) (locs : List Loc), P r σ1 → WI g.1 (xw g) (xty g) A s σ1 H locs → W p l e R s m args below meth c H locs 0 0 Q (F0 m (pc + 3) ls (.int r :: rest))) : W p l e R s m args below meth c H locs 0 0 Q (F0 m pc ls (.int x0 :: rest)) :=
  w_calli hW (w_runS C hW (mX10_mostNumber hq _) ⟨(lwg_at 466 (by decide +kernel) rfl), (lwg_at 66 (by decide +kernel) rfl), (lwg_at 464 (by decide +kernel) rfl)⟩ (lwg_at 465 (by decide +kernel) rfl) (np := 1) (by decide +kernel) ⟨rfl, rfl⟩ ⟨hRf, hRl⟩ rfl hls rfl hro hd ⟨Nat.zero_le _, Nat.zero_le _⟩) kk
end
