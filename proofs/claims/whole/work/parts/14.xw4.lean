section
variable {p : Program} {l : Launch} {e : Env} {R : Room} {s : State} {m : MethodId} {args : Array Value} {below : List Frame} {meth : Method} {c : Code} {H : Heap} {locs : List Loc} {cells slots : Nat} {Q : State → Prop}
variable {cc : ByteArray} {pc : Nat} {ls : Array Slot} {rest : List Value} {own : String} {nL : Nat}
variable {g : XG} {A : Nat → Prop}
-- X5_write
set_option maxHeartbeats 4000000 in
set_option maxRecDepth 100000 in
theorem wX5_write_L3 (C : CallFix p m c cX5_write 5 s args lwg RX5) (hRf : 0 ≤ R.frames) (hRl : 0 ≤ R.locals) {P : XS → Prop} (hret : RetV g.1 (xw g) (xty g) A p l e R s m args below meth c 0 0 Q cX5_write P) : ∀ (n : Nat) (σ : XS) (x1 : Int64) (x3 : Int32) (x4 : Int32) (H : Heap) (locs : List Loc) (ls : Array Slot), WI g.1 (xw g) (xty g) A s σ H locs → lv_has ls 5 [(0, .ref (g.2.1 3)), (1, .long x1), (3, .int x3), (4, .int x4)] → qX5_write_L3 g  P n σ x1 x3 x4 → W p l e R s m args below meth c H locs 0 0 Q (F0 m 3 ls []) := by
  have hx := C.1
  have hb := C.2.1
  intro n
  induction n with
  | zero =>
    intro σ x1 x3 x4 H locs ls hW hl hq
    rw [qX5_write_L3] at hq
    exact hq.elim
  | succ n ih =>
    intro σ x1 x3 x4 H locs ls hW hl hq
    rw [qX5_write_L3] at hq
    refine lv_iload hx hb dX5_write_3 (lv_at hl 3 rfl) ?_
    refine lv_iload_n hx hb dX5_write_5 rfl (lv_at hl 2 rfl) ?_
    refine lv_icmp_ge (tgt := 55) hx hb dX5_write_6 (by decide) (fun h => ?_) (fun h => ?_)
    · replace hq := br_pos h hq
      exact hret _ _ _ _ _ dX5_write_55 hW hq
    · replace hq := br_neg h hq
      refine lv_aload_n hx hb dX5_write_9 rfl (lv_at hl 0 rfl) ?_
      refine xg_X5_19 C hW dX5_write_10 ?_
      refine lv_bipush (v := 16) hx hb dX5_write_13 (by decide) ?_
      refine lv_icmp_ge (tgt := 55) hx hb dX5_write_15 (by decide) (fun h => ?_) (fun h => ?_)
      · replace hq := br_pos h hq
        exact hret _ _ _ _ _ dX5_write_55 hW hq
      · replace hq := br_neg h hq
        refine lv_aload_n hx hb dX5_write_18 rfl (lv_at hl 0 rfl) ?_
        refine xg_X5_9 C hW dX5_write_19 ?_
        refine lv_aload_n hx hb dX5_write_22 rfl (lv_at hl 0 rfl) ?_
        refine xg_X5_19 C hW dX5_write_23 ?_
        refine lv_lload_n hx hb dX5_write_26 rfl (lv_at hl 1 rfl) ?_
        refine lv_bipush (v := 8) hx hb dX5_write_27 (by decide) ?_
        refine lv_iload hx hb dX5_write_29 (lv_at hl 3 rfl) ?_
        refine lv_imul hx hb dX5_write_31 ?_
        refine w_lushr hx hb dX5_write_32 ?_
        refine lv_ldc2 (own := RX5) (v := 255) hx hb C.2.2.2.1 (C.2.2.2.2 _ (lwg_at 305 (by decide +kernel) rfl)) dX5_write_33 ?_
        refine lv_land hx hb dX5_write_36 ?_
        refine lv_l2i hx hb dX5_write_37 rfl ?_
        obtain ⟨hin1, hq⟩ := hq
        refine xs_S C hW hin1 dX5_write_38 (fun σ_2 H locs eσ_2 hW => ?_)
        replace hq := hq _ eσ_2
        refine lv_aload_n hx hb dX5_write_39 rfl (lv_at hl 0 rfl) ?_
        refine lv_dup hx hb dX5_write_40 rfl ?_
        refine xg_X5_19 C hW dX5_write_41 ?_
        refine lv_iconst (v := 1) hx hb dX5_write_44 (by decide) ?_
        refine lv_iadd hx hb dX5_write_45 ?_
        refine xp_X5_19 C hW dX5_write_46 (fun σ_3 H locs eσ_3 hW => ?_)
        replace hq := hq _ eσ_3
        obtain ⟨x4_4, ex4_4⟩ : ∃ y : Int32, y = x4 + 1 := ⟨_, rfl⟩
        replace hq := hq _ ex4_4
        refine lv_iinc (v := x4_4) (lv' := [(4, .int x4_4), (0, .ref (g.2.1 3)), (1, .long x1), (3, .int x3)]) hx hb dX5_write_49 hl (k := 3) rfl (by rw [ex4_4]; rfl) (by decide) rfl (fun ls hl => ?_)
        refine lv_goto (tgt := 3) hx hb dX5_write_52 (by decide) ?_
        exact ih _ _ _ _ _ _ _ hW (lv_sub hl [1, 2, 3, 0] rfl) hq
set_option maxHeartbeats 4000000 in
set_option maxRecDepth 100000 in
theorem wX5_write (C : CallFix p m c cX5_write 5 s args lwg RX5) (hRf : 0 ≤ R.frames) (hRl : 0 ≤ R.locals) {P : XS → Prop} (hret : RetV g.1 (xw g) (xty g) A p l e R s m args below meth c 0 0 Q cX5_write P) {σ : XS} {x1 : Int64} {x3 : Int32} {H : Heap} {locs : List Loc} {ls : Array Slot} (hW : WI g.1 (xw g) (xty g) A s σ H locs) (hl : lv_has ls 5 [(0, .ref (g.2.1 3)), (1, .long x1), (3, .int x3)]) (hq : qX5_write g σ x1 x3 P) : W p l e R s m args below meth c H locs 0 0 Q (F0 m 0 ls []) := by
  have hx := C.1
  have hb := C.2.1
  unfold qX5_write at hq
  refine lv_iconst (v := 0) hx hb dX5_write_0 (by decide) ?_
  refine lv_istore (lv' := [(4, .int 0), (0, .ref (g.2.1 3)), (1, .long x1), (3, .int x3)]) hx hb dX5_write_1 hl (by decide) rfl (fun ls hl => ?_)
  obtain ⟨f3, hq⟩ := hq
  exact wX5_write_L3 C hRf hRl hret f3 _ _ _ _ _ _ _ hW (lv_sub hl [1, 2, 3, 0] rfl) hq
set_option maxHeartbeats 4000000 in
set_option maxRecDepth 100000 in
theorem mX5_write {l : Launch} {g : XG} {σ : XS} {x1 : Int64} {x3 : Int32} {P : XS → Prop} (hq : qX5_write g σ x1 x3 P) (sz : Nat) : Met l yX5_write (cws yX5_write cX5_write 5 none) ({ frames := 0, cells := 0, slots := 0, locals := 0 } : Room) (va_Pc [.ref (g.2.1 3), .long x1, .int x3] (WP g.1 (xw g) (xty g) σ sz)) (va_Qv P (WB g.1 (xw g) (xty g) σ sz) (va_A (xw g σ) sz)) 0 0 (va_A (xw g σ) sz) :=
  w_enter (by decide) (Nat.le_of_ble_eq_true rfl) (fun p e s m args below meth c ls C hr hk hn hs hW hl => wX5_write C (Nat.le_refl _) (Nat.le_refl _) (fun pc ls σ H locs hd hW hq => w_vret C hs hr hk hW hd hq) hW hl hq)
set_option maxHeartbeats 4000000 in
set_option maxRecDepth 100000 in
theorem kX5_write_X10_67 (C : CallFix p m c cc nL s args lwg RX10) {σ : XS} (hW : WI g.1 (xw g) (xty g) A s σ H locs) (hRf : 1 ≤ R.frames) (hRl : 24 ≤ R.locals) (hls : ls.size = nL) (hro : (rest.map fun v => v.category).sum ≤ 8) {x1 : Int64} {x3 : Int32} (hd : decode cc pc = .ok (.invokevirtual 67, 3)) {P : XS → Prop} (hq : qX5_write g σ x1 x3 P) (kk : ∀ (σ1 : XS) (H : Heap) (locs : List Loc), P σ1 → WI g.1 (xw g) (xty g) A s σ1 H locs → W p l e R s m args below meth c H locs 0 0 Q (F0 m (pc + 3) ls rest)) : W p l e R s m args below meth c H locs 0 0 Q (F0 m pc ls (.int x3 :: .long x1 :: .ref (g.2.1 3) :: rest)) :=
  w_callv hW (w_runV C hW (mX5_write hq _) ⟨(lwg_at 310 (by decide +kernel) rfl), (lwg_at 70 (by decide +kernel) rfl), (lwg_at 307 (by decide +kernel) rfl)⟩ (lwg_at 308 (by decide +kernel) rfl) (lwg_at 309 (by decide +kernel) rfl) (np := 2) (by decide +kernel) ⟨rfl, rfl⟩ ⟨hRf, hRl⟩ (ci := 6) rfl rfl (q0 := 3) rfl rfl hls rfl hro hd ⟨Nat.zero_le _, Nat.zero_le _⟩) kk
-- X5_comes
set_option maxHeartbeats 4000000 in
set_option maxRecDepth 100000 in
theorem wX5_comes (C : CallFix p m c cX5_comes 2 s args lwg RX5) (hRf : 0 ≤ R.frames) (hRl : 0 ≤ R.locals) {P : Int32 → XS → Prop} (hret : RetZ g.1 (xw g) (xty g) A p l e R s m args below meth c 0 0 Q cX5_comes P) {σ : XS} {x1 : Int32} {H : Heap} {locs : List Loc} {ls : Array Slot} (hW : WI g.1 (xw g) (xty g) A s σ H locs) (hl : lv_has ls 2 [(0, .ref (g.2.1 3)), (1, .int x1)]) (hq : qX5_comes g σ x1 P) : W p l e R s m args below meth c H locs 0 0 Q (F0 m 0 ls []) := by
  have hx := C.1
  have hb := C.2.1
  unfold qX5_comes at hq
  refine lv_aload_n hx hb dX5_comes_0 rfl (lv_at hl 0 rfl) ?_
  refine xg_X5_23 C hW dX5_comes_1 ?_
  refine lv_aload_n hx hb dX5_comes_4 rfl (lv_at hl 0 rfl) ?_
  refine xg_X5_19 C hW dX5_comes_5 ?_
  refine lv_icmp_ge (tgt := 24) hx hb dX5_comes_8 (by decide) (fun h => ?_) (fun h => ?_)
  · replace hq := br_pos h hq
    refine lv_iconst (v := 0) hx hb dX5_comes_24 (by decide) ?_
    exact hret _ _ _ _ _ _ dX5_comes_25 hW isB_0 hq
  · replace hq := br_neg h hq
    refine lv_aload_n hx hb dX5_comes_11 rfl (lv_at hl 0 rfl) ?_
    refine xg_X5_9 C hW dX5_comes_12 ?_
    refine lv_aload_n hx hb dX5_comes_15 rfl (lv_at hl 0 rfl) ?_
    refine xg_X5_23 C hW dX5_comes_16 ?_
    obtain ⟨hin1, hq⟩ := hq
    refine xa_S C hW hin1 dX5_comes_19 ?_
    refine lv_iload_n hx hb dX5_comes_20 rfl (lv_at hl 1 rfl) ?_
    refine lv_icmp_eq (tgt := 26) hx hb dX5_comes_21 (by decide) (fun h => ?_) (fun h => ?_)
    · replace hq := br_pos h hq
      refine lv_aload_n hx hb dX5_comes_26 rfl (lv_at hl 0 rfl) ?_
      refine lv_dup hx hb dX5_comes_27 rfl ?_
      refine xg_X5_23 C hW dX5_comes_28 ?_
      refine lv_iconst (v := 1) hx hb dX5_comes_31 (by decide) ?_
      refine lv_iadd hx hb dX5_comes_32 ?_
      refine xp_X5_23 C hW dX5_comes_33 (fun σ_2 H locs eσ_2 hW => ?_)
      replace hq := hq _ eσ_2
      refine lv_iconst (v := 1) hx hb dX5_comes_36 (by decide) ?_
      exact hret _ _ _ _ _ _ dX5_comes_37 hW isB_1 hq
    · replace hq := br_neg h hq
      refine lv_iconst (v := 0) hx hb dX5_comes_24 (by decide) ?_
      exact hret _ _ _ _ _ _ dX5_comes_25 hW isB_0 hq
set_option maxHeartbeats 4000000 in
set_option maxRecDepth 100000 in
theorem mX5_comes {l : Launch} {g : XG} {σ : XS} {x1 : Int32} {P : Int32 → XS → Prop} (hq : qX5_comes g σ x1 P) (sz : Nat) : Met l yX5_comes (cws yX5_comes cX5_comes 2 (some .boolean)) ({ frames := 0, cells := 0, slots := 0, locals := 0 } : Room) (va_Pc [.ref (g.2.1 3), .int x1] (WP g.1 (xw g) (xty g) σ sz)) (va_Qi P (WB g.1 (xw g) (xty g) σ sz) (va_A (xw g σ) sz)) 0 0 (va_A (xw g σ) sz) :=
  w_enter (by decide) (Nat.le_of_ble_eq_true rfl) (fun p e s m args below meth c ls C hr hk hn hs hW hl => wX5_comes C (Nat.le_refl _) (Nat.le_refl _) (fun pc ls v σ H locs hd hW hv hq => w_zret C hs hr hk hW hd hv hq) hW hl hq)
set_option maxHeartbeats 4000000 in
set_option maxRecDepth 100000 in
theorem kX5_comes_X5_30 (C : CallFix p m c cc nL s args lwg RX5) {σ : XS} (hW : WI g.1 (xw g) (xty g) A s σ H locs) (hRf : 1 ≤ R.frames) (hRl : 21 ≤ R.locals) (hls : ls.size = nL) (hro : (rest.map fun v => v.category).sum ≤ 8) {x1 : Int32} (hd : decode cc pc = .ok (.invokevirtual 30, 3)) {P : Int32 → XS → Prop} (hq : qX5_comes g σ x1 P) (kk : ∀ (r : Int32) (σ1 : XS) (H : Heap) (locs : List Loc), P r σ1 → WI g.1 (xw g) (xty g) A s σ1 H locs → W p l e R s m args below meth c H locs 0 0 Q (F0 m (pc + 3) ls (.int r :: rest))) : W p l e R s m args below meth c H locs 0 0 Q (F0 m pc ls (.int x1 :: .ref (g.2.1 3) :: rest)) :=
  w_calli hW (w_runV C hW (mX5_comes hq _) ⟨(lwg_at 326 (by decide +kernel) rfl), (lwg_at 70 (by decide +kernel) rfl), (lwg_at 323 (by decide +kernel) rfl)⟩ (lwg_at 325 (by decide +kernel) rfl) (lwg_at 0 (by decide +kernel) rfl) (np := 1) (by decide +kernel) ⟨rfl, rfl⟩ ⟨hRf, hRl⟩ (ci := 6) rfl rfl (q0 := 3) rfl rfl hls rfl hro hd ⟨Nat.zero_le _, Nat.zero_le _⟩) kk
-- X5_digit
set_option maxHeartbeats 4000000 in
set_option maxRecDepth 100000 in
theorem wX5_digit (C : CallFix p m c cX5_digit 1 s args lwg RX5) (hRf : 0 ≤ R.frames) (hRl : 0 ≤ R.locals) {P : Int32 → XS → Prop} (hret : RetI g.1 (xw g) (xty g) A p l e R s m args below meth c 0 0 Q cX5_digit P) {σ : XS} {H : Heap} {locs : List Loc} {ls : Array Slot} (hW : WI g.1 (xw g) (xty g) A s σ H locs) (hl : lv_has ls 1 [(0, .ref (g.2.1 3))]) (hq : qX5_digit g σ  P) : W p l e R s m args below meth c H locs 0 0 Q (F0 m 0 ls []) := by
  have hx := C.1
  have hb := C.2.1
  unfold qX5_digit at hq
  refine lv_aload_n hx hb dX5_digit_0 rfl (lv_at hl 0 rfl) ?_
  refine xg_X5_23 C hW dX5_digit_1 ?_
  refine lv_aload_n hx hb dX5_digit_4 rfl (lv_at hl 0 rfl) ?_
  refine xg_X5_19 C hW dX5_digit_5 ?_
  refine lv_icmp_ge (tgt := 39) hx hb dX5_digit_8 (by decide) (fun h => ?_) (fun h => ?_)
  · replace hq := br_pos h hq
    refine lv_iconst (v := 0) hx hb dX5_digit_39 (by decide) ?_
    exact hret _ _ _ _ _ _ dX5_digit_40 hW hq
  · replace hq := br_neg h hq
    refine lv_aload_n hx hb dX5_digit_11 rfl (lv_at hl 0 rfl) ?_
    refine xg_X5_9 C hW dX5_digit_12 ?_
    refine lv_aload_n hx hb dX5_digit_15 rfl (lv_at hl 0 rfl) ?_
    refine xg_X5_23 C hW dX5_digit_16 ?_
    obtain ⟨hin1, hq⟩ := hq
    refine xa_S C hW hin1 dX5_digit_19 ?_
    refine lv_bipush (v := 49) hx hb dX5_digit_20 (by decide) ?_
    refine lv_icmp_lt (tgt := 39) hx hb dX5_digit_22 (by decide) (fun h => ?_) (fun h => ?_)
    · replace hq := br_pos h hq
      refine lv_iconst (v := 0) hx hb dX5_digit_39 (by decide) ?_
      exact hret _ _ _ _ _ _ dX5_digit_40 hW hq
    · replace hq := br_neg h hq
      refine lv_aload_n hx hb dX5_digit_25 rfl (lv_at hl 0 rfl) ?_
      refine xg_X5_9 C hW dX5_digit_26 ?_
      refine lv_aload_n hx hb dX5_digit_29 rfl (lv_at hl 0 rfl) ?_
      refine xg_X5_23 C hW dX5_digit_30 ?_
      refine xa_S C hW hin1 dX5_digit_33 ?_
      refine lv_bipush (v := 57) hx hb dX5_digit_34 (by decide) ?_
      refine lv_icmp_le (tgt := 41) hx hb dX5_digit_36 (by decide) (fun h => ?_) (fun h => ?_)
      · replace hq := br_pos h hq
        refine lv_aload_n hx hb dX5_digit_41 rfl (lv_at hl 0 rfl) ?_
        refine lv_dup hx hb dX5_digit_42 rfl ?_
        refine xg_X5_23 C hW dX5_digit_43 ?_
        refine lv_iconst (v := 1) hx hb dX5_digit_46 (by decide) ?_
        refine lv_iadd hx hb dX5_digit_47 ?_
        refine xp_X5_23 C hW dX5_digit_48 (fun σ_2 H locs eσ_2 hW => ?_)
        replace hq := hq _ eσ_2
        refine lv_aload_n hx hb dX5_digit_51 rfl (lv_at hl 0 rfl) ?_
        refine xg_X5_9 C hW dX5_digit_52 ?_
        refine lv_aload_n hx hb dX5_digit_55 rfl (lv_at hl 0 rfl) ?_
        refine xg_X5_23 C hW dX5_digit_56 ?_
        refine lv_iconst (v := 1) hx hb dX5_digit_59 (by decide) ?_
        refine lv_isub hx hb dX5_digit_60 ?_
        obtain ⟨hin3, hq⟩ := hq
        refine xa_S C hW hin3 dX5_digit_61 ?_
        refine lv_bipush (v := 48) hx hb dX5_digit_62 (by decide) ?_
        refine lv_isub hx hb dX5_digit_64 ?_
        exact hret _ _ _ _ _ _ dX5_digit_65 hW hq
      · replace hq := br_neg h hq
        refine lv_iconst (v := 0) hx hb dX5_digit_39 (by decide) ?_
        exact hret _ _ _ _ _ _ dX5_digit_40 hW hq
set_option maxHeartbeats 4000000 in
set_option maxRecDepth 100000 in
theorem mX5_digit {l : Launch} {g : XG} {σ : XS} {P : Int32 → XS → Prop} (hq : qX5_digit g σ  P) (sz : Nat) : Met l yX5_digit (cws yX5_digit cX5_digit 1 (some .int)) ({ frames := 0, cells := 0, slots := 0, locals := 0 } : Room) (va_Pc [.ref (g.2.1 3)] (WP g.1 (xw g) (xty g) σ sz)) (va_Qi P (WB g.1 (xw g) (xty g) σ sz) (va_A (xw g σ) sz)) 0 0 (va_A (xw g σ) sz) :=
  w_enter (by decide) (Nat.le_of_ble_eq_true rfl) (fun p e s m args below meth c ls C hr hk hn hs hW hl => wX5_digit C (Nat.le_refl _) (Nat.le_refl _) (fun pc ls v σ H locs hd hW hq => w_iret C hs hr hk hW hd hq) hW hl hq)
set_option maxHeartbeats 4000000 in
set_option maxRecDepth 100000 in
theorem kX5_digit_X5_37 (C : CallFix p m c cc nL s args lwg RX5) {σ : XS} (hW : WI g.1 (xw g) (xty g) A s σ H locs) (hRf : 1 ≤ R.frames) (hRl : 20 ≤ R.locals) (hls : ls.size = nL) (hro : (rest.map fun v => v.category).sum ≤ 8) (hd : decode cc pc = .ok (.invokevirtual 37, 3)) {P : Int32 → XS → Prop} (hq : qX5_digit g σ  P) (kk : ∀ (r : Int32) (σ1 : XS) (H : Heap) (locs : List Loc), P r σ1 → WI g.1 (xw g) (xty g) A s σ1 H locs → W p l e R s m args below meth c H locs 0 0 Q (F0 m (pc + 3) ls (.int r :: rest))) : W p l e R s m args below meth c H locs 0 0 Q (F0 m pc ls (.ref (g.2.1 3) :: rest)) :=
  w_calli hW (w_runV C hW (mX5_digit hq _) ⟨(lwg_at 330 (by decide +kernel) rfl), (lwg_at 70 (by decide +kernel) rfl), (lwg_at 327 (by decide +kernel) rfl)⟩ (lwg_at 329 (by decide +kernel) rfl) (lwg_at 1 (by decide +kernel) rfl) (np := 0) (by decide +kernel) ⟨rfl, rfl⟩ ⟨hRf, hRl⟩ (ci := 6) rfl rfl (q0 := 3) rfl rfl hls rfl hro hd ⟨Nat.zero_le _, Nat.zero_le _⟩) kk
-- X5_read
set_option maxHeartbeats 4000000 in
set_option maxRecDepth 100000 in
theorem wX5_read_J102 (C : CallFix p m c cX5_read 3 s args lwg RX5) (hRf : 1 ≤ R.frames) (hRl : 21 ≤ R.locals) {P : XS → Prop} (hret : RetV g.1 (xw g) (xty g) A p l e R s m args below meth c 0 0 Q cX5_read P) {σ : XS} {x2 : Int32} {y0 : Int32} {H : Heap} {locs : List Loc} {ls : Array Slot} (hW : WI g.1 (xw g) (xty g) A s σ H locs) (hl : lv_has ls 3 [(0, .ref (g.2.1 3)), (2, .int x2)]) (hq : qX5_read_J102 g  P σ x2 y0) : W p l e R s m args below meth c H locs 0 0 Q (F0 m 102 ls [.int y0, .ref (g.2.1 3)]) := by
  have hx := C.1
  have hb := C.2.1
  unfold qX5_read_J102 at hq
  refine xp_X5_47 C hW dX5_read_102 (fun σ_1 H locs eσ_1 hW => ?_)
  replace hq := hq _ eσ_1
  refine lv_aload_n hx hb dX5_read_105 rfl (lv_at hl 0 rfl) ?_
  refine lv_aload_n hx hb dX5_read_106 rfl (lv_at hl 0 rfl) ?_
  refine xg_X5_23 C hW dX5_read_107 ?_
  refine lv_aload_n hx hb dX5_read_110 rfl (lv_at hl 0 rfl) ?_
  refine xg_X5_19 C hW dX5_read_111 ?_
  refine (fun (K : ∀ v_2 : Int32, v_2 = ((if (xP σ_1 2) = (xP σ_1 1) then (if x2 = 0 then 1 else (if (xP σ_1 7) = 0 then 0 else 1)) else 0) : Int32) → W p l e R s m args below meth c H locs 0 0 Q (F0 m 133 ls (.int v_2 :: [.ref (g.2.1 3)]))) => ?_) ?_
  · refine lv_icmp_ne (tgt := 132) hx hb dX5_read_114 (by decide) (fun h114 => ?_) (fun h114 => ?_)
    · refine lv_iconst (v := 0) hx hb dX5_read_132 (by decide) ?_
      exact K _ (by rw [if_neg h114])
    · refine lv_iload_n hx hb dX5_read_117 rfl (lv_at hl 1 rfl) ?_
      refine lv_if_eq (tgt := 128) hx hb dX5_read_118 (by decide) (fun h118 => ?_) (fun h118 => ?_)
      · refine lv_iconst (v := 1) hx hb dX5_read_128 (by decide) ?_
        refine lv_goto (tgt := 133) hx hb dX5_read_129 (by decide) ?_
        exact K _ (by rw [if_pos h114, if_pos h118])
      · refine lv_aload_n hx hb dX5_read_121 rfl (lv_at hl 0 rfl) ?_
        refine xg_X5_47 C hW dX5_read_122 ?_
        refine lv_if_eq (tgt := 132) hx hb dX5_read_125 (by decide) (fun h125 => ?_) (fun h125 => ?_)
        · refine lv_iconst (v := 0) hx hb dX5_read_132 (by decide) ?_
          exact K _ (by rw [if_pos h114, if_neg h118, if_pos h125])
        · refine lv_iconst (v := 1) hx hb dX5_read_128 (by decide) ?_
          refine lv_goto (tgt := 133) hx hb dX5_read_129 (by decide) ?_
          exact K _ (by rw [if_pos h114, if_neg h118, if_neg h125])
  intro v_2 ev_2
  replace hq := hq _ ev_2
  refine xp_X5_26 C hW (by rw [ev_2]; exact (isB_ite (isB_ite isB_1 (isB_ite isB_0 isB_1)) isB_0)) dX5_read_133 (fun σ_3 H locs eσ_3 hW => ?_)
  replace hq := hq _ eσ_3
  exact hret _ _ _ _ _ dX5_read_136 hW hq
set_option maxHeartbeats 4000000 in
set_option maxRecDepth 100000 in
theorem wX5_read_J72 (C : CallFix p m c cX5_read 3 s args lwg RX5) (hRf : 1 ≤ R.frames) (hRl : 21 ≤ R.locals) {P : XS → Prop} (hret : RetV g.1 (xw g) (xty g) A p l e R s m args below meth c 0 0 Q cX5_read P) {σ : XS} {H : Heap} {locs : List Loc} {ls : Array Slot} (hW : WI g.1 (xw g) (xty g) A s σ H locs) (hl : lv_has ls 3 [(0, .ref (g.2.1 3))]) (hq : qX5_read_J72 g  P σ ) : W p l e R s m args below meth c H locs 0 0 Q (F0 m 72 ls []) := by
  have hx := C.1
  have hb := C.2.1
  unfold qX5_read_J72 at hq
  refine lv_aload_n hx hb dX5_read_72 rfl (lv_at hl 0 rfl) ?_
  refine lv_aload_n hx hb dX5_read_73 rfl (lv_at hl 0 rfl) ?_
  refine lv_bipush (v := 100) hx hb dX5_read_74 (by decide) ?_
  refine kX5_comes_X5_30 C hW (Nat.le_trans (by decide) hRf) (Nat.le_trans (by decide) hRl) hl.1 (Nat.le_of_ble_eq_true rfl) dX5_read_76 hq (fun r_2 σ_1 H locs hq hW => ?_)
  obtain ⟨hib, hq⟩ := hq
  refine xp_X5_44 C hW hib dX5_read_79 (fun σ_3 H locs eσ_3 hW => ?_)
  replace hq := hq _ eσ_3
  refine lv_aload_n hx hb dX5_read_82 rfl (lv_at hl 0 rfl) ?_
  refine lv_bipush (v := 120) hx hb dX5_read_83 (by decide) ?_
  refine kX5_comes_X5_30 C hW (Nat.le_trans (by decide) hRf) (Nat.le_trans (by decide) hRl) hl.1 (Nat.le_of_ble_eq_true rfl) dX5_read_85 hq (fun r_5 σ_4 H locs hq hW => ?_)
  refine lv_istore_n (lv' := [(2, .int r_5), (0, .ref (g.2.1 3))]) hx hb dX5_read_88 rfl hl (by decide) rfl (fun ls hl => ?_)
  refine lv_aload_n hx hb dX5_read_89 rfl (lv_at hl 1 rfl) ?_
  refine lv_iload_n hx hb dX5_read_90 rfl (lv_at hl 0 rfl) ?_
  refine lv_if_eq (tgt := 101) hx hb dX5_read_91 (by decide) (fun h => ?_) (fun h => ?_)
  · replace hq := br_pos h hq
    refine lv_iconst (v := 0) hx hb dX5_read_101 (by decide) ?_
    exact wX5_read_J102 C hRf hRl hret  hW (lv_sub hl [1, 0] rfl) hq
  · replace hq := br_neg h hq
    refine lv_aload_n hx hb dX5_read_94 rfl (lv_at hl 1 rfl) ?_
    refine kX5_digit_X5_37 C hW (Nat.le_trans (by decide) hRf) (Nat.le_trans (by decide) hRl) hl.1 (Nat.le_of_ble_eq_true rfl) dX5_read_95 hq (fun r_7 σ_6 H locs hq hW => ?_)
    refine lv_goto (tgt := 102) hx hb dX5_read_98 (by decide) ?_
    exact wX5_read_J102 C hRf hRl hret  hW (lv_sub hl [1, 0] rfl) hq
set_option maxHeartbeats 4000000 in
set_option maxRecDepth 100000 in
theorem wX5_read_J57 (C : CallFix p m c cX5_read 3 s args lwg RX5) (hRf : 1 ≤ R.frames) (hRl : 21 ≤ R.locals) {P : XS → Prop} (hret : RetV g.1 (xw g) (xty g) A p l e R s m args below meth c 0 0 Q cX5_read P) {σ : XS} {x1 : Int32} {y0 : Int32} {H : Heap} {locs : List Loc} {ls : Array Slot} (hW : WI g.1 (xw g) (xty g) A s σ H locs) (hl : lv_has ls 3 [(0, .ref (g.2.1 3)), (1, .int x1)]) (hq : qX5_read_J57 g  P σ x1 y0) : W p l e R s m args below meth c H locs 0 0 Q (F0 m 57 ls [.int y0, .ref (g.2.1 3)]) := by
  have hx := C.1
  have hb := C.2.1
  unfold qX5_read_J57 at hq
  refine xp_X5_41 C hW dX5_read_57 (fun σ_1 H locs eσ_1 hW => ?_)
  replace hq := hq _ eσ_1
  refine lv_iload_n hx hb dX5_read_60 rfl (lv_at hl 1 rfl) ?_
  refine lv_if_eq (tgt := 72) hx hb dX5_read_61 (by decide) (fun h => ?_) (fun h => ?_)
  · replace hq := br_pos h hq
    exact wX5_read_J72 C hRf hRl hret  hW (lv_sub hl [0] rfl) hq
  · replace hq := br_neg h hq
    refine lv_aload_n hx hb dX5_read_64 rfl (lv_at hl 0 rfl) ?_
    refine xg_X5_41 C hW dX5_read_65 ?_
    refine lv_if_ne (tgt := 72) hx hb dX5_read_68 (by decide) (fun h => ?_) (fun h => ?_)
    · replace hq := br_neg h hq
      exact wX5_read_J72 C hRf hRl hret  hW (lv_sub hl [0] rfl) hq
    · replace hq := br_pos h hq
      exact hret _ _ _ _ _ dX5_read_71 hW hq
set_option maxHeartbeats 4000000 in
set_option maxRecDepth 100000 in
theorem wX5_read_J37 (C : CallFix p m c cX5_read 3 s args lwg RX5) (hRf : 1 ≤ R.frames) (hRl : 21 ≤ R.locals) {P : XS → Prop} (hret : RetV g.1 (xw g) (xty g) A p l e R s m args below meth c 0 0 Q cX5_read P) {σ : XS} {H : Heap} {locs : List Loc} {ls : Array Slot} (hW : WI g.1 (xw g) (xty g) A s σ H locs) (hl : lv_has ls 3 [(0, .ref (g.2.1 3))]) (hq : qX5_read_J37 g  P σ ) : W p l e R s m args below meth c H locs 0 0 Q (F0 m 37 ls []) := by
  have hx := C.1
  have hb := C.2.1
  unfold qX5_read_J37 at hq
  refine lv_aload_n hx hb dX5_read_37 rfl (lv_at hl 0 rfl) ?_
  refine lv_bipush (v := 116) hx hb dX5_read_38 (by decide) ?_
  refine kX5_comes_X5_30 C hW (Nat.le_trans (by decide) hRf) (Nat.le_trans (by decide) hRl) hl.1 (Nat.le_of_ble_eq_true rfl) dX5_read_40 hq (fun r_2 σ_1 H locs hq hW => ?_)
  refine lv_istore_n (lv' := [(1, .int r_2), (0, .ref (g.2.1 3))]) hx hb dX5_read_43 rfl hl (by decide) rfl (fun ls hl => ?_)
  refine lv_aload_n hx hb dX5_read_44 rfl (lv_at hl 1 rfl) ?_
  refine lv_iload_n hx hb dX5_read_45 rfl (lv_at hl 0 rfl) ?_
  refine lv_if_eq (tgt := 56) hx hb dX5_read_46 (by decide) (fun h => ?_) (fun h => ?_)
  · replace hq := br_pos h hq
    refine lv_iconst (v := 0) hx hb dX5_read_56 (by decide) ?_
    exact wX5_read_J57 C hRf hRl hret  hW (lv_sub hl [1, 0] rfl) hq
  · replace hq := br_neg h hq
    refine lv_aload_n hx hb dX5_read_49 rfl (lv_at hl 1 rfl) ?_
    refine kX5_digit_X5_37 C hW (Nat.le_trans (by decide) hRf) (Nat.le_trans (by decide) hRl) hl.1 (Nat.le_of_ble_eq_true rfl) dX5_read_50 hq (fun r_4 σ_3 H locs hq hW => ?_)
    refine lv_goto (tgt := 57) hx hb dX5_read_53 (by decide) ?_
    exact wX5_read_J57 C hRf hRl hret  hW (lv_sub hl [1, 0] rfl) hq
set_option maxHeartbeats 4000000 in
set_option maxRecDepth 100000 in
theorem wX5_read (C : CallFix p m c cX5_read 3 s args lwg RX5) (hRf : 1 ≤ R.frames) (hRl : 21 ≤ R.locals) {P : XS → Prop} (hret : RetV g.1 (xw g) (xty g) A p l e R s m args below meth c 0 0 Q cX5_read P) {σ : XS} {H : Heap} {locs : List Loc} {ls : Array Slot} (hW : WI g.1 (xw g) (xty g) A s σ H locs) (hl : lv_has ls 3 [(0, .ref (g.2.1 3))]) (hq : qX5_read g σ  P) : W p l e R s m args below meth c H locs 0 0 Q (F0 m 0 ls []) := by
  have hx := C.1
  have hb := C.2.1
  unfold qX5_read at hq
  refine lv_aload_n hx hb dX5_read_0 rfl (lv_at hl 0 rfl) ?_
  refine lv_iconst (v := 0) hx hb dX5_read_1 (by decide) ?_
  refine xp_X5_23 C hW dX5_read_2 (fun σ_1 H locs eσ_1 hW => ?_)
  replace hq := hq _ eσ_1
  refine lv_aload_n hx hb dX5_read_5 rfl (lv_at hl 0 rfl) ?_
  refine lv_iconst (v := 0) hx hb dX5_read_6 (by decide) ?_
  refine xp_X5_26 C hW isB_0 dX5_read_7 (fun σ_2 H locs eσ_2 hW => ?_)
  replace hq := hq _ eσ_2
  refine lv_aload_n hx hb dX5_read_10 rfl (lv_at hl 0 rfl) ?_
  refine lv_aload_n hx hb dX5_read_11 rfl (lv_at hl 0 rfl) ?_
  refine lv_bipush (v := 108) hx hb dX5_read_12 (by decide) ?_
  refine kX5_comes_X5_30 C hW (Nat.le_trans (by decide) hRf) (Nat.le_trans (by decide) hRl) hl.1 (Nat.le_of_ble_eq_true rfl) dX5_read_14 hq (fun r_4 σ_3 H locs hq hW => ?_)
  obtain ⟨hib, hq⟩ := hq
  refine xp_X5_34 C hW hib dX5_read_17 (fun σ_5 H locs eσ_5 hW => ?_)
  replace hq := hq _ eσ_5
  refine lv_aload_n hx hb dX5_read_20 rfl (lv_at hl 0 rfl) ?_
  refine xg_X5_34 C hW dX5_read_21 ?_
  refine lv_if_ne (tgt := 37) hx hb dX5_read_24 (by decide) (fun h => ?_) (fun h => ?_)
  · replace hq := br_neg h hq
    exact wX5_read_J37 C hRf hRl hret  hW hl hq
  · replace hq := br_pos h hq
    refine lv_aload_n hx hb dX5_read_27 rfl (lv_at hl 0 rfl) ?_
    refine lv_bipush (v := 114) hx hb dX5_read_28 (by decide) ?_
    refine kX5_comes_X5_30 C hW (Nat.le_trans (by decide) hRf) (Nat.le_trans (by decide) hRl) hl.1 (Nat.le_of_ble_eq_true rfl) dX5_read_30 hq (fun r_7 σ_6 H locs hq hW => ?_)
    refine lv_if_ne (tgt := 37) hx hb dX5_read_33 (by decide) (fun h => ?_) (fun h => ?_)
    · replace hq := br_neg h hq
      exact wX5_read_J37 C hRf hRl hret  hW hl hq
    · replace hq := br_pos h hq
      exact hret _ _ _ _ _ dX5_read_36 hW hq
set_option maxHeartbeats 4000000 in
set_option maxRecDepth 100000 in
theorem mX5_read {l : Launch} {g : XG} {σ : XS} {P : XS → Prop} (hq : qX5_read g σ  P) (sz : Nat) : Met l yX5_read (cws yX5_read cX5_read 3 none) ({ frames := 1, cells := 0, slots := 0, locals := 21 } : Room) (va_Pc [.ref (g.2.1 3)] (WP g.1 (xw g) (xty g) σ sz)) (va_Qv P (WB g.1 (xw g) (xty g) σ sz) (va_A (xw g σ) sz)) 0 0 (va_A (xw g σ) sz) :=
  w_enter (by decide) (Nat.le_of_ble_eq_true rfl) (fun p e s m args below meth c ls C hr hk hn hs hW hl => wX5_read C (Nat.le_refl _) (Nat.le_refl _) (fun pc ls σ H locs hd hW hq => w_vret C hs hr hk hW hd hq) hW hl hq)
set_option maxHeartbeats 4000000 in
set_option maxRecDepth 100000 in
theorem kX5_read_X10_71 (C : CallFix p m c cc nL s args lwg RX10) {σ : XS} (hW : WI g.1 (xw g) (xty g) A s σ H locs) (hRf : 2 ≤ R.frames) (hRl : 43 ≤ R.locals) (hls : ls.size = nL) (hro : (rest.map fun v => v.category).sum ≤ 8) (hd : decode cc pc = .ok (.invokevirtual 71, 3)) {P : XS → Prop} (hq : qX5_read g σ  P) (kk : ∀ (σ1 : XS) (H : Heap) (locs : List Loc), P σ1 → WI g.1 (xw g) (xty g) A s σ1 H locs → W p l e R s m args below meth c H locs 0 0 Q (F0 m (pc + 3) ls rest)) : W p l e R s m args below meth c H locs 0 0 Q (F0 m pc ls (.ref (g.2.1 3) :: rest)) :=
  w_callv hW (w_runV C hW (mX5_read hq _) ⟨(lwg_at 322 (by decide +kernel) rfl), (lwg_at 70 (by decide +kernel) rfl), (lwg_at 319 (by decide +kernel) rfl)⟩ (lwg_at 320 (by decide +kernel) rfl) (lwg_at 321 (by decide +kernel) rfl) (np := 0) (by decide +kernel) ⟨rfl, rfl⟩ ⟨hRf, hRl⟩ (ci := 6) rfl rfl (q0 := 3) rfl rfl hls rfl hro hd ⟨Nat.zero_le _, Nat.zero_le _⟩) kk
-- X8_starvedInAll
set_option maxHeartbeats 4000000 in
set_option maxRecDepth 100000 in
theorem wX8_starvedInAll_L4 (C : CallFix p m c cX8_starvedInAll 3 s args lwg RX8) (hRf : 1 ≤ R.frames) (hRl : 21 ≤ R.locals) {P : Int32 → XS → Prop} (hret : RetI g.1 (xw g) (xty g) A p l e R s m args below meth c 0 0 Q cX8_starvedInAll P) : ∀ (n : Nat) (σ : XS) (x0 : Fin 3) (x1 : Int32) (x2 : Int32) (H : Heap) (locs : List Loc) (ls : Array Slot), WI g.1 (xw g) (xty g) A s σ H locs → lv_has ls 3 [(0, .ref (tA g x0)), (1, .int x1), (2, .int x2)] → qX8_starvedInAll_L4 g  P n σ x0 x1 x2 → W p l e R s m args below meth c H locs 0 0 Q (F0 m 4 ls []) := by
  have hx := C.1
  have hb := C.2.1
  intro n
  induction n with
  | zero =>
    intro σ x0 x1 x2 H locs ls hW hl hq
    rw [qX8_starvedInAll_L4] at hq
    exact hq.elim
  | succ n ih =>
    intro σ x0 x1 x2 H locs ls hW hl hq
    rw [qX8_starvedInAll_L4] at hq
    refine lv_iload_n hx hb dX8_starvedInAll_4 rfl (lv_at hl 2 rfl) ?_
    refine lv_aload_n hx hb dX8_starvedInAll_5 rfl (lv_at hl 0 rfl) ?_
    refine xg_X8_25 C hW dX8_starvedInAll_6 ?_
    refine xsiz_H_X8_47 C hW (Nat.le_trans (by decide) hRf) (Nat.le_trans (by decide) hRl) hl.1 (Nat.le_of_ble_eq_true rfl) dX8_starvedInAll_9 (fun H locs hW => ?_)
    refine lv_icmp_ge (tgt := 32) hx hb dX8_starvedInAll_12 (by decide) (fun h => ?_) (fun h => ?_)
    · replace hq := br_pos h hq
      refine lv_iload_n hx hb dX8_starvedInAll_32 rfl (lv_at hl 1 rfl) ?_
      exact hret _ _ _ _ _ _ dX8_starvedInAll_33 hW hq
    · replace hq := br_neg h hq
      refine lv_iload_n hx hb dX8_starvedInAll_15 rfl (lv_at hl 1 rfl) ?_
      refine lv_aload_n hx hb dX8_starvedInAll_16 rfl (lv_at hl 0 rfl) ?_
      refine lv_iload_n hx hb dX8_starvedInAll_17 rfl (lv_at hl 2 rfl) ?_
      refine kX8_isStarved_X8_55 C hW (Nat.le_trans (by decide) hRf) (Nat.le_trans (by decide) hRl) hl.1 (Nat.le_of_ble_eq_true rfl) dX8_starvedInAll_18 hq (fun r_2 σ_1 H locs hq hW => ?_)
      refine kX10_asNumber_X8_59 C hW (Nat.le_trans (by decide) hRf) (Nat.le_trans (by decide) hRl) hl.1 (Nat.le_of_ble_eq_true rfl) dX8_starvedInAll_21 hq (fun r_4 σ_3 H locs hq hW => ?_)
      refine lv_iadd hx hb dX8_starvedInAll_24 ?_
      refine lv_topi (fun x1_5 ex1_5 => ?_)
      replace hq := hq _ ex1_5
      refine lv_istore_n (lv' := [(1, .int x1_5), (0, .ref (tA g x0)), (2, .int x2)]) hx hb dX8_starvedInAll_25 rfl hl (by decide) rfl (fun ls hl => ?_)
      obtain ⟨x2_6, ex2_6⟩ : ∃ y : Int32, y = x2 + 1 := ⟨_, rfl⟩
      replace hq := hq _ ex2_6
      refine lv_iinc (v := x2_6) (lv' := [(2, .int x2_6), (1, .int x1_5), (0, .ref (tA g x0))]) hx hb dX8_starvedInAll_26 hl (k := 2) rfl (by rw [ex2_6]; rfl) (by decide) rfl (fun ls hl => ?_)
      refine lv_goto (tgt := 4) hx hb dX8_starvedInAll_29 (by decide) ?_
      exact ih _ _ _ _ _ _ _ hW (lv_sub hl [2, 1, 0] rfl) hq
set_option maxHeartbeats 4000000 in
set_option maxRecDepth 100000 in
theorem wX8_starvedInAll (C : CallFix p m c cX8_starvedInAll 3 s args lwg RX8) (hRf : 1 ≤ R.frames) (hRl : 21 ≤ R.locals) {P : Int32 → XS → Prop} (hret : RetI g.1 (xw g) (xty g) A p l e R s m args below meth c 0 0 Q cX8_starvedInAll P) {σ : XS} {x0 : Fin 3} {H : Heap} {locs : List Loc} {ls : Array Slot} (hW : WI g.1 (xw g) (xty g) A s σ H locs) (hl : lv_has ls 3 [(0, .ref (tA g x0))]) (hq : qX8_starvedInAll g σ x0 P) : W p l e R s m args below meth c H locs 0 0 Q (F0 m 0 ls []) := by
  have hx := C.1
  have hb := C.2.1
  unfold qX8_starvedInAll at hq
  refine lv_iconst (v := 0) hx hb dX8_starvedInAll_0 (by decide) ?_
  refine lv_istore_n (lv' := [(1, .int 0), (0, .ref (tA g x0))]) hx hb dX8_starvedInAll_1 rfl hl (by decide) rfl (fun ls hl => ?_)
  refine lv_iconst (v := 0) hx hb dX8_starvedInAll_2 (by decide) ?_
  refine lv_istore_n (lv' := [(2, .int 0), (1, .int 0), (0, .ref (tA g x0))]) hx hb dX8_starvedInAll_3 rfl hl (by decide) rfl (fun ls hl => ?_)
  obtain ⟨f4, hq⟩ := hq
  exact wX8_starvedInAll_L4 C hRf hRl hret f4 _ _ _ _ _ _ _ hW (lv_sub hl [2, 1, 0] rfl) hq
set_option maxHeartbeats 4000000 in
set_option maxRecDepth 100000 in
theorem mX8_starvedInAll {l : Launch} {g : XG} {σ : XS} {x0 : Fin 3} {P : Int32 → XS → Prop} (hq : qX8_starvedInAll g σ x0 P) (sz : Nat) : Met l yX8_starvedInAll (cws yX8_starvedInAll cX8_starvedInAll 3 (some .int)) ({ frames := 1, cells := 0, slots := 0, locals := 21 } : Room) (va_Pc [.ref (tA g x0)] (WP g.1 (xw g) (xty g) σ sz)) (va_Qi P (WB g.1 (xw g) (xty g) σ sz) (va_A (xw g σ) sz)) 0 0 (va_A (xw g σ) sz) :=
  w_enter (by decide) (Nat.le_of_ble_eq_true rfl) (fun p e s m args below meth c ls C hr hk hn hs hW hl => wX8_starvedInAll C (Nat.le_refl _) (Nat.le_refl _) (fun pc ls v σ H locs hd hW hq => w_iret C hs hr hk hW hd hq) hW hl hq)
set_option maxHeartbeats 4000000 in
set_option maxRecDepth 100000 in
theorem kX8_starvedInAll_X10_288 (C : CallFix p m c cc nL s args lwg RX10) {σ : XS} (hW : WI g.1 (xw g) (xty g) A s σ H locs) (hRf : 2 ≤ R.frames) (hRl : 43 ≤ R.locals) (hls : ls.size = nL) (hro : (rest.map fun v => v.category).sum ≤ 8) {x0 : Fin 3} (hd : decode cc pc = .ok (.invokevirtual 288, 3)) {P : Int32 → XS → Prop} (hq : qX8_starvedInAll g σ x0 P) (kk : ∀ (r : Int32) (σ1 : XS) (H : Heap) (locs : List Loc), P r σ1 → WI g.1 (xw g) (xty g) A s σ1 H locs → W p l e R s m args below meth c H locs 0 0 Q (F0 m (pc + 3) ls (.int r :: rest))) : W p l e R s m args below meth c H locs 0 0 Q (F0 m pc ls (.ref (tA g x0) :: rest)) :=
  w_calli hW (w_runV C hW (mX8_starvedInAll hq _) ⟨(lwg_at 860 (by decide +kernel) rfl), (lwg_at 71 (by decide +kernel) rfl), (lwg_at 892 (by decide +kernel) rfl)⟩ (lwg_at 858 (by decide +kernel) rfl) (lwg_at 859 (by decide +kernel) rfl) (np := 0) (by decide +kernel) ⟨rfl, rfl⟩ ⟨hRf, hRl⟩ (ci := 9) rfl rfl (q0 := 5 + 4 * x0.val) (xw_T g σ x0) rfl hls rfl hro hd ⟨Nat.zero_le _, Nat.zero_le _⟩) kk
set_option maxHeartbeats 4000000 in
set_option maxRecDepth 100000 in
theorem kX8_starvedInAll_X6_128 (C : CallFix p m c cc nL s args lwg RX6) {σ : XS} (hW : WI g.1 (xw g) (xty g) A s σ H locs) (hRf : 2 ≤ R.frames) (hRl : 43 ≤ R.locals) (hls : ls.size = nL) (hro : (rest.map fun v => v.category).sum ≤ 8) {x0 : Fin 3} (hd : decode cc pc = .ok (.invokevirtual 128, 3)) {P : Int32 → XS → Prop} (hq : qX8_starvedInAll g σ x0 P) (kk : ∀ (r : Int32) (σ1 : XS) (H : Heap) (locs : List Loc), P r σ1 → WI g.1 (xw g) (xty g) A s σ1 H locs → W p l e R s m args below meth c H locs 0 0 Q (F0 m (pc + 3) ls (.int r :: rest))) : W p l e R s m args below meth c H locs 0 0 Q (F0 m pc ls (.ref (tA g x0) :: rest)) :=
  w_calli hW (w_runV C hW (mX8_starvedInAll hq _) ⟨(lwg_at 860 (by decide +kernel) rfl), (lwg_at 71 (by decide +kernel) rfl), (lwg_at 857 (by decide +kernel) rfl)⟩ (lwg_at 858 (by decide +kernel) rfl) (lwg_at 859 (by decide +kernel) rfl) (np := 0) (by decide +kernel) ⟨rfl, rfl⟩ ⟨hRf, hRl⟩ (ci := 9) rfl rfl (q0 := 5 + 4 * x0.val) (xw_T g σ x0) rfl hls rfl hro hd ⟨Nat.zero_le _, Nat.zero_le _⟩) kk
-- X6_seatAlive
set_option maxHeartbeats 4000000 in
set_option maxRecDepth 100000 in
theorem wX6_seatAlive_L5 (C : CallFix p m c cX6_seatAlive 5 s args lwg RX6) (hRf : 3 ≤ R.frames) (hRl : 63 ≤ R.locals) {P : Int32 → XS → Prop} (hret : RetI g.1 (xw g) (xty g) A p l e R s m args below meth c 0 0 Q cX6_seatAlive P) : ∀ (n : Nat) (σ : XS) (x2 : Int32) (x3 : Int32) (x4 : Int32) (H : Heap) (locs : List Loc) (ls : Array Slot), WI g.1 (xw g) (xty g) A s σ H locs → lv_has ls 5 [(0, .ref (g.2.1 17)), (2, .int x2), (3, .int x3), (4, .int x4)] → qX6_seatAlive_L5 g  P n σ x2 x3 x4 → W p l e R s m args below meth c H locs 0 0 Q (F0 m 5 ls []) := by
  have hx := C.1
  have hb := C.2.1
  intro n
  induction n with
  | zero =>
    intro σ x2 x3 x4 H locs ls hW hl hq
    rw [qX6_seatAlive_L5] at hq
    exact hq.elim
  | succ n ih =>
    intro σ x2 x3 x4 H locs ls hW hl hq
    rw [qX6_seatAlive_L5] at hq
    refine lv_iload hx hb dX6_seatAlive_5 (lv_at hl 3 rfl) ?_
    refine lv_aload_n hx hb dX6_seatAlive_7 rfl (lv_at hl 0 rfl) ?_
    refine xg_X6_27 C hW dX6_seatAlive_8 ?_
    refine xg_X6_119 C hW dX6_seatAlive_11 ?_
    refine xsiz_H_X6_123 C hW (Nat.le_trans (by decide) hRf) (Nat.le_trans (by decide) hRl) hl.1 (Nat.le_of_ble_eq_true rfl) dX6_seatAlive_14 (fun H locs hW => ?_)
    refine lv_icmp_ge (tgt := 55) hx hb dX6_seatAlive_17 (by decide) (fun h => ?_) (fun h => ?_)
    · replace hq := br_pos h hq
      refine lv_iload_n hx hb dX6_seatAlive_55 rfl (lv_at hl 2 rfl) ?_
      exact hret _ _ _ _ _ _ dX6_seatAlive_56 hW hq
    · replace hq := br_neg h hq
      refine lv_aload_n hx hb dX6_seatAlive_20 rfl (lv_at hl 0 rfl) ?_
      refine xg_X6_27 C hW dX6_seatAlive_21 ?_
      refine lv_aload_n hx hb dX6_seatAlive_24 rfl (lv_at hl 0 rfl) ?_
      refine xg_X6_27 C hW dX6_seatAlive_25 ?_
      refine xg_X6_145 C hW dX6_seatAlive_28 ?_
      refine lv_iload_n hx hb dX6_seatAlive_31 rfl (lv_at hl 2 rfl) ?_
      obtain ⟨hin1, hq⟩ := hq
      refine xa_T1 C hW hin1 dX6_seatAlive_32 ?_
      refine kX8_isStarved_X6_141 C hW (Nat.le_trans (by decide) hRf) (Nat.le_trans (by decide) hRl) hl.1 (Nat.le_of_ble_eq_true rfl) dX6_seatAlive_33 hq (fun r_3 σ_2 H locs hq hW => ?_)
      refine lv_if_eq (tgt := 55) hx hb dX6_seatAlive_36 (by decide) (fun h => ?_) (fun h => ?_)
      · replace hq := br_pos h hq
        refine lv_iload_n hx hb dX6_seatAlive_55 rfl (lv_at hl 2 rfl) ?_
        exact hret _ _ _ _ _ _ dX6_seatAlive_56 hW hq
      · replace hq := br_neg h hq
        refine lv_aload_n hx hb dX6_seatAlive_39 rfl (lv_at hl 0 rfl) ?_
        refine xg_X6_27 C hW dX6_seatAlive_40 ?_
        refine lv_iload_n hx hb dX6_seatAlive_43 rfl (lv_at hl 2 rfl) ?_
        refine lv_iload_n hx hb dX6_seatAlive_44 rfl (lv_at hl 1 rfl) ?_
        refine kX8_seatBeside_X6_115 C hW (Nat.le_trans (by decide) hRf) (Nat.le_trans (by decide) hRl) hl.1 (Nat.le_of_ble_eq_true rfl) dX6_seatAlive_45 hq (fun r_5 σ_4 H locs hq hW => ?_)
        refine lv_istore_n (lv' := [(3, .int r_5), (0, .ref (g.2.1 17)), (2, .int x2), (4, .int x4)]) hx hb dX6_seatAlive_48 rfl hl (by decide) rfl (fun ls hl => ?_)
        obtain ⟨x4_6, ex4_6⟩ : ∃ y : Int32, y = x4 + 1 := ⟨_, rfl⟩
        replace hq := hq _ ex4_6
        refine lv_iinc (v := x4_6) (lv' := [(4, .int x4_6), (3, .int r_5), (0, .ref (g.2.1 17)), (2, .int x2)]) hx hb dX6_seatAlive_49 hl (k := 3) rfl (by rw [ex4_6]; rfl) (by decide) rfl (fun ls hl => ?_)
        refine lv_goto (tgt := 5) hx hb dX6_seatAlive_52 (by decide) ?_
        exact ih _ _ _ _ _ _ _ hW (lv_sub hl [2, 3, 1, 0] rfl) hq
set_option maxHeartbeats 4000000 in
set_option maxRecDepth 100000 in
theorem wX6_seatAlive (C : CallFix p m c cX6_seatAlive 5 s args lwg RX6) (hRf : 3 ≤ R.frames) (hRl : 63 ≤ R.locals) {P : Int32 → XS → Prop} (hret : RetI g.1 (xw g) (xty g) A p l e R s m args below meth c 0 0 Q cX6_seatAlive P) {σ : XS} {x1 : Int32} {x2 : Int32} {H : Heap} {locs : List Loc} {ls : Array Slot} (hW : WI g.1 (xw g) (xty g) A s σ H locs) (hl : lv_has ls 5 [(0, .ref (g.2.1 17)), (1, .int x1), (2, .int x2)]) (hq : qX6_seatAlive g σ x1 x2 P) : W p l e R s m args below meth c H locs 0 0 Q (F0 m 0 ls []) := by
  have hx := C.1
  have hb := C.2.1
  unfold qX6_seatAlive at hq
  refine lv_iload_n hx hb dX6_seatAlive_0 rfl (lv_at hl 1 rfl) ?_
  refine lv_istore_n (lv' := [(3, .int x1), (0, .ref (g.2.1 17)), (1, .int x1), (2, .int x2)]) hx hb dX6_seatAlive_1 rfl hl (by decide) rfl (fun ls hl => ?_)
  refine lv_iconst (v := 0) hx hb dX6_seatAlive_2 (by decide) ?_
  refine lv_istore (lv' := [(4, .int 0), (3, .int x1), (0, .ref (g.2.1 17)), (1, .int x1), (2, .int x2)]) hx hb dX6_seatAlive_3 hl (by decide) rfl (fun ls hl => ?_)
  obtain ⟨f5, hq⟩ := hq
  exact wX6_seatAlive_L5 C hRf hRl hret f5 _ _ _ _ _ _ _ hW (lv_sub hl [2, 4, 1, 0] rfl) hq
set_option maxHeartbeats 4000000 in
set_option maxRecDepth 100000 in
theorem mX6_seatAlive {l : Launch} {g : XG} {σ : XS} {x1 : Int32} {x2 : Int32} {P : Int32 → XS → Prop} (hq : qX6_seatAlive g σ x1 x2 P) (sz : Nat) : Met l yX6_seatAlive (cws yX6_seatAlive cX6_seatAlive 5 (some .int)) ({ frames := 3, cells := 0, slots := 0, locals := 63 } : Room) (va_Pc [.ref (g.2.1 17), .int x1, .int x2] (WP g.1 (xw g) (xty g) σ sz)) (va_Qi P (WB g.1 (xw g) (xty g) σ sz) (va_A (xw g σ) sz)) 0 0 (va_A (xw g σ) sz) :=
  w_enter (by decide) (Nat.le_of_ble_eq_true rfl) (fun p e s m args below meth c ls C hr hk hn hs hW hl => wX6_seatAlive C (Nat.le_refl _) (Nat.le_refl _) (fun pc ls v σ H locs hd hW hq => w_iret C hs hr hk hW hd hq) hW hl hq)
set_option maxHeartbeats 4000000 in
set_option maxRecDepth 100000 in
theorem kX6_seatAlive_X6_131 (C : CallFix p m c cc nL s args lwg RX6) {σ : XS} (hW : WI g.1 (xw g) (xty g) A s σ H locs) (hRf : 4 ≤ R.frames) (hRl : 87 ≤ R.locals) (hls : ls.size = nL) (hro : (rest.map fun v => v.category).sum ≤ 8) {x1 : Int32} {x2 : Int32} (hd : decode cc pc = .ok (.invokevirtual 131, 3)) {P : Int32 → XS → Prop} (hq : qX6_seatAlive g σ x1 x2 P) (kk : ∀ (r : Int32) (σ1 : XS) (H : Heap) (locs : List Loc), P r σ1 → WI g.1 (xw g) (xty g) A s σ1 H locs → W p l e R s m args below meth c H locs 0 0 Q (F0 m (pc + 3) ls (.int r :: rest))) : W p l e R s m args below meth c H locs 0 0 Q (F0 m pc ls (.int x2 :: .int x1 :: .ref (g.2.1 17) :: rest)) :=
  w_calli hW (w_runV C hW (mX6_seatAlive hq _) ⟨(lwg_at 865 (by decide +kernel) rfl), (lwg_at 72 (by decide +kernel) rfl), (lwg_at 862 (by decide +kernel) rfl)⟩ (lwg_at 864 (by decide +kernel) rfl) (lwg_at 21 (by decide +kernel) rfl) (np := 2) (by decide +kernel) ⟨rfl, rfl⟩ ⟨hRf, hRl⟩ (ci := 7) rfl rfl (q0 := 17) rfl rfl hls rfl hro hd ⟨Nat.zero_le _, Nat.zero_le _⟩) kk
-- X6_goBothWays
set_option maxHeartbeats 4000000 in
set_option maxRecDepth 100000 in
theorem wX6_goBothWays_J110 (C : CallFix p m c cX6_goBothWays 7 s args lwg RX6) (hRf : 6 ≤ R.frames) (hRl : 139 ≤ R.locals) {P : XS → Prop} (hret : RetV g.1 (xw g) (xty g) A p l e R s m args below meth c 0 0 Q cX6_goBothWays P) {k41 : XS → Int32 → Int32 → Int32 → Prop} (hk41 : ∀ (σ : XS) (x3 : Int32) (x4 : Int32) (x5 : Int32) (H : Heap) (locs : List Loc) (ls : Array Slot), WI g.1 (xw g) (xty g) A s σ H locs → lv_has ls 7 [(0, .ref (g.2.1 17)), (3, .int x3), (4, .int x4), (5, .int x5)] → k41 σ x3 x4 x5 → W p l e R s m args below meth c H locs 0 0 Q (F0 m 41 ls [])) {σ : XS} {x3 : Int32} {x4 : Int32} {x5 : Int32} {H : Heap} {locs : List Loc} {ls : Array Slot} (hW : WI g.1 (xw g) (xty g) A s σ H locs) (hl : lv_has ls 7 [(0, .ref (g.2.1 17)), (3, .int x3), (4, .int x4), (5, .int x5)]) (hq : qX6_goBothWays_J110 g k41 P σ x3 x4 x5) : W p l e R s m args below meth c H locs 0 0 Q (F0 m 110 ls []) := by
  have hx := C.1
  have hb := C.2.1
  unfold qX6_goBothWays_J110 at hq
  refine lv_aload_n hx hb dX6_goBothWays_110 rfl (lv_at hl 0 rfl) ?_
  refine xg_X6_27 C hW dX6_goBothWays_111 ?_
  refine lv_iload_n hx hb dX6_goBothWays_114 rfl (lv_at hl 1 rfl) ?_
  refine lv_iload hx hb dX6_goBothWays_115 (lv_at hl 3 rfl) ?_
  refine kX8_seatBeside_X6_115 C hW (Nat.le_trans (by decide) hRf) (Nat.le_trans (by decide) hRl) hl.1 (Nat.le_of_ble_eq_true rfl) dX6_goBothWays_117 hq (fun r_2 σ_1 H locs hq hW => ?_)
  refine lv_istore (lv' := [(6, .int r_2), (0, .ref (g.2.1 17)), (3, .int x3), (4, .int x4), (5, .int x5)]) hx hb dX6_goBothWays_120 hl (by decide) rfl (fun ls hl => ?_)
  refine lv_iload hx hb dX6_goBothWays_122 (lv_at hl 3 rfl) ?_
  refine lv_istore_n (lv' := [(3, .int x4), (6, .int r_2), (0, .ref (g.2.1 17)), (4, .int x4), (5, .int x5)]) hx hb dX6_goBothWays_124 rfl hl (by decide) rfl (fun ls hl => ?_)
  refine lv_iload hx hb dX6_goBothWays_125 (lv_at hl 1 rfl) ?_
  refine lv_istore (lv' := [(4, .int r_2), (3, .int x4), (6, .int r_2), (0, .ref (g.2.1 17)), (5, .int x5)]) hx hb dX6_goBothWays_127 hl (by decide) rfl (fun ls hl => ?_)
  refine lv_iload hx hb dX6_goBothWays_129 (lv_at hl 4 rfl) ?_
  refine (fun (K : ∀ v_3 : Int32, v_3 = ((if x5 = 0 then 1 else 0) : Int32) → W p l e R s m args below meth c H locs 0 0 Q (F0 m 139 ls (.int v_3 :: []))) => ?_) ?_
  · refine lv_if_ne (tgt := 138) hx hb dX6_goBothWays_131 (by decide) (fun h131 => ?_) (fun h131 => ?_)
    · refine lv_iconst (v := 0) hx hb dX6_goBothWays_138 (by decide) ?_
      exact K _ (by rw [if_neg h131])
    · refine lv_iconst (v := 1) hx hb dX6_goBothWays_134 (by decide) ?_
      refine lv_goto (tgt := 139) hx hb dX6_goBothWays_135 (by decide) ?_
      exact K _ (by rw [if_pos h131])
  intro v_3 ev_3
  replace hq := hq _ ev_3
  refine lv_istore (lv' := [(5, .int v_3), (4, .int r_2), (3, .int x4), (6, .int r_2), (0, .ref (g.2.1 17))]) hx hb dX6_goBothWays_139 hl (by decide) rfl (fun ls hl => ?_)
  refine lv_goto (tgt := 41) hx hb dX6_goBothWays_141 (by decide) ?_
  exact hk41 _ _ _ _ _ _ _ hW (lv_sub hl [4, 2, 1, 0] rfl) hq
set_option maxHeartbeats 4000000 in
set_option maxRecDepth 100000 in
theorem wX6_goBothWays_L41 (C : CallFix p m c cX6_goBothWays 7 s args lwg RX6) (hRf : 6 ≤ R.frames) (hRl : 139 ≤ R.locals) {P : XS → Prop} (hret : RetV g.1 (xw g) (xty g) A p l e R s m args below meth c 0 0 Q cX6_goBothWays P) : ∀ (n : Nat) (σ : XS) (x3 : Int32) (x4 : Int32) (x5 : Int32) (H : Heap) (locs : List Loc) (ls : Array Slot), WI g.1 (xw g) (xty g) A s σ H locs → lv_has ls 7 [(0, .ref (g.2.1 17)), (3, .int x3), (4, .int x4), (5, .int x5)] → qX6_goBothWays_L41 g  P n σ x3 x4 x5 → W p l e R s m args below meth c H locs 0 0 Q (F0 m 41 ls []) := by
  have hx := C.1
  have hb := C.2.1
  intro n
  induction n with
  | zero =>
    intro σ x3 x4 x5 H locs ls hW hl hq
    rw [qX6_goBothWays_L41] at hq
    exact hq.elim
  | succ n ih =>
    intro σ x3 x4 x5 H locs ls hW hl hq
    rw [qX6_goBothWays_L41] at hq
    refine lv_aload_n hx hb dX6_goBothWays_41 rfl (lv_at hl 0 rfl) ?_
    refine xg_X6_52 C hW dX6_goBothWays_42 ?_
    refine lv_sipush (v := 300) hx hb dX6_goBothWays_45 (by decide) ?_
    refine lv_icmp_ge (tgt := 144) hx hb dX6_goBothWays_48 (by decide) (fun h => ?_) (fun h => ?_)
    · replace hq := br_pos h hq
      exact hret _ _ _ _ _ dX6_goBothWays_144 hW hq
    · replace hq := br_neg h hq
      refine lv_aload_n hx hb dX6_goBothWays_51 rfl (lv_at hl 0 rfl) ?_
      refine kX6_isOver_X6_84 C hW (Nat.le_trans (by decide) hRf) (Nat.le_trans (by decide) hRl) hl.1 (Nat.le_of_ble_eq_true rfl) dX6_goBothWays_52 hq (fun r_2 σ_1 H locs hq hW => ?_)
      refine lv_if_ne (tgt := 144) hx hb dX6_goBothWays_55 (by decide) (fun h => ?_) (fun h => ?_)
      · replace hq := br_neg h hq
        exact hret _ _ _ _ _ dX6_goBothWays_144 hW hq
      · replace hq := br_pos h hq
        refine lv_aload_n hx hb dX6_goBothWays_58 rfl (lv_at hl 0 rfl) ?_
        refine lv_iload_n hx hb dX6_goBothWays_59 rfl (lv_at hl 1 rfl) ?_
        refine lv_iload hx hb dX6_goBothWays_60 (lv_at hl 3 rfl) ?_
        refine kX6_seatAlive_X6_131 C hW (Nat.le_trans (by decide) hRf) (Nat.le_trans (by decide) hRl) hl.1 (Nat.le_of_ble_eq_true rfl) dX6_goBothWays_62 hq (fun r_4 σ_3 H locs hq hW => ?_)
        refine lv_istore_n (lv' := [(3, .int r_4), (0, .ref (g.2.1 17)), (4, .int x4), (5, .int x5)]) hx hb dX6_goBothWays_65 rfl hl (by decide) rfl (fun ls hl => ?_)
        refine lv_aload_n hx hb dX6_goBothWays_66 rfl (lv_at hl 1 rfl) ?_
        refine lv_dup hx hb dX6_goBothWays_67 rfl ?_
        refine xg_X6_52 C hW dX6_goBothWays_68 ?_
        refine lv_iconst (v := 1) hx hb dX6_goBothWays_71 (by decide) ?_
        refine lv_iadd hx hb dX6_goBothWays_72 ?_
        refine xp_X6_52 C hW dX6_goBothWays_73 (fun σ_5 H locs eσ_5 hW => ?_)
        replace hq := hq _ eσ_5
        refine lv_iload_n hx hb dX6_goBothWays_76 rfl (lv_at hl 0 rfl) ?_
        refine lv_iload hx hb dX6_goBothWays_77 (lv_at hl 2 rfl) ?_
        refine lv_icmp_ne (tgt := 90) hx hb dX6_goBothWays_79 (by decide) (fun h => ?_) (fun h => ?_)
        · replace hq := br_neg h hq
          refine lv_aload_n hx hb dX6_goBothWays_90 rfl (lv_at hl 1 rfl) ?_
          refine lv_iload_n hx hb dX6_goBothWays_91 rfl (lv_at hl 0 rfl) ?_
          refine kX6_eat_X6_95 C hW (Nat.le_trans (by decide) hRf) (Nat.le_trans (by decide) hRl) hl.1 (Nat.le_of_ble_eq_true rfl) dX6_goBothWays_92 hq (fun σ_6 H locs hq hW => ?_)
          refine lv_aload_n hx hb dX6_goBothWays_95 rfl (lv_at hl 1 rfl) ?_
          refine lv_aload_n hx hb dX6_goBothWays_96 rfl (lv_at hl 1 rfl) ?_
          refine xg_X6_27 C hW dX6_goBothWays_97 ?_
          refine lv_iload_n hx hb dX6_goBothWays_100 rfl (lv_at hl 0 rfl) ?_
          refine kX8_hermitIn_X6_99 C hW (Nat.le_trans (by decide) hRf) (Nat.le_trans (by decide) hRl) hl.1 (Nat.le_of_ble_eq_true rfl) dX6_goBothWays_101 hq (fun r_8 σ_7 H locs hq hW => ?_)
          refine kV_beatsOfTurn_X6_103 C hW (Nat.le_trans (by decide) hRf) (Nat.le_trans (by decide) hRl) hl.1 (Nat.le_of_ble_eq_true rfl) dX6_goBothWays_104 hq (fun r_10 σ_9 H locs hq hW => ?_)
          refine kX6_passTime_X6_108 C hW (Nat.le_trans (by decide) hRf) (Nat.le_trans (by decide) hRl) hl.1 (Nat.le_of_ble_eq_true rfl) dX6_goBothWays_107 hq (fun σ_11 H locs hq hW => ?_)
          exact wX6_goBothWays_J110 C hRf hRl hret ih hW (lv_sub hl [1, 0, 2, 3] rfl) hq
        · replace hq := br_pos h hq
          refine lv_aload_n hx hb dX6_goBothWays_82 rfl (lv_at hl 1 rfl) ?_
          refine lv_iconst (v := 1) hx hb dX6_goBothWays_83 (by decide) ?_
          refine kX6_passTime_X6_108 C hW (Nat.le_trans (by decide) hRf) (Nat.le_trans (by decide) hRl) hl.1 (Nat.le_of_ble_eq_true rfl) dX6_goBothWays_84 hq (fun σ_12 H locs hq hW => ?_)
          refine lv_goto (tgt := 110) hx hb dX6_goBothWays_87 (by decide) ?_
          exact wX6_goBothWays_J110 C hRf hRl hret ih hW (lv_sub hl [1, 0, 2, 3] rfl) hq
set_option maxHeartbeats 4000000 in
set_option maxRecDepth 100000 in
theorem wX6_goBothWays (C : CallFix p m c cX6_goBothWays 7 s args lwg RX6) (hRf : 6 ≤ R.frames) (hRl : 139 ≤ R.locals) {P : XS → Prop} (hret : RetV g.1 (xw g) (xty g) A p l e R s m args below meth c 0 0 Q cX6_goBothWays P) {σ : XS} {x1 : Int32} {H : Heap} {locs : List Loc} {ls : Array Slot} (hW : WI g.1 (xw g) (xty g) A s σ H locs) (hl : lv_has ls 7 [(0, .ref (g.2.1 17)), (1, .int x1)]) (hq : qX6_goBothWays g σ x1 P) : W p l e R s m args below meth c H locs 0 0 Q (F0 m 0 ls []) := by
  have hx := C.1
  have hb := C.2.1
  unfold qX6_goBothWays at hq
  refine lv_aload_n hx hb dX6_goBothWays_0 rfl (lv_at hl 0 rfl) ?_
  refine xg_X6_27 C hW dX6_goBothWays_1 ?_
  refine xg_X6_119 C hW dX6_goBothWays_4 ?_
  refine xsiz_H_X6_123 C hW (Nat.le_trans (by decide) hRf) (Nat.le_trans (by decide) hRl) hl.1 (Nat.le_of_ble_eq_true rfl) dX6_goBothWays_7 (fun H locs hW => ?_)
  refine lv_topi (fun x2_1 ex2_1 => ?_)
  replace hq := hq _ ex2_1
  refine lv_istore_n (lv' := [(2, .int x2_1), (0, .ref (g.2.1 17)), (1, .int x1)]) hx hb dX6_goBothWays_10 rfl hl (by decide) rfl (fun ls hl => ?_)
  refine lv_iload_n hx hb dX6_goBothWays_11 rfl (lv_at hl 0 rfl) ?_
  refine lv_if_eq (tgt := 26) hx hb dX6_goBothWays_12 (by decide) (fun h => ?_) (fun h => ?_)
  · replace hq := br_pos h hq
    exact hret _ _ _ _ _ dX6_goBothWays_26 hW hq
  · replace hq := br_neg h hq
    refine lv_aload_n hx hb dX6_goBothWays_15 rfl (lv_at hl 1 rfl) ?_
    refine xg_X6_27 C hW dX6_goBothWays_16 ?_
    refine kX8_starvedInAll_X6_128 C hW (Nat.le_trans (by decide) hRf) (Nat.le_trans (by decide) hRl) hl.1 (Nat.le_of_ble_eq_true rfl) dX6_goBothWays_19 hq (fun r_3 σ_2 H locs hq hW => ?_)
    refine lv_iload_n hx hb dX6_goBothWays_22 rfl (lv_at hl 0 rfl) ?_
    refine lv_icmp_ne (tgt := 27) hx hb dX6_goBothWays_23 (by decide) (fun h => ?_) (fun h => ?_)
    · replace hq := br_neg h hq
      refine lv_iload_n hx hb dX6_goBothWays_27 rfl (lv_at hl 2 rfl) ?_
      refine lv_istore_n (lv' := [(3, .int x1), (2, .int x2_1), (0, .ref (g.2.1 17)), (1, .int x1)]) hx hb dX6_goBothWays_28 rfl hl (by decide) rfl (fun ls hl => ?_)
      refine lv_iload_n hx hb dX6_goBothWays_29 rfl (lv_at hl 3 rfl) ?_
      refine lv_iload_n hx hb dX6_goBothWays_30 rfl (lv_at hl 1 rfl) ?_
      refine lv_iconst (v := 2) hx hb dX6_goBothWays_31 (by decide) ?_
      refine lv_idiv hx hb dX6_goBothWays_32 (by decide) ?_
      refine lv_iadd hx hb dX6_goBothWays_33 ?_
      refine lv_iload_n hx hb dX6_goBothWays_34 rfl (lv_at hl 1 rfl) ?_
      obtain ⟨hne, hq⟩ := hq
      refine w_irem hx hb dX6_goBothWays_35 hne ?_
      refine lv_topi (fun x4_4 ex4_4 => ?_)
      replace hq := hq _ ex4_4
      refine lv_istore (lv' := [(4, .int x4_4), (3, .int x1), (2, .int x2_1), (0, .ref (g.2.1 17)), (1, .int x1)]) hx hb dX6_goBothWays_36 hl (by decide) rfl (fun ls hl => ?_)
      refine lv_iconst (v := 1) hx hb dX6_goBothWays_38 (by decide) ?_
      refine lv_istore (lv' := [(5, .int 1), (4, .int x4_4), (3, .int x1), (2, .int x2_1), (0, .ref (g.2.1 17)), (1, .int x1)]) hx hb dX6_goBothWays_39 hl (by decide) rfl (fun ls hl => ?_)
      obtain ⟨f41, hq⟩ := hq
      exact wX6_goBothWays_L41 C hRf hRl hret f41 _ _ _ _ _ _ _ hW (lv_sub hl [4, 2, 1, 0] rfl) hq
    · replace hq := br_pos h hq
      exact hret _ _ _ _ _ dX6_goBothWays_26 hW hq
set_option maxHeartbeats 4000000 in
set_option maxRecDepth 100000 in
theorem mX6_goBothWays {l : Launch} {g : XG} {σ : XS} {x1 : Int32} {P : XS → Prop} (hq : qX6_goBothWays g σ x1 P) (sz : Nat) : Met l yX6_goBothWays (cws yX6_goBothWays cX6_goBothWays 7 none) ({ frames := 6, cells := 0, slots := 0, locals := 139 } : Room) (va_Pc [.ref (g.2.1 17), .int x1] (WP g.1 (xw g) (xty g) σ sz)) (va_Qv P (WB g.1 (xw g) (xty g) σ sz) (va_A (xw g σ) sz)) 0 0 (va_A (xw g σ) sz) :=
  w_enter (by decide) (Nat.le_of_ble_eq_true rfl) (fun p e s m args below meth c ls C hr hk hn hs hW hl => wX6_goBothWays C (Nat.le_refl _) (Nat.le_refl _) (fun pc ls σ H locs hd hW hq => w_vret C hs hr hk hW hd hq) hW hl hq)
set_option maxHeartbeats 4000000 in
set_option maxRecDepth 100000 in
theorem kX6_goBothWays_X10_220 (C : CallFix p m c cc nL s args lwg RX10) {σ : XS} (hW : WI g.1 (xw g) (xty g) A s σ H locs) (hRf : 7 ≤ R.frames) (hRl : 165 ≤ R.locals) (hls : ls.size = nL) (hro : (rest.map fun v => v.category).sum ≤ 8) {x1 : Int32} (hd : decode cc pc = .ok (.invokevirtual 220, 3)) {P : XS → Prop} (hq : qX6_goBothWays g σ x1 P) (kk : ∀ (σ1 : XS) (H : Heap) (locs : List Loc), P σ1 → WI g.1 (xw g) (xty g) A s σ1 H locs → W p l e R s m args below meth c H locs 0 0 Q (F0 m (pc + 3) ls rest)) : W p l e R s m args below meth c H locs 0 0 Q (F0 m pc ls (.int x1 :: .ref (g.2.1 17) :: rest)) :=
  w_callv hW (w_runV C hW (mX6_goBothWays hq _) ⟨(lwg_at 856 (by decide +kernel) rfl), (lwg_at 72 (by decide +kernel) rfl), (lwg_at 853 (by decide +kernel) rfl)⟩ (lwg_at 854 (by decide +kernel) rfl) (lwg_at 855 (by decide +kernel) rfl) (np := 1) (by decide +kernel) ⟨rfl, rfl⟩ ⟨hRf, hRl⟩ (ci := 7) rfl rfl (q0 := 17) rfl rfl hls rfl hro hd ⟨Nat.zero_le _, Nat.zero_le _⟩) kk
-- X6_told
set_option maxHeartbeats 4000000 in
set_option maxRecDepth 100000 in
theorem wX6_told (C : CallFix p m c cX6_told 2 s args lwg RX6) (hRf : 0 ≤ R.frames) (hRl : 0 ≤ R.locals) {P : Int32 → XS → Prop} (hret : RetI g.1 (xw g) (xty g) A p l e R s m args below meth c 0 0 Q cX6_told P) {σ : XS} {x1 : Int32} {H : Heap} {locs : List Loc} {ls : Array Slot} (hW : WI g.1 (xw g) (xty g) A s σ H locs) (hl : lv_has ls 2 [(0, .ref (g.2.1 17)), (1, .int x1)]) (hq : qX6_told g σ x1 P) : W p l e R s m args below meth c H locs 0 0 Q (F0 m 0 ls []) := by
  have hx := C.1
  have hb := C.2.1
  unfold qX6_told at hq
  refine lv_iload_n hx hb dX6_told_0 rfl (lv_at hl 1 rfl) ?_
  by_cases h1_0 : x1 = 0
  · replace hq := br_pos h1_0 hq
    refine lv_tableIn (off := 35) (tgt := 36) hx hb dX6_told_1 (by rw [h1_0]; decide) (by rw [h1_0]; decide) (by rw [h1_0]; decide) (by decide) ?_
    refine lv_aload_n hx hb dX6_told_36 rfl (lv_at hl 0 rfl) ?_
    refine xg_X6_52 C hW dX6_told_37 ?_
    refine lv_goto (tgt := 75) hx hb dX6_told_40 (by decide) ?_
    exact hret _ _ _ _ _ _ dX6_told_75 hW hq
  · replace hq := br_neg h1_0 hq
    by_cases h1_1 : x1 = 1
    · replace hq := br_pos h1_1 hq
      refine lv_tableIn (off := 42) (tgt := 43) hx hb dX6_told_1 (by rw [h1_1]; decide) (by rw [h1_1]; decide) (by rw [h1_1]; decide) (by decide) ?_
      refine lv_aload_n hx hb dX6_told_43 rfl (lv_at hl 0 rfl) ?_
      refine xg_X6_55 C hW dX6_told_44 ?_
      refine lv_goto (tgt := 75) hx hb dX6_told_47 (by decide) ?_
      exact hret _ _ _ _ _ _ dX6_told_75 hW hq
    · replace hq := br_neg h1_1 hq
      by_cases h1_2 : x1 = 2
      · replace hq := br_pos h1_2 hq
        refine lv_tableIn (off := 49) (tgt := 50) hx hb dX6_told_1 (by rw [h1_2]; decide) (by rw [h1_2]; decide) (by rw [h1_2]; decide) (by decide) ?_
        refine lv_aload_n hx hb dX6_told_50 rfl (lv_at hl 0 rfl) ?_
        refine xg_X6_49 C hW dX6_told_51 ?_
        refine lv_goto (tgt := 75) hx hb dX6_told_54 (by decide) ?_
        exact hret _ _ _ _ _ _ dX6_told_75 hW hq
      · replace hq := br_neg h1_2 hq
        by_cases h1_3 : x1 = 3
        · replace hq := br_pos h1_3 hq
          refine lv_tableIn (off := 56) (tgt := 57) hx hb dX6_told_1 (by rw [h1_3]; decide) (by rw [h1_3]; decide) (by rw [h1_3]; decide) (by decide) ?_
          refine lv_aload_n hx hb dX6_told_57 rfl (lv_at hl 0 rfl) ?_
          refine xg_X6_58 C hW dX6_told_58 ?_
          refine lv_goto (tgt := 75) hx hb dX6_told_61 (by decide) ?_
          exact hret _ _ _ _ _ _ dX6_told_75 hW hq
        · replace hq := br_neg h1_3 hq
          by_cases h1_4 : x1 = 4
          · replace hq := br_pos h1_4 hq
            refine lv_tableIn (off := 63) (tgt := 64) hx hb dX6_told_1 (by rw [h1_4]; decide) (by rw [h1_4]; decide) (by rw [h1_4]; decide) (by decide) ?_
            refine lv_aload_n hx hb dX6_told_64 rfl (lv_at hl 0 rfl) ?_
            refine xg_X6_61 C hW dX6_told_65 ?_
            refine lv_goto (tgt := 75) hx hb dX6_told_68 (by decide) ?_
            exact hret _ _ _ _ _ _ dX6_told_75 hW hq
          · replace hq := br_neg h1_4 hq
            refine lv_tableOut (tgt := 71) hx hb dX6_told_1 (ne_out5 h1_0 h1_1 h1_2 h1_3 h1_4) (by decide) ?_
            refine lv_aload_n hx hb dX6_told_71 rfl (lv_at hl 0 rfl) ?_
            refine xg_X6_44 C hW dX6_told_72 ?_
            exact hret _ _ _ _ _ _ dX6_told_75 hW hq
set_option maxHeartbeats 4000000 in
set_option maxRecDepth 100000 in
theorem mX6_told {l : Launch} {g : XG} {σ : XS} {x1 : Int32} {P : Int32 → XS → Prop} (hq : qX6_told g σ x1 P) (sz : Nat) : Met l yX6_told (cws yX6_told cX6_told 2 (some .int)) ({ frames := 0, cells := 0, slots := 0, locals := 0 } : Room) (va_Pc [.ref (g.2.1 17), .int x1] (WP g.1 (xw g) (xty g) σ sz)) (va_Qi P (WB g.1 (xw g) (xty g) σ sz) (va_A (xw g σ) sz)) 0 0 (va_A (xw g σ) sz) :=
  w_enter (by decide) (Nat.le_of_ble_eq_true rfl) (fun p e s m args below meth c ls C hr hk hn hs hW hl => wX6_told C (Nat.le_refl _) (Nat.le_refl _) (fun pc ls v σ H locs hd hW hq => w_iret C hs hr hk hW hd hq) hW hl hq)
set_option maxHeartbeats 4000000 in
set_option maxRecDepth 100000 in
theorem kX6_told_X10_167 (C : CallFix p m c cc nL s args lwg RX10) {σ : XS} (hW : WI g.1 (xw g) (xty g) A s σ H locs) (hRf : 1 ≤ R.frames) (hRl : 21 ≤ R.locals) (hls : ls.size = nL) (hro : (rest.map fun v => v.category).sum ≤ 8) {x1 : Int32} (hd : decode cc pc = .ok (.invokevirtual 167, 3)) {P : Int32 → XS → Prop} (hq : qX6_told g σ x1 P) (kk : ∀ (r : Int32) (σ1 : XS) (H : Heap) (locs : List Loc), P r σ1 → WI g.1 (xw g) (xty g) A s σ1 H locs → W p l e R s m args below meth c H locs 0 0 Q (F0 m (pc + 3) ls (.int r :: rest))) : W p l e R s m args below meth c H locs 0 0 Q (F0 m pc ls (.int x1 :: .ref (g.2.1 17) :: rest)) :=
  w_calli hW (w_runV C hW (mX6_told hq _) ⟨(lwg_at 759 (by decide +kernel) rfl), (lwg_at 72 (by decide +kernel) rfl), (lwg_at 756 (by decide +kernel) rfl)⟩ (lwg_at 757 (by decide +kernel) rfl) (lwg_at 758 (by decide +kernel) rfl) (np := 1) (by decide +kernel) ⟨rfl, rfl⟩ ⟨hRf, hRl⟩ (ci := 7) rfl rfl (q0 := 17) rfl rfl hls rfl hro hd ⟨Nat.zero_le _, Nat.zero_le _⟩) kk
-- X7_kindNumber
set_option maxHeartbeats 4000000 in
set_option maxRecDepth 100000 in
theorem wX7_kindNumber (C : CallFix p m c cX7_kindNumber 1 s args lwg RX7) (hRf : 0 ≤ R.frames) (hRl : 0 ≤ R.locals) {P : Int32 → XS → Prop} (hret : RetI g.1 (xw g) (xty g) A p l e R s m args below meth c 0 0 Q cX7_kindNumber P) {σ : XS} {x0 : Fin (nH g)} {H : Heap} {locs : List Loc} {ls : Array Slot} (hW : WI g.1 (xw g) (xty g) A s σ H locs) (hl : lv_has ls 1 [(0, .ref (hA g x0))]) (hq : qX7_kindNumber g σ x0 P) : W p l e R s m args below meth c H locs 0 0 Q (F0 m 0 ls []) := by
  have hx := C.1
  have hb := C.2.1
  unfold qX7_kindNumber at hq
  refine lv_iconst (v := 1) hx hb dX7_kindNumber_0 (by decide) ?_
  exact hret _ _ _ _ _ _ dX7_kindNumber_1 hW hq
set_option maxHeartbeats 4000000 in
set_option maxRecDepth 100000 in
theorem mX7_kindNumber {l : Launch} {g : XG} {σ : XS} {x0 : Fin (nH g)} {P : Int32 → XS → Prop} (hq : qX7_kindNumber g σ x0 P) (sz : Nat) : Met l yX7_kindNumber (cws yX7_kindNumber cX7_kindNumber 1 (some .int)) ({ frames := 0, cells := 0, slots := 0, locals := 0 } : Room) (va_Pc [.ref (hA g x0)] (WP g.1 (xw g) (xty g) σ sz)) (va_Qi P (WB g.1 (xw g) (xty g) σ sz) (va_A (xw g σ) sz)) 0 0 (va_A (xw g σ) sz) :=
  w_enter (by decide) (Nat.le_of_ble_eq_true rfl) (fun p e s m args below meth c ls C hr hk hn hs hW hl => wX7_kindNumber C (Nat.le_refl _) (Nat.le_refl _) (fun pc ls v σ H locs hd hW hq => w_iret C hs hr hk hW hd hq) hW hl hq)
-- X8_seatOf
set_option maxHeartbeats 4000000 in
set_option maxRecDepth 100000 in
theorem wX8_seatOf_L2 (C : CallFix p m c cX8_seatOf 3 s args lwg RX8) (hRf : 0 ≤ R.frames) (hRl : 0 ≤ R.locals) {P : Int32 → XS → Prop} (hret : RetI g.1 (xw g) (xty g) A p l e R s m args below meth c 0 0 Q cX8_seatOf P) : ∀ (n : Nat) (σ : XS) (x0 : Fin 3) (x1 : Int32) (x2 : Int32) (H : Heap) (locs : List Loc) (ls : Array Slot), WI g.1 (xw g) (xty g) A s σ H locs → lv_has ls 3 [(0, .ref (tA g x0)), (1, .int x1), (2, .int x2)] → qX8_seatOf_L2 g  P n σ x0 x1 x2 → W p l e R s m args below meth c H locs 0 0 Q (F0 m 2 ls []) := by
  have hx := C.1
  have hb := C.2.1
  intro n
  induction n with
  | zero =>
    intro σ x0 x1 x2 H locs ls hW hl hq
    rw [qX8_seatOf_L2] at hq
    exact hq.elim
  | succ n ih =>
    intro σ x0 x1 x2 H locs ls hW hl hq
    rw [qX8_seatOf_L2] at hq
    refine lv_iload_n hx hb dX8_seatOf_2 rfl (lv_at hl 2 rfl) ?_
    refine lv_bipush (v := 10) hx hb dX8_seatOf_3 (by decide) ?_
    refine lv_icmp_ge (tgt := 26) hx hb dX8_seatOf_5 (by decide) (fun h => ?_) (fun h => ?_)
    · replace hq := br_pos h hq
      refine lv_iconst (v := (-1)) hx hb dX8_seatOf_26 (by decide) ?_
      exact hret _ _ _ _ _ _ dX8_seatOf_27 hW hq
    · replace hq := br_neg h hq
      refine lv_aload_n hx hb dX8_seatOf_8 rfl (lv_at hl 0 rfl) ?_
      refine xg_X8_15 C hW dX8_seatOf_9 ?_
      refine lv_iload_n hx hb dX8_seatOf_12 rfl (lv_at hl 2 rfl) ?_
      obtain ⟨hin1, hq⟩ := hq
      refine xa_T1 C hW hin1 dX8_seatOf_13 ?_
      refine lv_iload_n hx hb dX8_seatOf_14 rfl (lv_at hl 1 rfl) ?_
      refine lv_icmp_ne (tgt := 20) hx hb dX8_seatOf_15 (by decide) (fun h => ?_) (fun h => ?_)
      · replace hq := br_neg h hq
        obtain ⟨x2_2, ex2_2⟩ : ∃ y : Int32, y = x2 + 1 := ⟨_, rfl⟩
        replace hq := hq _ ex2_2
        refine lv_iinc (v := x2_2) (lv' := [(2, .int x2_2), (0, .ref (tA g x0)), (1, .int x1)]) hx hb dX8_seatOf_20 hl (k := 2) rfl (by rw [ex2_2]; rfl) (by decide) rfl (fun ls hl => ?_)
        refine lv_goto (tgt := 2) hx hb dX8_seatOf_23 (by decide) ?_
        exact ih _ _ _ _ _ _ _ hW (lv_sub hl [1, 2, 0] rfl) hq
      · replace hq := br_pos h hq
        refine lv_iload_n hx hb dX8_seatOf_18 rfl (lv_at hl 2 rfl) ?_
        exact hret _ _ _ _ _ _ dX8_seatOf_19 hW hq
set_option maxHeartbeats 4000000 in
set_option maxRecDepth 100000 in
theorem wX8_seatOf (C : CallFix p m c cX8_seatOf 3 s args lwg RX8) (hRf : 0 ≤ R.frames) (hRl : 0 ≤ R.locals) {P : Int32 → XS → Prop} (hret : RetI g.1 (xw g) (xty g) A p l e R s m args below meth c 0 0 Q cX8_seatOf P) {σ : XS} {x0 : Fin 3} {x1 : Int32} {H : Heap} {locs : List Loc} {ls : Array Slot} (hW : WI g.1 (xw g) (xty g) A s σ H locs) (hl : lv_has ls 3 [(0, .ref (tA g x0)), (1, .int x1)]) (hq : qX8_seatOf g σ x0 x1 P) : W p l e R s m args below meth c H locs 0 0 Q (F0 m 0 ls []) := by
  have hx := C.1
  have hb := C.2.1
  unfold qX8_seatOf at hq
  refine lv_iconst (v := 0) hx hb dX8_seatOf_0 (by decide) ?_
  refine lv_istore_n (lv' := [(2, .int 0), (0, .ref (tA g x0)), (1, .int x1)]) hx hb dX8_seatOf_1 rfl hl (by decide) rfl (fun ls hl => ?_)
  obtain ⟨f2, hq⟩ := hq
  exact wX8_seatOf_L2 C hRf hRl hret f2 _ _ _ _ _ _ _ hW (lv_sub hl [1, 2, 0] rfl) hq
set_option maxHeartbeats 4000000 in
set_option maxRecDepth 100000 in
theorem mX8_seatOf {l : Launch} {g : XG} {σ : XS} {x0 : Fin 3} {x1 : Int32} {P : Int32 → XS → Prop} (hq : qX8_seatOf g σ x0 x1 P) (sz : Nat) : Met l yX8_seatOf (cws yX8_seatOf cX8_seatOf 3 (some .int)) ({ frames := 0, cells := 0, slots := 0, locals := 0 } : Room) (va_Pc [.ref (tA g x0), .int x1] (WP g.1 (xw g) (xty g) σ sz)) (va_Qi P (WB g.1 (xw g) (xty g) σ sz) (va_A (xw g σ) sz)) 0 0 (va_A (xw g σ) sz) :=
  w_enter (by decide) (Nat.le_of_ble_eq_true rfl) (fun p e s m args below meth c ls C hr hk hn hs hW hl => wX8_seatOf C (Nat.le_refl _) (Nat.le_refl _) (fun pc ls v σ H locs hd hW hq => w_iret C hs hr hk hW hd hq) hW hl hq)
set_option maxHeartbeats 4000000 in
set_option maxRecDepth 100000 in
theorem kX8_seatOf_X10_282 (C : CallFix p m c cc nL s args lwg RX10) {σ : XS} (hW : WI g.1 (xw g) (xty g) A s σ H locs) (hRf : 1 ≤ R.frames) (hRl : 22 ≤ R.locals) (hls : ls.size = nL) (hro : (rest.map fun v => v.category).sum ≤ 8) {x0 : Fin 3} {x1 : Int32} (hd : decode cc pc = .ok (.invokevirtual 282, 3)) {P : Int32 → XS → Prop} (hq : qX8_seatOf g σ x0 x1 P) (kk : ∀ (r : Int32) (σ1 : XS) (H : Heap) (locs : List Loc), P r σ1 → WI g.1 (xw g) (xty g) A s σ1 H locs → W p l e R s m args below meth c H locs 0 0 Q (F0 m (pc + 3) ls (.int r :: rest))) : W p l e R s m args below meth c H locs 0 0 Q (F0 m pc ls (.int x1 :: .ref (tA g x0) :: rest)) :=
  w_calli hW (w_runV C hW (mX8_seatOf hq _) ⟨(lwg_at 592 (by decide +kernel) rfl), (lwg_at 71 (by decide +kernel) rfl), (lwg_at 589 (by decide +kernel) rfl)⟩ (lwg_at 590 (by decide +kernel) rfl) (lwg_at 591 (by decide +kernel) rfl) (np := 1) (by decide +kernel) ⟨rfl, rfl⟩ ⟨hRf, hRl⟩ (ci := 9) rfl rfl (q0 := 5 + 4 * x0.val) (xw_T g σ x0) rfl hls rfl hro hd ⟨Nat.zero_le _, Nat.zero_le _⟩) kk
-- X9_told
set_option maxHeartbeats 4000000 in
set_option maxRecDepth 100000 in
theorem wX9_told (C : CallFix p m c cX9_told 2 s args lwg RX9) (hRf : 1 ≤ R.frames) (hRl : 20 ≤ R.locals) {P : Int32 → XS → Prop} (hret : RetI g.1 (xw g) (xty g) A p l e R s m args below meth c 0 0 Q cX9_told P) {σ : XS} {x0 : Fin (nV g)} {x1 : Int32} {H : Heap} {locs : List Loc} {ls : Array Slot} (hW : WI g.1 (xw g) (xty g) A s σ H locs) (hl : lv_has ls 2 [(0, .ref (vA g x0)), (1, .int x1)]) (hq : qX9_told g σ x0 x1 P) : W p l e R s m args below meth c H locs 0 0 Q (F0 m 0 ls []) := by
  have hx := C.1
  have hb := C.2.1
  unfold qX9_told at hq
  refine lv_iload_n hx hb dX9_told_0 rfl (lv_at hl 1 rfl) ?_
  by_cases h1_0 : x1 = 0
  · replace hq := br_pos h1_0 hq
    refine lv_tableIn (off := 27) (tgt := 28) hx hb dX9_told_1 (by rw [h1_0]; decide) (by rw [h1_0]; decide) (by rw [h1_0]; decide) (by decide) ?_
    refine lv_aload_n hx hb dX9_told_28 rfl (lv_at hl 0 rfl) ?_
    refine xg_X9_13 C hW dX9_told_29 ?_
    refine kX10_asNumber_X9_29 C hW (Nat.le_trans (by decide) hRf) (Nat.le_trans (by decide) hRl) hl.1 (Nat.le_of_ble_eq_true rfl) dX9_told_32 hq (fun r_2 σ_1 H locs hq hW => ?_)
    refine lv_goto (tgt := 59) hx hb dX9_told_35 (by decide) ?_
    exact hret _ _ _ _ _ _ dX9_told_59 hW hq
  · replace hq := br_neg h1_0 hq
    by_cases h1_1 : x1 = 1
    · replace hq := br_pos h1_1 hq
      refine lv_tableIn (off := 37) (tgt := 38) hx hb dX9_told_1 (by rw [h1_1]; decide) (by rw [h1_1]; decide) (by rw [h1_1]; decide) (by decide) ?_
      refine lv_aload_n hx hb dX9_told_38 rfl (lv_at hl 0 rfl) ?_
      refine xg_X9_20 C hW dX9_told_39 ?_
      refine lv_goto (tgt := 59) hx hb dX9_told_42 (by decide) ?_
      exact hret _ _ _ _ _ _ dX9_told_59 hW hq
    · replace hq := br_neg h1_1 hq
      by_cases h1_2 : x1 = 2
      · replace hq := br_pos h1_2 hq
        refine lv_tableIn (off := 44) (tgt := 45) hx hb dX9_told_1 (by rw [h1_2]; decide) (by rw [h1_2]; decide) (by rw [h1_2]; decide) (by decide) ?_
        refine lv_aload_n hx hb dX9_told_45 rfl (lv_at hl 0 rfl) ?_
        refine xg_X9_24 C hW dX9_told_46 ?_
        refine kX10_asNumber_X9_29 C hW (Nat.le_trans (by decide) hRf) (Nat.le_trans (by decide) hRl) hl.1 (Nat.le_of_ble_eq_true rfl) dX9_told_49 hq (fun r_4 σ_3 H locs hq hW => ?_)
        refine lv_goto (tgt := 59) hx hb dX9_told_52 (by decide) ?_
        exact hret _ _ _ _ _ _ dX9_told_59 hW hq
      · replace hq := br_neg h1_2 hq
        refine lv_tableOut (tgt := 55) hx hb dX9_told_1 (ne_out3 h1_0 h1_1 h1_2) (by decide) ?_
        refine lv_aload_n hx hb dX9_told_55 rfl (lv_at hl 0 rfl) ?_
        refine xg_X9_28 C hW dX9_told_56 ?_
        exact hret _ _ _ _ _ _ dX9_told_59 hW hq
set_option maxHeartbeats 4000000 in
set_option maxRecDepth 100000 in
theorem mX9_told {l : Launch} {g : XG} {σ : XS} {x0 : Fin (nV g)} {x1 : Int32} {P : Int32 → XS → Prop} (hq : qX9_told g σ x0 x1 P) (sz : Nat) : Met l yX9_told (cws yX9_told cX9_told 2 (some .int)) ({ frames := 1, cells := 0, slots := 0, locals := 20 } : Room) (va_Pc [.ref (vA g x0), .int x1] (WP g.1 (xw g) (xty g) σ sz)) (va_Qi P (WB g.1 (xw g) (xty g) σ sz) (va_A (xw g σ) sz)) 0 0 (va_A (xw g σ) sz) :=
  w_enter (by decide) (Nat.le_of_ble_eq_true rfl) (fun p e s m args below meth c ls C hr hk hn hs hW hl => wX9_told C (Nat.le_refl _) (Nat.le_refl _) (fun pc ls v σ H locs hd hW hq => w_iret C hs hr hk hW hd hq) hW hl hq)
set_option maxHeartbeats 4000000 in
set_option maxRecDepth 100000 in
theorem kX9_told_X10_98 (C : CallFix p m c cc nL s args lwg RX10) {σ : XS} (hW : WI g.1 (xw g) (xty g) A s σ H locs) (hRf : 2 ≤ R.frames) (hRl : 41 ≤ R.locals) (hls : ls.size = nL) (hro : (rest.map fun v => v.category).sum ≤ 8) {x0 : Fin (nV g)} {x1 : Int32} (hd : decode cc pc = .ok (.invokevirtual 98, 3)) {P : Int32 → XS → Prop} (hq : qX9_told g σ x0 x1 P) (kk : ∀ (r : Int32) (σ1 : XS) (H : Heap) (locs : List Loc), P r σ1 → WI g.1 (xw g) (xty g) A s σ1 H locs → W p l e R s m args below meth c H locs 0 0 Q (F0 m (pc + 3) ls (.int r :: rest))) : W p l e R s m args below meth c H locs 0 0 Q (F0 m pc ls (.int x1 :: .ref (vA g x0) :: rest)) := by
  obtain ⟨q, he⟩ := xw_V g σ x0
  exact w_calli hW (w_runV C hW (mX9_told hq _) ⟨(lwg_at 450 (by decide +kernel) rfl), (lwg_at 75 (by decide +kernel) rfl), (lwg_at 447 (by decide +kernel) rfl)⟩ (lwg_at 448 (by decide +kernel) rfl) (lwg_at 449 (by decide +kernel) rfl) (np := 1) (by decide +kernel) ⟨rfl, rfl⟩ ⟨hRf, hRl⟩ (ci := 10) rfl rfl (q0 := q) he rfl hls rfl hro hd ⟨Nat.zero_le _, Nat.zero_le _⟩) kk
-- X10_letters
set_option maxHeartbeats 4000000 in
set_option maxRecDepth 100000 in
theorem wX10_letters (C : CallFix p m c cX10_letters 4 s args lwg RX10) (hRf : 1 ≤ R.frames) (hRl : 24 ≤ R.locals) {P : Int32 → XS → Prop} (hret : RetI g.1 (xw g) (xty g) A p l e R s m args below meth c 0 0 Q cX10_letters P) {σ : XS} {x1 : Int64} {H : Heap} {locs : List Loc} {ls : Array Slot} (hW : WI g.1 (xw g) (xty g) A s σ H locs) (hl : lv_has ls 4 [(0, .ref (g.2.1 0)), (1, .long x1)]) (hq : qX10_letters g σ x1 P) : W p l e R s m args below meth c H locs 0 0 Q (F0 m 0 ls []) := by
  have hx := C.1
  have hb := C.2.1
  unfold qX10_letters at hq
  refine lv_lload_n hx hb dX10_letters_0 rfl (lv_at hl 1 rfl) ?_
  refine kX5_lettersIn_X10_60 C hW (Nat.le_trans (by decide) hRf) (Nat.le_trans (by decide) hRl) hl.1 (Nat.le_of_ble_eq_true rfl) dX10_letters_1 hq (fun r_2 σ_1 H locs hq hW => ?_)
  refine lv_istore_n (lv' := [(3, .int r_2), (0, .ref (g.2.1 0)), (1, .long x1)]) hx hb dX10_letters_4 rfl hl (by decide) rfl (fun ls hl => ?_)
  refine lv_iload_n hx hb dX10_letters_5 rfl (lv_at hl 0 rfl) ?_
  refine lv_if_ge (tgt := 12) hx hb dX10_letters_6 (by decide) (fun h => ?_) (fun h => ?_)
  · replace hq := br_pos h hq
    refine lv_aload_n hx hb dX10_letters_12 rfl (lv_at hl 1 rfl) ?_
    refine xg_X10_22 C hW dX10_letters_13 ?_
    refine xg_X10_64 C hW dX10_letters_16 ?_
    refine lv_iload_n hx hb dX10_letters_19 rfl (lv_at hl 0 rfl) ?_
    refine lv_iadd hx hb dX10_letters_20 ?_
    refine lv_bipush (v := 16) hx hb dX10_letters_21 (by decide) ?_
    refine lv_icmp_le (tgt := 29) hx hb dX10_letters_23 (by decide) (fun h => ?_) (fun h => ?_)
    · replace hq := br_pos h hq
      refine lv_aload_n hx hb dX10_letters_29 rfl (lv_at hl 1 rfl) ?_
      refine xg_X10_22 C hW dX10_letters_30 ?_
      refine lv_lload_n hx hb dX10_letters_33 rfl (lv_at hl 2 rfl) ?_
      refine lv_iload_n hx hb dX10_letters_34 rfl (lv_at hl 0 rfl) ?_
      refine kX5_write_X10_67 C hW (Nat.le_trans (by decide) hRf) (Nat.le_trans (by decide) hRl) hl.1 (Nat.le_of_ble_eq_true rfl) dX10_letters_35 hq (fun σ_3 H locs hq hW => ?_)
      refine lv_aload_n hx hb dX10_letters_38 rfl (lv_at hl 1 rfl) ?_
      refine xg_X10_22 C hW dX10_letters_39 ?_
      refine xg_X10_64 C hW dX10_letters_42 ?_
      exact hret _ _ _ _ _ _ dX10_letters_45 hW hq
    · replace hq := br_neg h hq
      refine lv_bipush (v := (-104)) hx hb dX10_letters_26 (by decide) ?_
      exact hret _ _ _ _ _ _ dX10_letters_28 hW hq
  · replace hq := br_neg h hq
    refine lv_bipush (v := (-102)) hx hb dX10_letters_9 (by decide) ?_
    exact hret _ _ _ _ _ _ dX10_letters_11 hW hq
set_option maxHeartbeats 4000000 in
set_option maxRecDepth 100000 in
theorem mX10_letters {l : Launch} {g : XG} {σ : XS} {x1 : Int64} {P : Int32 → XS → Prop} (hq : qX10_letters g σ x1 P) (sz : Nat) : Met l yX10_letters (cws yX10_letters cX10_letters 4 (some .int)) ({ frames := 1, cells := 0, slots := 0, locals := 24 } : Room) (va_Pc [.ref (g.2.1 0), .long x1] (WP g.1 (xw g) (xty g) σ sz)) (va_Qi P (WB g.1 (xw g) (xty g) σ sz) (va_A (xw g σ) sz)) 0 0 (va_A (xw g σ) sz) :=
  w_enter (by decide) (Nat.le_of_ble_eq_true rfl) (fun p e s m args below meth c ls C hr hk hn hs hW hl => wX10_letters C (Nat.le_refl _) (Nat.le_refl _) (fun pc ls v σ H locs hd hW hq => w_iret C hs hr hk hW hd hq) hW hl hq)
-- X10_blank
set_option maxHeartbeats 4000000 in
set_option maxRecDepth 100000 in
theorem wX10_blank (C : CallFix p m c cX10_blank 2 s args lwg RX10) (hRf : 0 ≤ R.frames) (hRl : 0 ≤ R.locals) {P : Int32 → XS → Prop} (hret : RetI g.1 (xw g) (xty g) A p l e R s m args below meth c 0 0 Q cX10_blank P) {σ : XS} {H : Heap} {locs : List Loc} {ls : Array Slot} (hW : WI g.1 (xw g) (xty g) A s σ H locs) (hl : lv_has ls 2 [(0, .ref (g.2.1 0))]) (hq : qX10_blank g σ  P) : W p l e R s m args below meth c H locs 0 0 Q (F0 m 0 ls []) := by
  have hx := C.1
  have hb := C.2.1
  unfold qX10_blank at hq
  refine lv_aload_n hx hb dX10_blank_0 rfl (lv_at hl 0 rfl) ?_
  refine xg_X10_22 C hW dX10_blank_1 ?_
  refine xg_X10_64 C hW dX10_blank_4 ?_
  refine lv_topi (fun x1_1 ex1_1 => ?_)
  replace hq := hq _ ex1_1
  refine lv_istore_n (lv' := [(1, .int x1_1), (0, .ref (g.2.1 0))]) hx hb dX10_blank_7 rfl hl (by decide) rfl (fun ls hl => ?_)
  refine lv_aload_n hx hb dX10_blank_8 rfl (lv_at hl 1 rfl) ?_
  refine xg_X10_22 C hW dX10_blank_9 ?_
  refine lv_iconst (v := 0) hx hb dX10_blank_12 (by decide) ?_
  refine xp_X10_64 C hW dX10_blank_13 (fun σ_2 H locs eσ_2 hW => ?_)
  replace hq := hq _ eσ_2
  refine lv_iload_n hx hb dX10_blank_16 rfl (lv_at hl 0 rfl) ?_
  exact hret _ _ _ _ _ _ dX10_blank_17 hW hq
set_option maxHeartbeats 4000000 in
set_option maxRecDepth 100000 in
theorem mX10_blank {l : Launch} {g : XG} {σ : XS} {P : Int32 → XS → Prop} (hq : qX10_blank g σ  P) (sz : Nat) : Met l yX10_blank (cws yX10_blank cX10_blank 2 (some .int)) ({ frames := 0, cells := 0, slots := 0, locals := 0 } : Room) (va_Pc [.ref (g.2.1 0)] (WP g.1 (xw g) (xty g) σ sz)) (va_Qi P (WB g.1 (xw g) (xty g) σ sz) (va_A (xw g σ) sz)) 0 0 (va_A (xw g σ) sz) :=
  w_enter (by decide) (Nat.le_of_ble_eq_true rfl) (fun p e s m args below meth c ls C hr hk hn hs hW hl => wX10_blank C (Nat.le_refl _) (Nat.le_refl _) (fun pc ls v σ H locs hd hW hq => w_iret C hs hr hk hW hd hq) hW hl hq)
-- X10_fault
set_option maxHeartbeats 4000000 in
set_option maxRecDepth 100000 in
theorem wX10_fault (C : CallFix p m c cX10_fault 1 s args lwg RX10) (hRf : 2 ≤ R.frames) (hRl : 43 ≤ R.locals) {P : Int32 → XS → Prop} (hret : RetI g.1 (xw g) (xty g) A p l e R s m args below meth c 0 0 Q cX10_fault P) {σ : XS} {H : Heap} {locs : List Loc} {ls : Array Slot} (hW : WI g.1 (xw g) (xty g) A s σ H locs) (hl : lv_has ls 1 [(0, .ref (g.2.1 0))]) (hq : qX10_fault g σ  P) : W p l e R s m args below meth c H locs 0 0 Q (F0 m 0 ls []) := by
  have hx := C.1
  have hb := C.2.1
  unfold qX10_fault at hq
  refine lv_aload_n hx hb dX10_fault_0 rfl (lv_at hl 0 rfl) ?_
  refine xg_X10_22 C hW dX10_fault_1 ?_
  refine kX5_read_X10_71 C hW (Nat.le_trans (by decide) hRf) (Nat.le_trans (by decide) hRl) hl.1 (Nat.le_of_ble_eq_true rfl) dX10_fault_4 hq (fun σ_1 H locs hq hW => ?_)
  refine lv_aload_n hx hb dX10_fault_7 rfl (lv_at hl 0 rfl) ?_
  refine xg_X10_22 C hW dX10_fault_8 ?_
  refine xg_X10_74 C hW dX10_fault_11 ?_
  exact hret _ _ _ _ _ _ dX10_fault_14 hW hq
set_option maxHeartbeats 4000000 in
set_option maxRecDepth 100000 in
theorem mX10_fault {l : Launch} {g : XG} {σ : XS} {P : Int32 → XS → Prop} (hq : qX10_fault g σ  P) (sz : Nat) : Met l yX10_fault (cws yX10_fault cX10_fault 1 (some .int)) ({ frames := 2, cells := 0, slots := 0, locals := 43 } : Room) (va_Pc [.ref (g.2.1 0)] (WP g.1 (xw g) (xty g) σ sz)) (va_Qi P (WB g.1 (xw g) (xty g) σ sz) (va_A (xw g σ) sz)) 0 0 (va_A (xw g σ) sz) :=
  w_enter (by decide) (Nat.le_of_ble_eq_true rfl) (fun p e s m args below meth c ls C hr hk hn hs hW hl => wX10_fault C (Nat.le_refl _) (Nat.le_refl _) (fun pc ls v σ H locs hd hW hq => w_iret C hs hr hk hW hd hq) hW hl hq)
-- X10_vowNumbered
set_option maxHeartbeats 4000000 in
set_option maxRecDepth 100000 in
theorem wX10_vowNumbered (C : CallFix p m c cX10_vowNumbered 2 s args lwg RX10) (hRf : 3 ≤ R.frames) (hRl : 64 ≤ R.locals) {P : Option (Fin (nV g)) → XS → Prop} (hret : RetG (fun r : Option (Fin (nV g)) => va_rf (r.map (vA g))) g.1 (xw g) (xty g) A p l e R s m args below meth c 0 0 Q cX10_vowNumbered P) {σ : XS} {x1 : Int32} {H : Heap} {locs : List Loc} {ls : Array Slot} (hW : WI g.1 (xw g) (xty g) A s σ H locs) (hl : lv_has ls 2 [(0, .ref (g.2.1 0)), (1, .int x1)]) (hq : qX10_vowNumbered g σ x1 P) : W p l e R s m args below meth c H locs 0 0 Q (F0 m 0 ls []) := by
  have hx := C.1
  have hb := C.2.1
  unfold qX10_vowNumbered at hq
  refine lv_iload_n hx hb dX10_vowNumbered_0 rfl (lv_at hl 1 rfl) ?_
  refine lv_if_lt (tgt := 29) hx hb dX10_vowNumbered_1 (by decide) (fun h => ?_) (fun h => ?_)
  · replace hq := br_pos h hq
    refine lv_null hx hb dX10_vowNumbered_29 ?_
    exact hret _ _ none _ _ _ dX10_vowNumbered_30 hW hq
  · replace hq := br_neg h hq
    refine lv_iload_n hx hb dX10_vowNumbered_4 rfl (lv_at hl 1 rfl) ?_
    refine lv_aload_n hx hb dX10_vowNumbered_5 rfl (lv_at hl 0 rfl) ?_
    refine xg_X10_16 C hW dX10_vowNumbered_6 ?_
    refine xsiz_V_X10_81 C hW (Nat.le_trans (by decide) hRf) (Nat.le_trans (by decide) hRl) hl.1 (Nat.le_of_ble_eq_true rfl) dX10_vowNumbered_9 (fun H locs hW => ?_)
    refine lv_icmp_ge (tgt := 29) hx hb dX10_vowNumbered_12 (by decide) (fun h => ?_) (fun h => ?_)
    · replace hq := br_pos h hq
      refine lv_null hx hb dX10_vowNumbered_29 ?_
      exact hret _ _ none _ _ _ dX10_vowNumbered_30 hW hq
    · replace hq := br_neg h hq
      refine lv_aload_n hx hb dX10_vowNumbered_15 rfl (lv_at hl 0 rfl) ?_
      refine xg_X10_16 C hW dX10_vowNumbered_16 ?_
      refine lv_iload_n hx hb dX10_vowNumbered_19 rfl (lv_at hl 1 rfl) ?_
      obtain ⟨hin2, hq⟩ := hq
      refine xget_V_X10_124 C hW (Nat.le_trans (by decide) hRf) (Nat.le_trans (by decide) hRl) hl.1 (Nat.le_of_ble_eq_true rfl) hin2 dX10_vowNumbered_20 (fun j_1 H locs hj_1 hW => ?_)
      replace hq := hq j_1 hj_1
      refine xc_X10_85 C hW dX10_vowNumbered_23 ?_
      refine lv_goto (tgt := 30) hx hb dX10_vowNumbered_26 (by decide) ?_
      exact hret _ _ (some j_1) _ _ _ dX10_vowNumbered_30 hW hq
set_option maxHeartbeats 4000000 in
set_option maxRecDepth 100000 in
theorem mX10_vowNumbered {l : Launch} {g : XG} {σ : XS} {x1 : Int32} {P : Option (Fin (nV g)) → XS → Prop} (hq : qX10_vowNumbered g σ x1 P) (sz : Nat) : Met l yX10_vowNumbered (cws yX10_vowNumbered cX10_vowNumbered 2 (some (.object "HermitsSpoon$Vow"))) ({ frames := 3, cells := 0, slots := 0, locals := 64 } : Room) (va_Pc [.ref (g.2.1 0), .int x1] (WP g.1 (xw g) (xty g) σ sz)) (QcR (fun r : Option (Fin (nV g)) => va_rf (r.map (vA g))) P (WB g.1 (xw g) (xty g) σ sz) (va_A (xw g σ) sz)) 0 0 (va_A (xw g σ) sz) :=
  w_enter (by decide) (Nat.le_of_ble_eq_true rfl) (fun p e s m args below meth c ls C hr hk hn hs hW hl => wX10_vowNumbered C (Nat.le_refl _) (Nat.le_refl _) (fun pc ls v σ H locs hd hW hq => w_aret (f := (fun r : Option (Fin (nV g)) => va_rf (r.map (vA g)))) (r := v) C hs hr (Or.inl ⟨_, rfl⟩) hk hW hd (by cases v with | none => exact Or.inl rfl | some v => exact Or.inr ⟨_, rfl⟩) hq) hW hl hq)
set_option maxHeartbeats 4000000 in
set_option maxRecDepth 100000 in
theorem kX10_vowNumbered_X10_94 (C : CallFix p m c cc nL s args lwg RX10) {σ : XS} (hW : WI g.1 (xw g) (xty g) A s σ H locs) (hRf : 4 ≤ R.frames) (hRl : 85 ≤ R.locals) (hls : ls.size = nL) (hro : (rest.map fun v => v.category).sum ≤ 8) {x1 : Int32} (hd : decode cc pc = .ok (.invokevirtual 94, 3)) {P : Option (Fin (nV g)) → XS → Prop} (hq : qX10_vowNumbered g σ x1 P) (kk : ∀ (r : Option (Fin (nV g))) (σ1 : XS) (H : Heap) (locs : List Loc), P r σ1 → WI g.1 (xw g) (xty g) A s σ1 H locs → W p l e R s m args below meth c H locs 0 0 Q (F0 m (pc + 3) ls (va_rf (r.map (vA g)) :: rest))) : W p l e R s m args below meth c H locs 0 0 Q (F0 m pc ls (.int x1 :: .ref (g.2.1 0) :: rest)) :=
  w_callg hW (w_runV C hW (mX10_vowNumbered hq _) ⟨(lwg_at 432 (by decide +kernel) rfl), (lwg_at 66 (by decide +kernel) rfl), (lwg_at 429 (by decide +kernel) rfl)⟩ (lwg_at 431 (by decide +kernel) rfl) (lwg_at 5 (by decide +kernel) rfl) (np := 1) (by decide +kernel) ⟨rfl, rfl⟩ ⟨hRf, hRl⟩ (ci := 11) rfl rfl (q0 := 0) rfl rfl hls rfl hro hd ⟨Nat.zero_le _, Nat.zero_le _⟩) kk
-- X10_vowTold
set_option maxHeartbeats 4000000 in
set_option maxRecDepth 100000 in
theorem wX10_vowTold_J22 (C : CallFix p m c cX10_vowTold 4 s args lwg RX10) (hRf : 4 ≤ R.frames) (hRl : 85 ≤ R.locals) {P : Int32 → XS → Prop} (hret : RetI g.1 (xw g) (xty g) A p l e R s m args below meth c 0 0 Q cX10_vowTold P) {σ : XS} {H : Heap} {locs : List Loc} {ls : Array Slot} (hW : WI g.1 (xw g) (xty g) A s σ H locs) (hl : lv_has ls 4 [(0, .ref (g.2.1 0))]) (hq : qX10_vowTold_J22 g  P σ ) : W p l e R s m args below meth c H locs 0 0 Q (F0 m 22 ls []) := by
  have hx := C.1
  have hb := C.2.1
  unfold qX10_vowTold_J22 at hq
  refine lv_bipush (v := (-102)) hx hb dX10_vowTold_22 (by decide) ?_
  refine lv_goto (tgt := 32) hx hb dX10_vowTold_24 (by decide) ?_
  exact hret _ _ _ _ _ _ dX10_vowTold_32 hW hq
set_option maxHeartbeats 4000000 in
set_option maxRecDepth 100000 in
theorem wX10_vowTold (C : CallFix p m c cX10_vowTold 4 s args lwg RX10) (hRf : 4 ≤ R.frames) (hRl : 85 ≤ R.locals) {P : Int32 → XS → Prop} (hret : RetI g.1 (xw g) (xty g) A p l e R s m args below meth c 0 0 Q cX10_vowTold P) {σ : XS} {x1 : Int32} {x2 : Int32} {H : Heap} {locs : List Loc} {ls : Array Slot} (hW : WI g.1 (xw g) (xty g) A s σ H locs) (hl : lv_has ls 4 [(0, .ref (g.2.1 0)), (1, .int x1), (2, .int x2)]) (hq : qX10_vowTold g σ x1 x2 P) : W p l e R s m args below meth c H locs 0 0 Q (F0 m 0 ls []) := by
  have hx := C.1
  have hb := C.2.1
  unfold qX10_vowTold at hq
  refine lv_aload_n hx hb dX10_vowTold_0 rfl (lv_at hl 0 rfl) ?_
  refine lv_iload_n hx hb dX10_vowTold_1 rfl (lv_at hl 1 rfl) ?_
  refine kX10_vowNumbered_X10_94 C hW (Nat.le_trans (by decide) hRf) (Nat.le_trans (by decide) hRl) hl.1 (Nat.le_of_ble_eq_true rfl) dX10_vowTold_2 hq (fun r_2 σ_1 H locs hq hW => ?_)
  rcases r_2 with _ | v_3
  · replace hq := hq.1 rfl
    refine W.eq (g2 := F0 m 5 ls (.null :: [])) rfl ?_
    refine lv_astore_nN (lv' := [(3, .null), (0, .ref (g.2.1 0)), (1, .int x1), (2, .int x2)]) hx hb dX10_vowTold_5 rfl hl (by decide) rfl (fun ls hl => ?_)
    refine lv_aload_nN hx hb dX10_vowTold_6 rfl (lv_at hl 0 rfl) ?_
    refine lv_ifnonnullN hx hb dX10_vowTold_7 ?_
    refine lv_bipush (v := (-101)) hx hb dX10_vowTold_10 (by decide) ?_
    exact hret _ _ _ _ _ _ dX10_vowTold_12 hW hq
  · replace hq := hq.2 v_3 rfl
    refine W.eq (g2 := F0 m 5 ls (.ref (vA g v_3) :: [])) rfl ?_
    refine lv_astore_n (lv' := [(3, .ref (vA g v_3)), (0, .ref (g.2.1 0)), (1, .int x1), (2, .int x2)]) hx hb dX10_vowTold_5 rfl hl (by decide) rfl (fun ls hl => ?_)
    refine lv_aload_n hx hb dX10_vowTold_6 rfl (lv_at hl 0 rfl) ?_
    refine lv_ifnonnull (tgt := 13) hx hb dX10_vowTold_7 (by decide) ?_
    refine lv_iload_n hx hb dX10_vowTold_13 rfl (lv_at hl 3 rfl) ?_
    refine lv_if_lt (tgt := 22) hx hb dX10_vowTold_14 (by decide) (fun h => ?_) (fun h => ?_)
    · replace hq := br_pos h hq
      exact wX10_vowTold_J22 C hRf hRl hret  hW (lv_sub hl [1] rfl) hq
    · replace hq := br_neg h hq
      refine lv_iload_n hx hb dX10_vowTold_17 rfl (lv_at hl 3 rfl) ?_
      refine lv_iconst (v := 3) hx hb dX10_vowTold_18 (by decide) ?_
      refine lv_icmp_le (tgt := 27) hx hb dX10_vowTold_19 (by decide) (fun h => ?_) (fun h => ?_)
      · replace hq := br_pos h hq
        refine lv_aload_n hx hb dX10_vowTold_27 rfl (lv_at hl 0 rfl) ?_
        refine lv_iload_n hx hb dX10_vowTold_28 rfl (lv_at hl 3 rfl) ?_
        refine kX9_told_X10_98 C hW (Nat.le_trans (by decide) hRf) (Nat.le_trans (by decide) hRl) hl.1 (Nat.le_of_ble_eq_true rfl) dX10_vowTold_29 hq (fun r_5 σ_4 H locs hq hW => ?_)
        exact hret _ _ _ _ _ _ dX10_vowTold_32 hW hq
      · replace hq := br_neg h hq
        exact wX10_vowTold_J22 C hRf hRl hret  hW (lv_sub hl [1] rfl) hq
set_option maxHeartbeats 4000000 in
set_option maxRecDepth 100000 in
theorem mX10_vowTold {l : Launch} {g : XG} {σ : XS} {x1 : Int32} {x2 : Int32} {P : Int32 → XS → Prop} (hq : qX10_vowTold g σ x1 x2 P) (sz : Nat) : Met l yX10_vowTold (cws yX10_vowTold cX10_vowTold 4 (some .int)) ({ frames := 4, cells := 0, slots := 0, locals := 85 } : Room) (va_Pc [.ref (g.2.1 0), .int x1, .int x2] (WP g.1 (xw g) (xty g) σ sz)) (va_Qi P (WB g.1 (xw g) (xty g) σ sz) (va_A (xw g σ) sz)) 0 0 (va_A (xw g σ) sz) :=
  w_enter (by decide) (Nat.le_of_ble_eq_true rfl) (fun p e s m args below meth c ls C hr hk hn hs hW hl => wX10_vowTold C (Nat.le_refl _) (Nat.le_refl _) (fun pc ls v σ H locs hd hW hq => w_iret C hs hr hk hW hd hq) hW hl hq)
end
