section
variable {p : Program} {l : Launch} {e : Env} {R : Room} {s : State} {m : MethodId} {args : Array Value} {below : List Frame} {meth : Method} {c : Code} {H : Heap} {locs : List Loc} {cells slots : Nat} {Q : State → Prop}
variable {cc : ByteArray} {pc : Nat} {ls : Array Slot} {rest : List Value} {own : String} {nL : Nat}
variable {g : XG} {A : Nat → Prop}
-- X8_soupInAll
set_option maxHeartbeats 4000000 in
set_option maxRecDepth 100000 in
theorem wX8_soupInAll_L4 (C : CallFix p m c cX8_soupInAll 3 s args lwg RX8) (hRf : 0 ≤ R.frames) (hRl : 0 ≤ R.locals) {P : Int32 → XS → Prop} (hret : RetI g.1 (xw g) (xty g) A p l e R s m args below meth c 0 0 Q cX8_soupInAll P) : ∀ (n : Nat) (σ : XS) (x0 : Fin 3) (x1 : Int32) (x2 : Int32) (H : Heap) (locs : List Loc) (ls : Array Slot), WI g.1 (xw g) (xty g) A s σ H locs → lv_has ls 3 [(0, .ref (tA g x0)), (1, .int x1), (2, .int x2)] → qX8_soupInAll_L4 g  P n σ x0 x1 x2 → W p l e R s m args below meth c H locs 0 0 Q (F0 m 4 ls []) := by
  have hx := C.1
  have hb := C.2.1
  intro n
  induction n with
  | zero =>
    intro σ x0 x1 x2 H locs ls hW hl hq
    rw [qX8_soupInAll_L4] at hq
    exact hq.elim
  | succ n ih =>
    intro σ x0 x1 x2 H locs ls hW hl hq
    rw [qX8_soupInAll_L4] at hq
    refine lv_iload_n hx hb dX8_soupInAll_4 rfl (lv_at hl 2 rfl) ?_
    refine lv_iconst (v := 5) hx hb dX8_soupInAll_5 (by decide) ?_
    refine lv_icmp_ge (tgt := 24) hx hb dX8_soupInAll_6 (by decide) (fun h => ?_) (fun h => ?_)
    · replace hq := br_pos h hq
      refine lv_iload_n hx hb dX8_soupInAll_24 rfl (lv_at hl 1 rfl) ?_
      exact hret _ _ _ _ _ _ dX8_soupInAll_25 hW hq
    · replace hq := br_neg h hq
      refine lv_iload_n hx hb dX8_soupInAll_9 rfl (lv_at hl 1 rfl) ?_
      refine lv_aload_n hx hb dX8_soupInAll_10 rfl (lv_at hl 0 rfl) ?_
      refine xg_X8_18 C hW dX8_soupInAll_11 ?_
      refine lv_iload_n hx hb dX8_soupInAll_14 rfl (lv_at hl 2 rfl) ?_
      obtain ⟨hin1, hq⟩ := hq
      refine xa_T2 C hW hin1 dX8_soupInAll_15 ?_
      refine lv_iadd hx hb dX8_soupInAll_16 ?_
      refine lv_topi (fun x1_2 ex1_2 => ?_)
      replace hq := hq _ ex1_2
      refine lv_istore_n (lv' := [(1, .int x1_2), (0, .ref (tA g x0)), (2, .int x2)]) hx hb dX8_soupInAll_17 rfl hl (by decide) rfl (fun ls hl => ?_)
      obtain ⟨x2_3, ex2_3⟩ : ∃ y : Int32, y = x2 + 1 := ⟨_, rfl⟩
      replace hq := hq _ ex2_3
      refine lv_iinc (v := x2_3) (lv' := [(2, .int x2_3), (1, .int x1_2), (0, .ref (tA g x0))]) hx hb dX8_soupInAll_18 hl (k := 2) rfl (by rw [ex2_3]; rfl) (by decide) rfl (fun ls hl => ?_)
      refine lv_goto (tgt := 4) hx hb dX8_soupInAll_21 (by decide) ?_
      exact ih _ _ _ _ _ _ _ hW (lv_sub hl [2, 1, 0] rfl) hq
set_option maxHeartbeats 4000000 in
set_option maxRecDepth 100000 in
theorem wX8_soupInAll (C : CallFix p m c cX8_soupInAll 3 s args lwg RX8) (hRf : 0 ≤ R.frames) (hRl : 0 ≤ R.locals) {P : Int32 → XS → Prop} (hret : RetI g.1 (xw g) (xty g) A p l e R s m args below meth c 0 0 Q cX8_soupInAll P) {σ : XS} {x0 : Fin 3} {H : Heap} {locs : List Loc} {ls : Array Slot} (hW : WI g.1 (xw g) (xty g) A s σ H locs) (hl : lv_has ls 3 [(0, .ref (tA g x0))]) (hq : qX8_soupInAll g σ x0 P) : W p l e R s m args below meth c H locs 0 0 Q (F0 m 0 ls []) := by
  have hx := C.1
  have hb := C.2.1
  unfold qX8_soupInAll at hq
  refine lv_iconst (v := 0) hx hb dX8_soupInAll_0 (by decide) ?_
  refine lv_istore_n (lv' := [(1, .int 0), (0, .ref (tA g x0))]) hx hb dX8_soupInAll_1 rfl hl (by decide) rfl (fun ls hl => ?_)
  refine lv_iconst (v := 0) hx hb dX8_soupInAll_2 (by decide) ?_
  refine lv_istore_n (lv' := [(2, .int 0), (1, .int 0), (0, .ref (tA g x0))]) hx hb dX8_soupInAll_3 rfl hl (by decide) rfl (fun ls hl => ?_)
  obtain ⟨f4, hq⟩ := hq
  exact wX8_soupInAll_L4 C hRf hRl hret f4 _ _ _ _ _ _ _ hW (lv_sub hl [2, 1, 0] rfl) hq
set_option maxHeartbeats 4000000 in
set_option maxRecDepth 100000 in
theorem mX8_soupInAll {l : Launch} {g : XG} {σ : XS} {x0 : Fin 3} {P : Int32 → XS → Prop} (hq : qX8_soupInAll g σ x0 P) (sz : Nat) : Met l yX8_soupInAll (cws yX8_soupInAll cX8_soupInAll 3 (some .int)) ({ frames := 0, cells := 0, slots := 0, locals := 0 } : Room) (va_Pc [.ref (tA g x0)] (WP g.1 (xw g) (xty g) σ sz)) (va_Qi P (WB g.1 (xw g) (xty g) σ sz) (va_A (xw g σ) sz)) 0 0 (va_A (xw g σ) sz) :=
  w_enter (by decide) (Nat.le_of_ble_eq_true rfl) (fun p e s m args below meth c ls C hr hk hn hs hW hl => wX8_soupInAll C (Nat.le_refl _) (Nat.le_refl _) (fun pc ls v σ H locs hd hW hq => w_iret C hs hr hk hW hd hq) hW hl hq)
set_option maxHeartbeats 4000000 in
set_option maxRecDepth 100000 in
theorem kX8_soupInAll_X10_285 (C : CallFix p m c cc nL s args lwg RX10) {σ : XS} (hW : WI g.1 (xw g) (xty g) A s σ H locs) (hRf : 1 ≤ R.frames) (hRl : 22 ≤ R.locals) (hls : ls.size = nL) (hro : (rest.map fun v => v.category).sum ≤ 8) {x0 : Fin 3} (hd : decode cc pc = .ok (.invokevirtual 285, 3)) {P : Int32 → XS → Prop} (hq : qX8_soupInAll g σ x0 P) (kk : ∀ (r : Int32) (σ1 : XS) (H : Heap) (locs : List Loc), P r σ1 → WI g.1 (xw g) (xty g) A s σ1 H locs → W p l e R s m args below meth c H locs 0 0 Q (F0 m (pc + 3) ls (.int r :: rest))) : W p l e R s m args below meth c H locs 0 0 Q (F0 m pc ls (.ref (tA g x0) :: rest)) :=
  w_calli hW (w_runV C hW (mX8_soupInAll hq _) ⟨(lwg_at 642 (by decide +kernel) rfl), (lwg_at 71 (by decide +kernel) rfl), (lwg_at 891 (by decide +kernel) rfl)⟩ (lwg_at 640 (by decide +kernel) rfl) (lwg_at 641 (by decide +kernel) rfl) (np := 0) (by decide +kernel) ⟨rfl, rfl⟩ ⟨hRf, hRl⟩ (ci := 9) rfl rfl (q0 := 5 + 4 * x0.val) (xw_T g σ x0) rfl hls rfl hro hd ⟨Nat.zero_le _, Nat.zero_le _⟩) kk
set_option maxHeartbeats 4000000 in
set_option maxRecDepth 100000 in
theorem kX8_soupInAll_X6_45 (C : CallFix p m c cc nL s args lwg RX6) {σ : XS} (hW : WI g.1 (xw g) (xty g) A s σ H locs) (hRf : 1 ≤ R.frames) (hRl : 22 ≤ R.locals) (hls : ls.size = nL) (hro : (rest.map fun v => v.category).sum ≤ 8) {x0 : Fin 3} (hd : decode cc pc = .ok (.invokevirtual 45, 3)) {P : Int32 → XS → Prop} (hq : qX8_soupInAll g σ x0 P) (kk : ∀ (r : Int32) (σ1 : XS) (H : Heap) (locs : List Loc), P r σ1 → WI g.1 (xw g) (xty g) A s σ1 H locs → W p l e R s m args below meth c H locs 0 0 Q (F0 m (pc + 3) ls (.int r :: rest))) : W p l e R s m args below meth c H locs 0 0 Q (F0 m pc ls (.ref (tA g x0) :: rest)) :=
  w_calli hW (w_runV C hW (mX8_soupInAll hq _) ⟨(lwg_at 642 (by decide +kernel) rfl), (lwg_at 71 (by decide +kernel) rfl), (lwg_at 639 (by decide +kernel) rfl)⟩ (lwg_at 640 (by decide +kernel) rfl) (lwg_at 641 (by decide +kernel) rfl) (np := 0) (by decide +kernel) ⟨rfl, rfl⟩ ⟨hRf, hRl⟩ (ci := 9) rfl rfl (q0 := 5 + 4 * x0.val) (xw_T g σ x0) rfl hls rfl hro hd ⟨Nat.zero_le _, Nat.zero_le _⟩) kk
-- X6_begin
set_option maxHeartbeats 4000000 in
set_option maxRecDepth 100000 in
theorem wX6_begin_L57 (C : CallFix p m c cX6_begin 3 s args lwg RX6) (hRf : 1 ≤ R.frames) (hRl : 60 ≤ R.locals) {P : XS → Prop} (hret : RetV g.1 (xw g) (xty g) A p l e R s m args below meth c 0 0 Q cX6_begin P) {e90 : XS → Prop} (he90 : ∀ (σ : XS) (H : Heap) (locs : List Loc) (ls : Array Slot), WI g.1 (xw g) (xty g) A s σ H locs → lv_has ls 3 [(0, .ref (g.2.1 17))] → e90 σ → W p l e R s m args below meth c H locs 0 0 Q (F0 m 90 ls [])) : ∀ (n : Nat) (σ : XS) (x2 : Int32) (H : Heap) (locs : List Loc) (ls : Array Slot), WI g.1 (xw g) (xty g) A s σ H locs → lv_has ls 3 [(0, .ref (g.2.1 17)), (2, .int x2)] → qX6_begin_L57 g e90 P n σ x2 → W p l e R s m args below meth c H locs 0 0 Q (F0 m 57 ls []) := by
  have hx := C.1
  have hb := C.2.1
  intro n
  induction n with
  | zero =>
    intro σ x2 H locs ls hW hl hq
    rw [qX6_begin_L57] at hq
    exact hq.elim
  | succ n ih =>
    intro σ x2 H locs ls hW hl hq
    rw [qX6_begin_L57] at hq
    refine lv_iload_n hx hb dX6_begin_57 rfl (lv_at hl 1 rfl) ?_
    refine lv_bipush (v := 10) hx hb dX6_begin_58 (by decide) ?_
    refine lv_icmp_ge (tgt := 90) hx hb dX6_begin_60 (by decide) (fun h => ?_) (fun h => ?_)
    · replace hq := br_pos h hq
      exact he90 _ _ _ _ hW (lv_sub hl [0] rfl) hq
    · replace hq := br_neg h hq
      refine lv_aload_n hx hb dX6_begin_63 rfl (lv_at hl 0 rfl) ?_
      refine xg_X6_15 C hW dX6_begin_64 ?_
      refine lv_iload_n hx hb dX6_begin_67 rfl (lv_at hl 1 rfl) ?_
      refine lv_iconst (v := 0) hx hb dX6_begin_68 (by decide) ?_
      obtain ⟨hin1, hq⟩ := hq
      refine xs_R C hW hin1 dX6_begin_69 (fun σ_2 H locs eσ_2 hW => ?_)
      replace hq := hq _ eσ_2
      refine lv_aload_n hx hb dX6_begin_70 rfl (lv_at hl 0 rfl) ?_
      refine xg_X6_18 C hW dX6_begin_71 ?_
      refine lv_iload_n hx hb dX6_begin_74 rfl (lv_at hl 1 rfl) ?_
      refine lv_iconst (v := 0) hx hb dX6_begin_75 (by decide) ?_
      refine xs_A9 C hW hin1 dX6_begin_76 (fun σ_3 H locs eσ_3 hW => ?_)
      replace hq := hq _ eσ_3
      refine lv_aload_n hx hb dX6_begin_77 rfl (lv_at hl 0 rfl) ?_
      refine xg_X6_21 C hW dX6_begin_78 ?_
      refine lv_iload_n hx hb dX6_begin_81 rfl (lv_at hl 1 rfl) ?_
      refine lv_iconst (v := 0) hx hb dX6_begin_82 (by decide) ?_
      refine xs_A10 C hW hin1 dX6_begin_83 (fun σ_4 H locs eσ_4 hW => ?_)
      replace hq := hq _ eσ_4
      obtain ⟨x2_5, ex2_5⟩ : ∃ y : Int32, y = x2 + 1 := ⟨_, rfl⟩
      replace hq := hq _ ex2_5
      refine lv_iinc (v := x2_5) (lv' := [(2, .int x2_5), (0, .ref (g.2.1 17))]) hx hb dX6_begin_84 hl (k := 1) rfl (by rw [ex2_5]; rfl) (by decide) rfl (fun ls hl => ?_)
      refine lv_goto (tgt := 57) hx hb dX6_begin_87 (by decide) ?_
      exact ih _ _ _ _ _ hW (lv_sub hl [1, 0] rfl) hq
set_option maxHeartbeats 4000000 in
set_option maxRecDepth 100000 in
theorem wX6_begin (C : CallFix p m c cX6_begin 3 s args lwg RX6) (hRf : 1 ≤ R.frames) (hRl : 60 ≤ R.locals) {P : XS → Prop} (hret : RetV g.1 (xw g) (xty g) A p l e R s m args below meth c 0 0 Q cX6_begin P) {σ : XS} {x1 : Fin 3} {H : Heap} {locs : List Loc} {ls : Array Slot} (hW : WI g.1 (xw g) (xty g) A s σ H locs) (hl : lv_has ls 3 [(0, .ref (g.2.1 17)), (1, .ref (tA g x1))]) (hq : qX6_begin g σ x1 P) : W p l e R s m args below meth c H locs 0 0 Q (F0 m 0 ls []) := by
  have hx := C.1
  have hb := C.2.1
  unfold qX6_begin at hq
  refine lv_aload_n hx hb dX6_begin_0 rfl (lv_at hl 0 rfl) ?_
  refine lv_aload_n hx hb dX6_begin_1 rfl (lv_at hl 1 rfl) ?_
  refine xp_X6_27 C hW dX6_begin_2 (fun σ_1 H locs eσ_1 hW => ?_)
  replace hq := hq _ eσ_1
  refine lv_aload_n hx hb dX6_begin_5 rfl (lv_at hl 1 rfl) ?_
  refine xg_X6_31 C hW dX6_begin_6 ?_
  refine lv_iconst (v := 0) hx hb dX6_begin_9 (by decide) ?_
  refine lv_aload_n hx hb dX6_begin_10 rfl (lv_at hl 0 rfl) ?_
  refine xg_X6_9 C hW dX6_begin_11 ?_
  refine lv_iconst (v := 0) hx hb dX6_begin_14 (by decide) ?_
  refine lv_iconst (v := 5) hx hb dX6_begin_15 (by decide) ?_
  refine xcp_TS C hW (Nat.le_trans (by decide) hRf) (Nat.le_trans (by decide) hRl) hl.1 (Nat.le_of_ble_eq_true rfl) dX6_begin_16 (fun σ_2 H locs eσ_2 hW => ?_)
  replace hq := hq _ eσ_2
  refine lv_aload_n hx hb dX6_begin_19 rfl (lv_at hl 0 rfl) ?_
  refine lv_aload_n hx hb dX6_begin_20 rfl (lv_at hl 1 rfl) ?_
  refine xg_X6_40 C hW dX6_begin_21 ?_
  refine xp_X6_44 C hW dX6_begin_24 (fun σ_3 H locs eσ_3 hW => ?_)
  replace hq := hq _ eσ_3
  refine lv_aload_n hx hb dX6_begin_27 rfl (lv_at hl 0 rfl) ?_
  refine lv_aload_n hx hb dX6_begin_28 rfl (lv_at hl 1 rfl) ?_
  refine kX8_soupInAll_X6_45 C hW (Nat.le_trans (by decide) hRf) (Nat.le_trans (by decide) hRl) hl.1 (Nat.le_of_ble_eq_true rfl) dX6_begin_29 hq (fun r_5 σ_4 H locs hq hW => ?_)
  refine xp_X6_49 C hW dX6_begin_32 (fun σ_6 H locs eσ_6 hW => ?_)
  replace hq := hq _ eσ_6
  refine lv_aload_n hx hb dX6_begin_35 rfl (lv_at hl 0 rfl) ?_
  refine lv_iconst (v := 0) hx hb dX6_begin_36 (by decide) ?_
  refine xp_X6_52 C hW dX6_begin_37 (fun σ_7 H locs eσ_7 hW => ?_)
  replace hq := hq _ eσ_7
  refine lv_aload_n hx hb dX6_begin_40 rfl (lv_at hl 0 rfl) ?_
  refine lv_iconst (v := 0) hx hb dX6_begin_41 (by decide) ?_
  refine xp_X6_55 C hW dX6_begin_42 (fun σ_8 H locs eσ_8 hW => ?_)
  replace hq := hq _ eσ_8
  refine lv_aload_n hx hb dX6_begin_45 rfl (lv_at hl 0 rfl) ?_
  refine lv_iconst (v := 0) hx hb dX6_begin_46 (by decide) ?_
  refine xp_X6_58 C hW dX6_begin_47 (fun σ_9 H locs eσ_9 hW => ?_)
  replace hq := hq _ eσ_9
  refine lv_aload_n hx hb dX6_begin_50 rfl (lv_at hl 0 rfl) ?_
  refine lv_iconst (v := 0) hx hb dX6_begin_51 (by decide) ?_
  refine xp_X6_61 C hW dX6_begin_52 (fun σ_10 H locs eσ_10 hW => ?_)
  replace hq := hq _ eσ_10
  refine lv_iconst (v := 0) hx hb dX6_begin_55 (by decide) ?_
  refine lv_istore_n (lv' := [(2, .int 0), (0, .ref (g.2.1 17)), (1, .ref (tA g x1))]) hx hb dX6_begin_56 rfl hl (by decide) rfl (fun ls hl => ?_)
  obtain ⟨f57, hq⟩ := hq
  refine wX6_begin_L57 C hRf hRl hret ?_ f57 _ _ _ _ _ hW (lv_sub hl [1, 0] rfl) hq
  · intro σ_11 H locs ls hW hl hq
    refine lv_aload_n hx hb dX6_begin_90 rfl (lv_at hl 0 rfl) ?_
    refine lv_iconst (v := (-1)) hx hb dX6_begin_91 (by decide) ?_
    refine xp_X6_64 C hW dX6_begin_92 (fun σ_12 H locs eσ_12 hW => ?_)
    replace hq := hq _ eσ_12
    refine lv_aload_n hx hb dX6_begin_95 rfl (lv_at hl 0 rfl) ?_
    refine lv_iconst (v := (-1)) hx hb dX6_begin_96 (by decide) ?_
    refine xp_X6_67 C hW dX6_begin_97 (fun σ_13 H locs eσ_13 hW => ?_)
    replace hq := hq _ eσ_13
    exact hret _ _ _ _ _ dX6_begin_100 hW hq
set_option maxHeartbeats 4000000 in
set_option maxRecDepth 100000 in
theorem mX6_begin {l : Launch} {g : XG} {σ : XS} {x1 : Fin 3} {P : XS → Prop} (hq : qX6_begin g σ x1 P) (sz : Nat) : Met l yX6_begin (cws yX6_begin cX6_begin 3 none) ({ frames := 1, cells := 0, slots := 0, locals := 60 } : Room) (va_Pc [.ref (g.2.1 17), .ref (tA g x1)] (WP g.1 (xw g) (xty g) σ sz)) (va_Qv P (WB g.1 (xw g) (xty g) σ sz) (va_A (xw g σ) sz)) 0 0 (va_A (xw g σ) sz) :=
  w_enter (by decide) (Nat.le_of_ble_eq_true rfl) (fun p e s m args below meth c ls C hr hk hn hs hW hl => wX6_begin C (Nat.le_refl _) (Nat.le_refl _) (fun pc ls σ H locs hd hW hq => w_vret C hs hr hk hW hd hq) hW hl hq)
set_option maxHeartbeats 4000000 in
set_option maxRecDepth 100000 in
theorem kX6_begin_X10_171 (C : CallFix p m c cc nL s args lwg RX10) {σ : XS} (hW : WI g.1 (xw g) (xty g) A s σ H locs) (hRf : 2 ≤ R.frames) (hRl : 82 ≤ R.locals) (hls : ls.size = nL) (hro : (rest.map fun v => v.category).sum ≤ 8) {x1 : Fin 3} (hd : decode cc pc = .ok (.invokevirtual 171, 3)) {P : XS → Prop} (hq : qX6_begin g σ x1 P) (kk : ∀ (σ1 : XS) (H : Heap) (locs : List Loc), P σ1 → WI g.1 (xw g) (xty g) A s σ1 H locs → W p l e R s m args below meth c H locs 0 0 Q (F0 m (pc + 3) ls rest)) : W p l e R s m args below meth c H locs 0 0 Q (F0 m pc ls (.ref (tA g x1) :: .ref (g.2.1 17) :: rest)) :=
  w_callv hW (w_runV C hW (mX6_begin hq _) ⟨(lwg_at 637 (by decide +kernel) rfl), (lwg_at 72 (by decide +kernel) rfl), (lwg_at 768 (by decide +kernel) rfl)⟩ (lwg_at 635 (by decide +kernel) rfl) (lwg_at 636 (by decide +kernel) rfl) (np := 1) (by decide +kernel) ⟨rfl, rfl⟩ ⟨hRf, hRl⟩ (ci := 7) rfl rfl (q0 := 17) rfl rfl hls rfl hro hd ⟨Nat.zero_le _, Nat.zero_le _⟩) kk
set_option maxHeartbeats 4000000 in
set_option maxRecDepth 100000 in
theorem kX6_begin_X6_70 (C : CallFix p m c cc nL s args lwg RX6) {σ : XS} (hW : WI g.1 (xw g) (xty g) A s σ H locs) (hRf : 2 ≤ R.frames) (hRl : 82 ≤ R.locals) (hls : ls.size = nL) (hro : (rest.map fun v => v.category).sum ≤ 8) {x1 : Fin 3} (hd : decode cc pc = .ok (.invokevirtual 70, 3)) {P : XS → Prop} (hq : qX6_begin g σ x1 P) (kk : ∀ (σ1 : XS) (H : Heap) (locs : List Loc), P σ1 → WI g.1 (xw g) (xty g) A s σ1 H locs → W p l e R s m args below meth c H locs 0 0 Q (F0 m (pc + 3) ls rest)) : W p l e R s m args below meth c H locs 0 0 Q (F0 m pc ls (.ref (tA g x1) :: .ref (g.2.1 17) :: rest)) :=
  w_callv hW (w_runV C hW (mX6_begin hq _) ⟨(lwg_at 637 (by decide +kernel) rfl), (lwg_at 72 (by decide +kernel) rfl), (lwg_at 634 (by decide +kernel) rfl)⟩ (lwg_at 635 (by decide +kernel) rfl) (lwg_at 636 (by decide +kernel) rfl) (np := 1) (by decide +kernel) ⟨rfl, rfl⟩ ⟨hRf, hRl⟩ (ci := 7) rfl rfl (q0 := 17) rfl rfl hls rfl hro hd ⟨Nat.zero_le _, Nat.zero_le _⟩) kk
-- X6_isOver
set_option maxHeartbeats 4000000 in
set_option maxRecDepth 100000 in
theorem wX6_isOver_J17 (C : CallFix p m c cX6_isOver 1 s args lwg RX6) (hRf : 0 ≤ R.frames) (hRl : 0 ≤ R.locals) {P : Int32 → XS → Prop} (hret : RetZ g.1 (xw g) (xty g) A p l e R s m args below meth c 0 0 Q cX6_isOver P) {σ : XS} {H : Heap} {locs : List Loc} {ls : Array Slot} (hW : WI g.1 (xw g) (xty g) A s σ H locs) (hl : lv_has ls 1 [(0, .ref (g.2.1 17))]) (hq : qX6_isOver_J17 g  P σ ) : W p l e R s m args below meth c H locs 0 0 Q (F0 m 17 ls []) := by
  have hx := C.1
  have hb := C.2.1
  unfold qX6_isOver_J17 at hq
  refine lv_iconst (v := 1) hx hb dX6_isOver_17 (by decide) ?_
  refine lv_goto (tgt := 22) hx hb dX6_isOver_18 (by decide) ?_
  exact hret _ _ _ _ _ _ dX6_isOver_22 hW isB_1 hq
set_option maxHeartbeats 4000000 in
set_option maxRecDepth 100000 in
theorem wX6_isOver (C : CallFix p m c cX6_isOver 1 s args lwg RX6) (hRf : 0 ≤ R.frames) (hRl : 0 ≤ R.locals) {P : Int32 → XS → Prop} (hret : RetZ g.1 (xw g) (xty g) A p l e R s m args below meth c 0 0 Q cX6_isOver P) {σ : XS} {H : Heap} {locs : List Loc} {ls : Array Slot} (hW : WI g.1 (xw g) (xty g) A s σ H locs) (hl : lv_has ls 1 [(0, .ref (g.2.1 17))]) (hq : qX6_isOver g σ  P) : W p l e R s m args below meth c H locs 0 0 Q (F0 m 0 ls []) := by
  have hx := C.1
  have hb := C.2.1
  unfold qX6_isOver at hq
  refine lv_aload_n hx hb dX6_isOver_0 rfl (lv_at hl 0 rfl) ?_
  refine xg_X6_49 C hW dX6_isOver_1 ?_
  refine lv_if_eq (tgt := 17) hx hb dX6_isOver_4 (by decide) (fun h => ?_) (fun h => ?_)
  · replace hq := br_pos h hq
    exact wX6_isOver_J17 C hRf hRl hret  hW hl hq
  · replace hq := br_neg h hq
    refine lv_aload_n hx hb dX6_isOver_7 rfl (lv_at hl 0 rfl) ?_
    refine xg_X6_55 C hW dX6_isOver_8 ?_
    refine lv_sipush (v := 300) hx hb dX6_isOver_11 (by decide) ?_
    refine lv_icmp_lt (tgt := 21) hx hb dX6_isOver_14 (by decide) (fun h => ?_) (fun h => ?_)
    · replace hq := br_pos h hq
      refine lv_iconst (v := 0) hx hb dX6_isOver_21 (by decide) ?_
      exact hret _ _ _ _ _ _ dX6_isOver_22 hW isB_0 hq
    · replace hq := br_neg h hq
      exact wX6_isOver_J17 C hRf hRl hret  hW hl hq
set_option maxHeartbeats 4000000 in
set_option maxRecDepth 100000 in
theorem mX6_isOver {l : Launch} {g : XG} {σ : XS} {P : Int32 → XS → Prop} (hq : qX6_isOver g σ  P) (sz : Nat) : Met l yX6_isOver (cws yX6_isOver cX6_isOver 1 (some .boolean)) ({ frames := 0, cells := 0, slots := 0, locals := 0 } : Room) (va_Pc [.ref (g.2.1 17)] (WP g.1 (xw g) (xty g) σ sz)) (va_Qi P (WB g.1 (xw g) (xty g) σ sz) (va_A (xw g σ) sz)) 0 0 (va_A (xw g σ) sz) :=
  w_enter (by decide) (Nat.le_of_ble_eq_true rfl) (fun p e s m args below meth c ls C hr hk hn hs hW hl => wX6_isOver C (Nat.le_refl _) (Nat.le_refl _) (fun pc ls v σ H locs hd hW hv hq => w_zret C hs hr hk hW hd hv hq) hW hl hq)
set_option maxHeartbeats 4000000 in
set_option maxRecDepth 100000 in
theorem kX6_isOver_X6_84 (C : CallFix p m c cc nL s args lwg RX6) {σ : XS} (hW : WI g.1 (xw g) (xty g) A s σ H locs) (hRf : 1 ≤ R.frames) (hRl : 20 ≤ R.locals) (hls : ls.size = nL) (hro : (rest.map fun v => v.category).sum ≤ 8) (hd : decode cc pc = .ok (.invokevirtual 84, 3)) {P : Int32 → XS → Prop} (hq : qX6_isOver g σ  P) (kk : ∀ (r : Int32) (σ1 : XS) (H : Heap) (locs : List Loc), P r σ1 → WI g.1 (xw g) (xty g) A s σ1 H locs → W p l e R s m args below meth c H locs 0 0 Q (F0 m (pc + 3) ls (.int r :: rest))) : W p l e R s m args below meth c H locs 0 0 Q (F0 m pc ls (.ref (g.2.1 17) :: rest)) :=
  w_calli hW (w_runV C hW (mX6_isOver hq _) ⟨(lwg_at 650 (by decide +kernel) rfl), (lwg_at 72 (by decide +kernel) rfl), (lwg_at 647 (by decide +kernel) rfl)⟩ (lwg_at 649 (by decide +kernel) rfl) (lwg_at 10 (by decide +kernel) rfl) (np := 0) (by decide +kernel) ⟨rfl, rfl⟩ ⟨hRf, hRl⟩ (ci := 7) rfl rfl (q0 := 17) rfl rfl hls rfl hro hd ⟨Nat.zero_le _, Nat.zero_le _⟩) kk
-- X8_isStarved
set_option maxHeartbeats 4000000 in
set_option maxRecDepth 100000 in
theorem wX8_isStarved (C : CallFix p m c cX8_isStarved 2 s args lwg RX8) (hRf : 0 ≤ R.frames) (hRl : 0 ≤ R.locals) {P : Int32 → XS → Prop} (hret : RetZ g.1 (xw g) (xty g) A p l e R s m args below meth c 0 0 Q cX8_isStarved P) {σ : XS} {x0 : Fin 3} {x1 : Int32} {H : Heap} {locs : List Loc} {ls : Array Slot} (hW : WI g.1 (xw g) (xty g) A s σ H locs) (hl : lv_has ls 2 [(0, .ref (tA g x0)), (1, .int x1)]) (hq : qX8_isStarved g σ x0 x1 P) : W p l e R s m args below meth c H locs 0 0 Q (F0 m 0 ls []) := by
  have hx := C.1
  have hb := C.2.1
  unfold qX8_isStarved at hq
  refine lv_aload_n hx hb dX8_isStarved_0 rfl (lv_at hl 0 rfl) ?_
  refine xg_X8_9 C hW dX8_isStarved_1 ?_
  refine lv_iload_n hx hb dX8_isStarved_4 rfl (lv_at hl 1 rfl) ?_
  obtain ⟨hin1, hq⟩ := hq
  refine xa_T0 C hW hin1 dX8_isStarved_5 ?_
  refine lv_iconst (v := (-1)) hx hb dX8_isStarved_6 (by decide) ?_
  refine lv_icmp_ne (tgt := 14) hx hb dX8_isStarved_7 (by decide) (fun h => ?_) (fun h => ?_)
  · replace hq := br_neg h hq
    refine lv_iconst (v := 0) hx hb dX8_isStarved_14 (by decide) ?_
    exact hret _ _ _ _ _ _ dX8_isStarved_15 hW isB_0 hq
  · replace hq := br_pos h hq
    refine lv_iconst (v := 1) hx hb dX8_isStarved_10 (by decide) ?_
    refine lv_goto (tgt := 15) hx hb dX8_isStarved_11 (by decide) ?_
    exact hret _ _ _ _ _ _ dX8_isStarved_15 hW isB_1 hq
set_option maxHeartbeats 4000000 in
set_option maxRecDepth 100000 in
theorem mX8_isStarved {l : Launch} {g : XG} {σ : XS} {x0 : Fin 3} {x1 : Int32} {P : Int32 → XS → Prop} (hq : qX8_isStarved g σ x0 x1 P) (sz : Nat) : Met l yX8_isStarved (cws yX8_isStarved cX8_isStarved 2 (some .boolean)) ({ frames := 0, cells := 0, slots := 0, locals := 0 } : Room) (va_Pc [.ref (tA g x0), .int x1] (WP g.1 (xw g) (xty g) σ sz)) (va_Qi P (WB g.1 (xw g) (xty g) σ sz) (va_A (xw g σ) sz)) 0 0 (va_A (xw g σ) sz) :=
  w_enter (by decide) (Nat.le_of_ble_eq_true rfl) (fun p e s m args below meth c ls C hr hk hn hs hW hl => wX8_isStarved C (Nat.le_refl _) (Nat.le_refl _) (fun pc ls v σ H locs hd hW hv hq => w_zret C hs hr hk hW hd hv hq) hW hl hq)
set_option maxHeartbeats 4000000 in
set_option maxRecDepth 100000 in
theorem kX8_isStarved_X10_213 (C : CallFix p m c cc nL s args lwg RX10) {σ : XS} (hW : WI g.1 (xw g) (xty g) A s σ H locs) (hRf : 1 ≤ R.frames) (hRl : 21 ≤ R.locals) (hls : ls.size = nL) (hro : (rest.map fun v => v.category).sum ≤ 8) {x0 : Fin 3} {x1 : Int32} (hd : decode cc pc = .ok (.invokevirtual 213, 3)) {P : Int32 → XS → Prop} (hq : qX8_isStarved g σ x0 x1 P) (kk : ∀ (r : Int32) (σ1 : XS) (H : Heap) (locs : List Loc), P r σ1 → WI g.1 (xw g) (xty g) A s σ1 H locs → W p l e R s m args below meth c H locs 0 0 Q (F0 m (pc + 3) ls (.int r :: rest))) : W p l e R s m args below meth c H locs 0 0 Q (F0 m pc ls (.int x1 :: .ref (tA g x0) :: rest)) :=
  w_calli hW (w_runV C hW (mX8_isStarved hq _) ⟨(lwg_at 663 (by decide +kernel) rfl), (lwg_at 71 (by decide +kernel) rfl), (lwg_at 832 (by decide +kernel) rfl)⟩ (lwg_at 661 (by decide +kernel) rfl) (lwg_at 662 (by decide +kernel) rfl) (np := 1) (by decide +kernel) ⟨rfl, rfl⟩ ⟨hRf, hRl⟩ (ci := 9) rfl rfl (q0 := 5 + 4 * x0.val) (xw_T g σ x0) rfl hls rfl hro hd ⟨Nat.zero_le _, Nat.zero_le _⟩) kk
set_option maxHeartbeats 4000000 in
set_option maxRecDepth 100000 in
theorem kX8_isStarved_X6_141 (C : CallFix p m c cc nL s args lwg RX6) {σ : XS} (hW : WI g.1 (xw g) (xty g) A s σ H locs) (hRf : 1 ≤ R.frames) (hRl : 21 ≤ R.locals) (hls : ls.size = nL) (hro : (rest.map fun v => v.category).sum ≤ 8) {x0 : Fin 3} {x1 : Int32} (hd : decode cc pc = .ok (.invokevirtual 141, 3)) {P : Int32 → XS → Prop} (hq : qX8_isStarved g σ x0 x1 P) (kk : ∀ (r : Int32) (σ1 : XS) (H : Heap) (locs : List Loc), P r σ1 → WI g.1 (xw g) (xty g) A s σ1 H locs → W p l e R s m args below meth c H locs 0 0 Q (F0 m (pc + 3) ls (.int r :: rest))) : W p l e R s m args below meth c H locs 0 0 Q (F0 m pc ls (.int x1 :: .ref (tA g x0) :: rest)) :=
  w_calli hW (w_runV C hW (mX8_isStarved hq _) ⟨(lwg_at 663 (by decide +kernel) rfl), (lwg_at 71 (by decide +kernel) rfl), (lwg_at 660 (by decide +kernel) rfl)⟩ (lwg_at 661 (by decide +kernel) rfl) (lwg_at 662 (by decide +kernel) rfl) (np := 1) (by decide +kernel) ⟨rfl, rfl⟩ ⟨hRf, hRl⟩ (ci := 9) rfl rfl (q0 := 5 + 4 * x0.val) (xw_T g σ x0) rfl hls rfl hro hd ⟨Nat.zero_le _, Nat.zero_le _⟩) kk
set_option maxHeartbeats 4000000 in
set_option maxRecDepth 100000 in
theorem kX8_isStarved_X8_55 (C : CallFix p m c cc nL s args lwg RX8) {σ : XS} (hW : WI g.1 (xw g) (xty g) A s σ H locs) (hRf : 1 ≤ R.frames) (hRl : 21 ≤ R.locals) (hls : ls.size = nL) (hro : (rest.map fun v => v.category).sum ≤ 8) {x0 : Fin 3} {x1 : Int32} (hd : decode cc pc = .ok (.invokevirtual 55, 3)) {P : Int32 → XS → Prop} (hq : qX8_isStarved g σ x0 x1 P) (kk : ∀ (r : Int32) (σ1 : XS) (H : Heap) (locs : List Loc), P r σ1 → WI g.1 (xw g) (xty g) A s σ1 H locs → W p l e R s m args below meth c H locs 0 0 Q (F0 m (pc + 3) ls (.int r :: rest))) : W p l e R s m args below meth c H locs 0 0 Q (F0 m pc ls (.int x1 :: .ref (tA g x0) :: rest)) :=
  w_calli hW (w_runV C hW (mX8_isStarved hq _) ⟨(lwg_at 663 (by decide +kernel) rfl), (lwg_at 71 (by decide +kernel) rfl), (lwg_at 826 (by decide +kernel) rfl)⟩ (lwg_at 661 (by decide +kernel) rfl) (lwg_at 662 (by decide +kernel) rfl) (np := 1) (by decide +kernel) ⟨rfl, rfl⟩ ⟨hRf, hRl⟩ (ci := 9) rfl rfl (q0 := 5 + 4 * x0.val) (xw_T g σ x0) rfl hls rfl hro hd ⟨Nat.zero_le _, Nat.zero_le _⟩) kk
-- X4_isOfKind
set_option maxHeartbeats 4000000 in
set_option maxRecDepth 100000 in
theorem wX4_isOfKind (C : CallFix p m c cX4_isOfKind 2 s args lwg RX4) (hRf : 0 ≤ R.frames) (hRl : 0 ≤ R.locals) {P : Int32 → XS → Prop} (hret : RetZ g.1 (xw g) (xty g) A p l e R s m args below meth c 0 0 Q cX4_isOfKind P) {σ : XS} {x0 : Fin (nH g)} {x1 : Int32} {H : Heap} {locs : List Loc} {ls : Array Slot} (hW : WI g.1 (xw g) (xty g) A s σ H locs) (hl : lv_has ls 2 [(0, .ref (hA g x0)), (1, .int x1)]) (hq : qX4_isOfKind g σ x0 x1 P) : W p l e R s m args below meth c H locs 0 0 Q (F0 m 0 ls []) := by
  have hx := C.1
  have hb := C.2.1
  unfold qX4_isOfKind at hq
  refine lv_iload_n hx hb dX4_isOfKind_0 rfl (lv_at hl 1 rfl) ?_
  by_cases h1_0 : x1 = 0
  · replace hq := br_pos h1_0 hq
    refine lv_tableIn (off := 35) (tgt := 36) hx hb dX4_isOfKind_1 (by rw [h1_0]; decide) (by rw [h1_0]; decide) (by rw [h1_0]; decide) (by decide) ?_
    refine lv_iconst (v := 1) hx hb dX4_isOfKind_36 (by decide) ?_
    refine lv_goto (tgt := 69) hx hb dX4_isOfKind_37 (by decide) ?_
    exact hret _ _ _ _ _ _ dX4_isOfKind_69 hW isB_1 hq
  · replace hq := br_neg h1_0 hq
    by_cases h1_1 : x1 = 1
    · replace hq := br_pos h1_1 hq
      refine lv_tableIn (off := 39) (tgt := 40) hx hb dX4_isOfKind_1 (by rw [h1_1]; decide) (by rw [h1_1]; decide) (by rw [h1_1]; decide) (by decide) ?_
      refine lv_aload_n hx hb dX4_isOfKind_40 rfl (lv_at hl 0 rfl) ?_
      refine xi_X4_24 C hW dX4_isOfKind_41 ?_
      refine lv_topi (fun v_1 ev_1 => ?_)
      replace hq := hq _ ev_1
      refine lv_goto (tgt := 69) hx hb dX4_isOfKind_44 (by decide) ?_
      exact hret _ _ _ _ _ _ dX4_isOfKind_69 hW (by rw [ev_1]; exact isB_ite isB_1 isB_0) hq
    · replace hq := br_neg h1_1 hq
      by_cases h1_2 : x1 = 2
      · replace hq := br_pos h1_2 hq
        refine lv_tableIn (off := 46) (tgt := 47) hx hb dX4_isOfKind_1 (by rw [h1_2]; decide) (by rw [h1_2]; decide) (by rw [h1_2]; decide) (by decide) ?_
        refine lv_aload_n hx hb dX4_isOfKind_47 rfl (lv_at hl 0 rfl) ?_
        refine xi_X4_26 C hW dX4_isOfKind_48 ?_
        refine lv_topi (fun v_2 ev_2 => ?_)
        replace hq := hq _ ev_2
        refine lv_goto (tgt := 69) hx hb dX4_isOfKind_51 (by decide) ?_
        exact hret _ _ _ _ _ _ dX4_isOfKind_69 hW (by rw [ev_2]; exact isB_ite isB_1 isB_0) hq
      · replace hq := br_neg h1_2 hq
        by_cases h1_3 : x1 = 3
        · replace hq := br_pos h1_3 hq
          refine lv_tableIn (off := 53) (tgt := 54) hx hb dX4_isOfKind_1 (by rw [h1_3]; decide) (by rw [h1_3]; decide) (by rw [h1_3]; decide) (by decide) ?_
          refine lv_aload_n hx hb dX4_isOfKind_54 rfl (lv_at hl 0 rfl) ?_
          refine xi_X4_28 C hW dX4_isOfKind_55 ?_
          refine lv_topi (fun v_3 ev_3 => ?_)
          replace hq := hq _ ev_3
          refine lv_goto (tgt := 69) hx hb dX4_isOfKind_58 (by decide) ?_
          exact hret _ _ _ _ _ _ dX4_isOfKind_69 hW (by rw [ev_3]; exact isB_ite isB_1 isB_0) hq
        · replace hq := br_neg h1_3 hq
          by_cases h1_4 : x1 = 4
          · replace hq := br_pos h1_4 hq
            refine lv_tableIn (off := 60) (tgt := 61) hx hb dX4_isOfKind_1 (by rw [h1_4]; decide) (by rw [h1_4]; decide) (by rw [h1_4]; decide) (by decide) ?_
            refine lv_aload_n hx hb dX4_isOfKind_61 rfl (lv_at hl 0 rfl) ?_
            refine xi_X4_30 C hW dX4_isOfKind_62 ?_
            refine lv_topi (fun v_4 ev_4 => ?_)
            replace hq := hq _ ev_4
            refine lv_goto (tgt := 69) hx hb dX4_isOfKind_65 (by decide) ?_
            exact hret _ _ _ _ _ _ dX4_isOfKind_69 hW (by rw [ev_4]; exact isB_ite isB_1 isB_0) hq
          · replace hq := br_neg h1_4 hq
            refine lv_tableOut (tgt := 68) hx hb dX4_isOfKind_1 (ne_out5 h1_0 h1_1 h1_2 h1_3 h1_4) (by decide) ?_
            refine lv_iconst (v := 0) hx hb dX4_isOfKind_68 (by decide) ?_
            exact hret _ _ _ _ _ _ dX4_isOfKind_69 hW isB_0 hq
set_option maxHeartbeats 4000000 in
set_option maxRecDepth 100000 in
theorem mX4_isOfKind {l : Launch} {g : XG} {σ : XS} {x0 : Fin (nH g)} {x1 : Int32} {P : Int32 → XS → Prop} (hq : qX4_isOfKind g σ x0 x1 P) (sz : Nat) : Met l yX4_isOfKind (cws yX4_isOfKind cX4_isOfKind 2 (some .boolean)) ({ frames := 0, cells := 0, slots := 0, locals := 0 } : Room) (va_Pc [.ref (hA g x0), .int x1] (WP g.1 (xw g) (xty g) σ sz)) (va_Qi P (WB g.1 (xw g) (xty g) σ sz) (va_A (xw g σ) sz)) 0 0 (va_A (xw g σ) sz) :=
  w_enter (by decide) (Nat.le_of_ble_eq_true rfl) (fun p e s m args below meth c ls C hr hk hn hs hW hl => wX4_isOfKind C (Nat.le_refl _) (Nat.le_refl _) (fun pc ls v σ H locs hd hW hv hq => w_zret C hs hr hk hW hd hv hq) hW hl hq)
-- V_isOfKind
set_option maxHeartbeats 4000000 in
set_option maxRecDepth 100000 in
theorem kV_isOfKind_X10_130 (C : CallFix p m c cc nL s args lwg RX10) {σ : XS} (hW : WI g.1 (xw g) (xty g) A s σ H locs) (hRf : 1 ≤ R.frames) (hRl : 21 ≤ R.locals) (hls : ls.size = nL) (hro : (rest.map fun v => v.category).sum ≤ 8) {x0 : Fin (nH g)} {x1 : Int32} (hd : decode cc pc = .ok (.invokevirtual 130, 3)) {P : Int32 → XS → Prop} (hq : qV_isOfKind g σ x0 x1 P) (kk : ∀ (r : Int32) (σ1 : XS) (H : Heap) (locs : List Loc), P r σ1 → WI g.1 (xw g) (xty g) A s σ1 H locs → W p l e R s m args below meth c H locs 0 0 Q (F0 m (pc + 3) ls (.int r :: rest))) : W p l e R s m args below meth c H locs 0 0 Q (F0 m pc ls (.int x1 :: .ref (hA g x0) :: rest)) :=
  fin5 (P := fun kd => hK g x0 = kd → W p l e R s m args below meth c H locs 0 0 Q (F0 m pc ls (.int x1 :: .ref (hA g x0) :: rest))) (hK g x0)
    (fun hk => w_calli hW (w_runU C hW (Cn := "HermitsSpoon$Hermit") (mX4_isOfKind (hq.1 hk) _) (va_cwU (owner := "HermitsSpoon$Hermit") (x := ⟨"HermitsSpoon$Hermit", "isOfKind", "(I)Z"⟩) 1 C.2.2.2.2 (goodU (lwg_at 551 (by decide +kernel) rfl) (lwg_at 554 (by decide +kernel) rfl) (lwg_at 553 (by decide +kernel) rfl) (lwg_at 552 (by decide +kernel) rfl) (lwg_at 82 (by decide +kernel) rfl) (lwg_at 559 (by decide +kernel) rfl)) rfl rfl rfl rfl (by decide +kernel) ⟨Nat.le_trans (by decide) hRf, Nat.le_trans (by decide) hRl⟩) (ci := kc 0) rfl rfl (q0 := 36 + x0.val) (by rw [← hk]; exact xw_H g σ x0) rfl hls rfl hro hd ⟨Nat.zero_le _, Nat.zero_le _⟩) kk)
    (fun hk => w_calli hW (w_runU C hW (Cn := "HermitsSpoon$Slow") (mX4_isOfKind (hq.2.1 hk) _) (va_cwU (owner := "HermitsSpoon$Hermit") (x := ⟨"HermitsSpoon$Hermit", "isOfKind", "(I)Z"⟩) 1 C.2.2.2.2 (goodU (lwg_at 551 (by decide +kernel) rfl) (lwg_at 554 (by decide +kernel) rfl) (lwg_at 558 (by decide +kernel) rfl) (lwg_at 552 (by decide +kernel) rfl) (lwg_at 82 (by decide +kernel) rfl) (lwg_at 559 (by decide +kernel) rfl)) rfl rfl rfl rfl (by decide +kernel) ⟨Nat.le_trans (by decide) hRf, Nat.le_trans (by decide) hRl⟩) (ci := kc 1) rfl rfl (q0 := 36 + x0.val) (by rw [← hk]; exact xw_H g σ x0) rfl hls rfl hro hd ⟨Nat.zero_le _, Nat.zero_le _⟩) kk)
    (fun hk => w_calli hW (w_runU C hW (Cn := "HermitsSpoon$Deaf") (mX4_isOfKind (hq.2.2.1 hk) _) (va_cwU (owner := "HermitsSpoon$Hermit") (x := ⟨"HermitsSpoon$Hermit", "isOfKind", "(I)Z"⟩) 1 C.2.2.2.2 (goodU (lwg_at 551 (by decide +kernel) rfl) (lwg_at 554 (by decide +kernel) rfl) (lwg_at 555 (by decide +kernel) rfl) (lwg_at 552 (by decide +kernel) rfl) (lwg_at 82 (by decide +kernel) rfl) (lwg_at 559 (by decide +kernel) rfl)) rfl rfl rfl rfl (by decide +kernel) ⟨Nat.le_trans (by decide) hRf, Nat.le_trans (by decide) hRl⟩) (ci := kc 2) rfl rfl (q0 := 36 + x0.val) (by rw [← hk]; exact xw_H g σ x0) rfl hls rfl hro hd ⟨Nat.zero_le _, Nat.zero_le _⟩) kk)
    (fun hk => w_calli hW (w_runU C hW (Cn := "HermitsSpoon$Greedy") (mX4_isOfKind (hq.2.2.2.1 hk) _) (va_cwU (owner := "HermitsSpoon$Hermit") (x := ⟨"HermitsSpoon$Hermit", "isOfKind", "(I)Z"⟩) 1 C.2.2.2.2 (goodU (lwg_at 551 (by decide +kernel) rfl) (lwg_at 554 (by decide +kernel) rfl) (lwg_at 557 (by decide +kernel) rfl) (lwg_at 552 (by decide +kernel) rfl) (lwg_at 82 (by decide +kernel) rfl) (lwg_at 559 (by decide +kernel) rfl)) rfl rfl rfl rfl (by decide +kernel) ⟨Nat.le_trans (by decide) hRf, Nat.le_trans (by decide) hRl⟩) (ci := kc 3) rfl rfl (q0 := 36 + x0.val) (by rw [← hk]; exact xw_H g σ x0) rfl hls rfl hro hd ⟨Nat.zero_le _, Nat.zero_le _⟩) kk)
    (fun hk => w_calli hW (w_runU C hW (Cn := "HermitsSpoon$Feeder") (mX4_isOfKind (hq.2.2.2.2 hk) _) (va_cwU (owner := "HermitsSpoon$Hermit") (x := ⟨"HermitsSpoon$Hermit", "isOfKind", "(I)Z"⟩) 1 C.2.2.2.2 (goodU (lwg_at 551 (by decide +kernel) rfl) (lwg_at 554 (by decide +kernel) rfl) (lwg_at 556 (by decide +kernel) rfl) (lwg_at 552 (by decide +kernel) rfl) (lwg_at 82 (by decide +kernel) rfl) (lwg_at 559 (by decide +kernel) rfl)) rfl rfl rfl rfl (by decide +kernel) ⟨Nat.le_trans (by decide) hRf, Nat.le_trans (by decide) hRl⟩) (ci := kc 4) rfl rfl (q0 := 36 + x0.val) (by rw [← hk]; exact xw_H g σ x0) rfl hls rfl hro hd ⟨Nat.zero_le _, Nat.zero_le _⟩) kk)
    rfl
set_option maxHeartbeats 4000000 in
set_option maxRecDepth 100000 in
theorem kV_isOfKind_X6_158 (C : CallFix p m c cc nL s args lwg RX6) {σ : XS} (hW : WI g.1 (xw g) (xty g) A s σ H locs) (hRf : 1 ≤ R.frames) (hRl : 21 ≤ R.locals) (hls : ls.size = nL) (hro : (rest.map fun v => v.category).sum ≤ 8) {x0 : Fin (nH g)} {x1 : Int32} (hd : decode cc pc = .ok (.invokevirtual 158, 3)) {P : Int32 → XS → Prop} (hq : qV_isOfKind g σ x0 x1 P) (kk : ∀ (r : Int32) (σ1 : XS) (H : Heap) (locs : List Loc), P r σ1 → WI g.1 (xw g) (xty g) A s σ1 H locs → W p l e R s m args below meth c H locs 0 0 Q (F0 m (pc + 3) ls (.int r :: rest))) : W p l e R s m args below meth c H locs 0 0 Q (F0 m pc ls (.int x1 :: .ref (hA g x0) :: rest)) :=
  fin5 (P := fun kd => hK g x0 = kd → W p l e R s m args below meth c H locs 0 0 Q (F0 m pc ls (.int x1 :: .ref (hA g x0) :: rest))) (hK g x0)
    (fun hk => w_calli hW (w_runU C hW (Cn := "HermitsSpoon$Hermit") (mX4_isOfKind (hq.1 hk) _) (va_cwU (owner := "HermitsSpoon$Hermit") (x := ⟨"HermitsSpoon$Hermit", "isOfKind", "(I)Z"⟩) 1 C.2.2.2.2 (goodU (lwg_at 666 (by decide +kernel) rfl) (lwg_at 554 (by decide +kernel) rfl) (lwg_at 553 (by decide +kernel) rfl) (lwg_at 552 (by decide +kernel) rfl) (lwg_at 82 (by decide +kernel) rfl) (lwg_at 559 (by decide +kernel) rfl)) rfl rfl rfl rfl (by decide +kernel) ⟨Nat.le_trans (by decide) hRf, Nat.le_trans (by decide) hRl⟩) (ci := kc 0) rfl rfl (q0 := 36 + x0.val) (by rw [← hk]; exact xw_H g σ x0) rfl hls rfl hro hd ⟨Nat.zero_le _, Nat.zero_le _⟩) kk)
    (fun hk => w_calli hW (w_runU C hW (Cn := "HermitsSpoon$Slow") (mX4_isOfKind (hq.2.1 hk) _) (va_cwU (owner := "HermitsSpoon$Hermit") (x := ⟨"HermitsSpoon$Hermit", "isOfKind", "(I)Z"⟩) 1 C.2.2.2.2 (goodU (lwg_at 666 (by decide +kernel) rfl) (lwg_at 554 (by decide +kernel) rfl) (lwg_at 558 (by decide +kernel) rfl) (lwg_at 552 (by decide +kernel) rfl) (lwg_at 82 (by decide +kernel) rfl) (lwg_at 559 (by decide +kernel) rfl)) rfl rfl rfl rfl (by decide +kernel) ⟨Nat.le_trans (by decide) hRf, Nat.le_trans (by decide) hRl⟩) (ci := kc 1) rfl rfl (q0 := 36 + x0.val) (by rw [← hk]; exact xw_H g σ x0) rfl hls rfl hro hd ⟨Nat.zero_le _, Nat.zero_le _⟩) kk)
    (fun hk => w_calli hW (w_runU C hW (Cn := "HermitsSpoon$Deaf") (mX4_isOfKind (hq.2.2.1 hk) _) (va_cwU (owner := "HermitsSpoon$Hermit") (x := ⟨"HermitsSpoon$Hermit", "isOfKind", "(I)Z"⟩) 1 C.2.2.2.2 (goodU (lwg_at 666 (by decide +kernel) rfl) (lwg_at 554 (by decide +kernel) rfl) (lwg_at 555 (by decide +kernel) rfl) (lwg_at 552 (by decide +kernel) rfl) (lwg_at 82 (by decide +kernel) rfl) (lwg_at 559 (by decide +kernel) rfl)) rfl rfl rfl rfl (by decide +kernel) ⟨Nat.le_trans (by decide) hRf, Nat.le_trans (by decide) hRl⟩) (ci := kc 2) rfl rfl (q0 := 36 + x0.val) (by rw [← hk]; exact xw_H g σ x0) rfl hls rfl hro hd ⟨Nat.zero_le _, Nat.zero_le _⟩) kk)
    (fun hk => w_calli hW (w_runU C hW (Cn := "HermitsSpoon$Greedy") (mX4_isOfKind (hq.2.2.2.1 hk) _) (va_cwU (owner := "HermitsSpoon$Hermit") (x := ⟨"HermitsSpoon$Hermit", "isOfKind", "(I)Z"⟩) 1 C.2.2.2.2 (goodU (lwg_at 666 (by decide +kernel) rfl) (lwg_at 554 (by decide +kernel) rfl) (lwg_at 557 (by decide +kernel) rfl) (lwg_at 552 (by decide +kernel) rfl) (lwg_at 82 (by decide +kernel) rfl) (lwg_at 559 (by decide +kernel) rfl)) rfl rfl rfl rfl (by decide +kernel) ⟨Nat.le_trans (by decide) hRf, Nat.le_trans (by decide) hRl⟩) (ci := kc 3) rfl rfl (q0 := 36 + x0.val) (by rw [← hk]; exact xw_H g σ x0) rfl hls rfl hro hd ⟨Nat.zero_le _, Nat.zero_le _⟩) kk)
    (fun hk => w_calli hW (w_runU C hW (Cn := "HermitsSpoon$Feeder") (mX4_isOfKind (hq.2.2.2.2 hk) _) (va_cwU (owner := "HermitsSpoon$Hermit") (x := ⟨"HermitsSpoon$Hermit", "isOfKind", "(I)Z"⟩) 1 C.2.2.2.2 (goodU (lwg_at 666 (by decide +kernel) rfl) (lwg_at 554 (by decide +kernel) rfl) (lwg_at 556 (by decide +kernel) rfl) (lwg_at 552 (by decide +kernel) rfl) (lwg_at 82 (by decide +kernel) rfl) (lwg_at 559 (by decide +kernel) rfl)) rfl rfl rfl rfl (by decide +kernel) ⟨Nat.le_trans (by decide) hRf, Nat.le_trans (by decide) hRl⟩) (ci := kc 4) rfl rfl (q0 := 36 + x0.val) (by rw [← hk]; exact xw_H g σ x0) rfl hls rfl hro hd ⟨Nat.zero_le _, Nat.zero_le _⟩) kk)
    rfl
-- X6_isSkipped
set_option maxHeartbeats 4000000 in
set_option maxRecDepth 100000 in
theorem wX6_isSkipped_J67 (C : CallFix p m c cX6_isSkipped 4 s args lwg RX6) (hRf : 3 ≤ R.frames) (hRl : 64 ≤ R.locals) {P : Int32 → XS → Prop} (hret : RetZ g.1 (xw g) (xty g) A p l e R s m args below meth c 0 0 Q cX6_isSkipped P) {σ : XS} {H : Heap} {locs : List Loc} {ls : Array Slot} (hW : WI g.1 (xw g) (xty g) A s σ H locs) (hl : lv_has ls 4 [(0, .ref (g.2.1 17))]) (hq : qX6_isSkipped_J67 g  P σ ) : W p l e R s m args below meth c H locs 0 0 Q (F0 m 67 ls []) := by
  have hx := C.1
  have hb := C.2.1
  unfold qX6_isSkipped_J67 at hq
  refine lv_iconst (v := 1) hx hb dX6_isSkipped_67 (by decide) ?_
  refine lv_goto (tgt := 72) hx hb dX6_isSkipped_68 (by decide) ?_
  exact hret _ _ _ _ _ _ dX6_isSkipped_72 hW isB_1 hq
set_option maxHeartbeats 4000000 in
set_option maxRecDepth 100000 in
theorem wX6_isSkipped_J39 (C : CallFix p m c cX6_isSkipped 4 s args lwg RX6) (hRf : 3 ≤ R.frames) (hRl : 64 ≤ R.locals) {P : Int32 → XS → Prop} (hret : RetZ g.1 (xw g) (xty g) A p l e R s m args below meth c 0 0 Q cX6_isSkipped P) {σ : XS} {x1 : Fin (nV g)} {x2 : Int32} {H : Heap} {locs : List Loc} {ls : Array Slot} (hW : WI g.1 (xw g) (xty g) A s σ H locs) (hl : lv_has ls 4 [(0, .ref (g.2.1 17)), (1, .ref (vA g x1)), (2, .int x2)]) (hq : qX6_isSkipped_J39 g  P σ x1 x2) : W p l e R s m args below meth c H locs 0 0 Q (F0 m 39 ls []) := by
  have hx := C.1
  have hb := C.2.1
  unfold qX6_isSkipped_J39 at hq
  refine lv_aload_n hx hb dX6_isSkipped_39 rfl (lv_at hl 1 rfl) ?_
  refine xg_X6_155 C hW dX6_isSkipped_40 ?_
  refine lv_if_eq (tgt := 71) hx hb dX6_isSkipped_43 (by decide) (fun h => ?_) (fun h => ?_)
  · replace hq := br_pos h hq
    refine lv_iconst (v := 0) hx hb dX6_isSkipped_71 (by decide) ?_
    exact hret _ _ _ _ _ _ dX6_isSkipped_72 hW isB_0 hq
  · replace hq := br_neg h hq
    refine lv_aload_n hx hb dX6_isSkipped_46 rfl (lv_at hl 0 rfl) ?_
    refine xg_X6_27 C hW dX6_isSkipped_47 ?_
    refine xg_X6_119 C hW dX6_isSkipped_50 ?_
    refine lv_iload_n hx hb dX6_isSkipped_53 rfl (lv_at hl 2 rfl) ?_
    obtain ⟨hin2, hq⟩ := hq
    refine xget_H_X6_134 C hW (Nat.le_trans (by decide) hRf) (Nat.le_trans (by decide) hRl) hl.1 (Nat.le_of_ble_eq_true rfl) hin2 dX6_isSkipped_54 (fun j_1 H locs hj_1 hW => ?_)
    replace hq := hq j_1 hj_1
    refine xc_X6_104 C hW dX6_isSkipped_57 ?_
    refine lv_iconst (v := 2) hx hb dX6_isSkipped_60 (by decide) ?_
    refine kV_isOfKind_X6_158 C hW (Nat.le_trans (by decide) hRf) (Nat.le_trans (by decide) hRl) hl.1 (Nat.le_of_ble_eq_true rfl) dX6_isSkipped_61 hq (fun r_4 σ_3 H locs hq hW => ?_)
    refine lv_if_eq (tgt := 71) hx hb dX6_isSkipped_64 (by decide) (fun h => ?_) (fun h => ?_)
    · replace hq := br_pos h hq
      refine lv_iconst (v := 0) hx hb dX6_isSkipped_71 (by decide) ?_
      exact hret _ _ _ _ _ _ dX6_isSkipped_72 hW isB_0 hq
    · replace hq := br_neg h hq
      exact wX6_isSkipped_J67 C hRf hRl hret  hW (lv_sub hl [0] rfl) hq
set_option maxHeartbeats 4000000 in
set_option maxRecDepth 100000 in
theorem wX6_isSkipped (C : CallFix p m c cX6_isSkipped 4 s args lwg RX6) (hRf : 3 ≤ R.frames) (hRl : 64 ≤ R.locals) {P : Int32 → XS → Prop} (hret : RetZ g.1 (xw g) (xty g) A p l e R s m args below meth c 0 0 Q cX6_isSkipped P) {σ : XS} {x1 : Fin (nV g)} {x2 : Int32} {x3 : Int32} {H : Heap} {locs : List Loc} {ls : Array Slot} (hW : WI g.1 (xw g) (xty g) A s σ H locs) (hl : lv_has ls 4 [(0, .ref (g.2.1 17)), (1, .ref (vA g x1)), (2, .int x2), (3, .int x3)]) (hq : qX6_isSkipped g σ x1 x2 x3 P) : W p l e R s m args below meth c H locs 0 0 Q (F0 m 0 ls []) := by
  have hx := C.1
  have hb := C.2.1
  unfold qX6_isSkipped at hq
  refine lv_aload_n hx hb dX6_isSkipped_0 rfl (lv_at hl 0 rfl) ?_
  refine xg_X6_27 C hW dX6_isSkipped_1 ?_
  refine lv_iload_n hx hb dX6_isSkipped_4 rfl (lv_at hl 2 rfl) ?_
  refine kX8_isStarved_X6_141 C hW (Nat.le_trans (by decide) hRf) (Nat.le_trans (by decide) hRl) hl.1 (Nat.le_of_ble_eq_true rfl) dX6_isSkipped_5 hq (fun r_2 σ_1 H locs hq hW => ?_)
  refine lv_if_ne (tgt := 67) hx hb dX6_isSkipped_8 (by decide) (fun h => ?_) (fun h => ?_)
  · replace hq := br_neg h hq
    exact wX6_isSkipped_J67 C hRf hRl hret  hW (lv_sub hl [0] rfl) hq
  · replace hq := br_pos h hq
    refine lv_iload_n hx hb dX6_isSkipped_11 rfl (lv_at hl 3 rfl) ?_
    refine lv_iload_n hx hb dX6_isSkipped_12 rfl (lv_at hl 2 rfl) ?_
    refine w_ishr hx hb dX6_isSkipped_13 ?_
    refine lv_iconst (v := 1) hx hb dX6_isSkipped_14 (by decide) ?_
    refine lv_iand hx hb dX6_isSkipped_15 ?_
    refine lv_if_ne (tgt := 67) hx hb dX6_isSkipped_16 (by decide) (fun h => ?_) (fun h => ?_)
    · replace hq := br_neg h hq
      exact wX6_isSkipped_J67 C hRf hRl hret  hW (lv_sub hl [0] rfl) hq
    · replace hq := br_pos h hq
      refine lv_aload_n hx hb dX6_isSkipped_19 rfl (lv_at hl 1 rfl) ?_
      refine xg_X6_152 C hW dX6_isSkipped_20 ?_
      refine lv_if_le (tgt := 39) hx hb dX6_isSkipped_23 (by decide) (fun h => ?_) (fun h => ?_)
      · replace hq := br_pos h hq
        exact wX6_isSkipped_J39 C hRf hRl hret  hW (lv_sub hl [0, 1, 2] rfl) hq
      · replace hq := br_neg h hq
        refine lv_aload_n hx hb dX6_isSkipped_26 rfl (lv_at hl 0 rfl) ?_
        refine xg_X6_18 C hW dX6_isSkipped_27 ?_
        refine lv_iload_n hx hb dX6_isSkipped_30 rfl (lv_at hl 2 rfl) ?_
        obtain ⟨hin3, hq⟩ := hq
        refine xa_A9 C hW hin3 dX6_isSkipped_31 ?_
        refine lv_aload_n hx hb dX6_isSkipped_32 rfl (lv_at hl 1 rfl) ?_
        refine xg_X6_152 C hW dX6_isSkipped_33 ?_
        refine lv_icmp_ge (tgt := 67) hx hb dX6_isSkipped_36 (by decide) (fun h => ?_) (fun h => ?_)
        · replace hq := br_pos h hq
          exact wX6_isSkipped_J67 C hRf hRl hret  hW (lv_sub hl [0] rfl) hq
        · replace hq := br_neg h hq
          exact wX6_isSkipped_J39 C hRf hRl hret  hW (lv_sub hl [0, 1, 2] rfl) hq
set_option maxHeartbeats 4000000 in
set_option maxRecDepth 100000 in
theorem mX6_isSkipped {l : Launch} {g : XG} {σ : XS} {x1 : Fin (nV g)} {x2 : Int32} {x3 : Int32} {P : Int32 → XS → Prop} (hq : qX6_isSkipped g σ x1 x2 x3 P) (sz : Nat) : Met l yX6_isSkipped (cws yX6_isSkipped cX6_isSkipped 4 (some .boolean)) ({ frames := 3, cells := 0, slots := 0, locals := 64 } : Room) (va_Pc [.ref (g.2.1 17), .ref (vA g x1), .int x2, .int x3] (WP g.1 (xw g) (xty g) σ sz)) (va_Qi P (WB g.1 (xw g) (xty g) σ sz) (va_A (xw g σ) sz)) 0 0 (va_A (xw g σ) sz) :=
  w_enter (by decide) (Nat.le_of_ble_eq_true rfl) (fun p e s m args below meth c ls C hr hk hn hs hW hl => wX6_isSkipped C (Nat.le_refl _) (Nat.le_refl _) (fun pc ls v σ H locs hd hW hv hq => w_zret C hs hr hk hW hd hv hq) hW hl hq)
set_option maxHeartbeats 4000000 in
set_option maxRecDepth 100000 in
theorem kX6_isSkipped_X6_148 (C : CallFix p m c cc nL s args lwg RX6) {σ : XS} (hW : WI g.1 (xw g) (xty g) A s σ H locs) (hRf : 4 ≤ R.frames) (hRl : 87 ≤ R.locals) (hls : ls.size = nL) (hro : (rest.map fun v => v.category).sum ≤ 8) {x1 : Fin (nV g)} {x2 : Int32} {x3 : Int32} (hd : decode cc pc = .ok (.invokevirtual 148, 3)) {P : Int32 → XS → Prop} (hq : qX6_isSkipped g σ x1 x2 x3 P) (kk : ∀ (r : Int32) (σ1 : XS) (H : Heap) (locs : List Loc), P r σ1 → WI g.1 (xw g) (xty g) A s σ1 H locs → W p l e R s m args below meth c H locs 0 0 Q (F0 m (pc + 3) ls (.int r :: rest))) : W p l e R s m args below meth c H locs 0 0 Q (F0 m pc ls (.int x3 :: .int x2 :: .ref (vA g x1) :: .ref (g.2.1 17) :: rest)) :=
  w_calli hW (w_runV C hW (mX6_isSkipped hq _) ⟨(lwg_at 659 (by decide +kernel) rfl), (lwg_at 72 (by decide +kernel) rfl), (lwg_at 656 (by decide +kernel) rfl)⟩ (lwg_at 658 (by decide +kernel) rfl) (lwg_at 12 (by decide +kernel) rfl) (np := 3) (by decide +kernel) ⟨rfl, rfl⟩ ⟨hRf, hRl⟩ (ci := 7) rfl rfl (q0 := 17) rfl rfl hls rfl hro hd ⟨Nat.zero_le _, Nat.zero_le _⟩) kk
-- X8_seatNext
set_option maxHeartbeats 4000000 in
set_option maxRecDepth 100000 in
theorem wX8_seatNext (C : CallFix p m c cX8_seatNext 2 s args lwg RX8) (hRf : 1 ≤ R.frames) (hRl : 20 ≤ R.locals) {P : Int32 → XS → Prop} (hret : RetI g.1 (xw g) (xty g) A p l e R s m args below meth c 0 0 Q cX8_seatNext P) {σ : XS} {x0 : Fin 3} {x1 : Int32} {H : Heap} {locs : List Loc} {ls : Array Slot} (hW : WI g.1 (xw g) (xty g) A s σ H locs) (hl : lv_has ls 2 [(0, .ref (tA g x0)), (1, .int x1)]) (hq : qX8_seatNext g σ x0 x1 P) : W p l e R s m args below meth c H locs 0 0 Q (F0 m 0 ls []) := by
  have hx := C.1
  have hb := C.2.1
  unfold qX8_seatNext at hq
  refine lv_iload_n hx hb dX8_seatNext_0 rfl (lv_at hl 1 rfl) ?_
  refine lv_iconst (v := 1) hx hb dX8_seatNext_1 (by decide) ?_
  refine lv_iadd hx hb dX8_seatNext_2 ?_
  refine lv_aload_n hx hb dX8_seatNext_3 rfl (lv_at hl 0 rfl) ?_
  refine xg_X8_25 C hW dX8_seatNext_4 ?_
  refine xsiz_H_X8_47 C hW (Nat.le_trans (by decide) hRf) (Nat.le_trans (by decide) hRl) hl.1 (Nat.le_of_ble_eq_true rfl) dX8_seatNext_7 (fun H locs hW => ?_)
  refine lv_icmp_ge (tgt := 19) hx hb dX8_seatNext_10 (by decide) (fun h => ?_) (fun h => ?_)
  · replace hq := br_pos h hq
    refine lv_iconst (v := 0) hx hb dX8_seatNext_19 (by decide) ?_
    exact hret _ _ _ _ _ _ dX8_seatNext_20 hW hq
  · replace hq := br_neg h hq
    refine lv_iload_n hx hb dX8_seatNext_13 rfl (lv_at hl 1 rfl) ?_
    refine lv_iconst (v := 1) hx hb dX8_seatNext_14 (by decide) ?_
    refine lv_iadd hx hb dX8_seatNext_15 ?_
    refine lv_goto (tgt := 20) hx hb dX8_seatNext_16 (by decide) ?_
    exact hret _ _ _ _ _ _ dX8_seatNext_20 hW hq
set_option maxHeartbeats 4000000 in
set_option maxRecDepth 100000 in
theorem mX8_seatNext {l : Launch} {g : XG} {σ : XS} {x0 : Fin 3} {x1 : Int32} {P : Int32 → XS → Prop} (hq : qX8_seatNext g σ x0 x1 P) (sz : Nat) : Met l yX8_seatNext (cws yX8_seatNext cX8_seatNext 2 (some .int)) ({ frames := 1, cells := 0, slots := 0, locals := 20 } : Room) (va_Pc [.ref (tA g x0), .int x1] (WP g.1 (xw g) (xty g) σ sz)) (va_Qi P (WB g.1 (xw g) (xty g) σ sz) (va_A (xw g σ) sz)) 0 0 (va_A (xw g σ) sz) :=
  w_enter (by decide) (Nat.le_of_ble_eq_true rfl) (fun p e s m args below meth c ls C hr hk hn hs hW hl => wX8_seatNext C (Nat.le_refl _) (Nat.le_refl _) (fun pc ls v σ H locs hd hW hq => w_iret C hs hr hk hW hd hq) hW hl hq)
set_option maxHeartbeats 4000000 in
set_option maxRecDepth 100000 in
theorem kX8_seatNext_X6_182 (C : CallFix p m c cc nL s args lwg RX6) {σ : XS} (hW : WI g.1 (xw g) (xty g) A s σ H locs) (hRf : 2 ≤ R.frames) (hRl : 41 ≤ R.locals) (hls : ls.size = nL) (hro : (rest.map fun v => v.category).sum ≤ 8) {x0 : Fin 3} {x1 : Int32} (hd : decode cc pc = .ok (.invokevirtual 182, 3)) {P : Int32 → XS → Prop} (hq : qX8_seatNext g σ x0 x1 P) (kk : ∀ (r : Int32) (σ1 : XS) (H : Heap) (locs : List Loc), P r σ1 → WI g.1 (xw g) (xty g) A s σ1 H locs → W p l e R s m args below meth c H locs 0 0 Q (F0 m (pc + 3) ls (.int r :: rest))) : W p l e R s m args below meth c H locs 0 0 Q (F0 m pc ls (.int x1 :: .ref (tA g x0) :: rest)) :=
  w_calli hW (w_runV C hW (mX8_seatNext hq _) ⟨(lwg_at 674 (by decide +kernel) rfl), (lwg_at 71 (by decide +kernel) rfl), (lwg_at 726 (by decide +kernel) rfl)⟩ (lwg_at 672 (by decide +kernel) rfl) (lwg_at 673 (by decide +kernel) rfl) (np := 1) (by decide +kernel) ⟨rfl, rfl⟩ ⟨hRf, hRl⟩ (ci := 9) rfl rfl (q0 := 5 + 4 * x0.val) (xw_T g σ x0) rfl hls rfl hro hd ⟨Nat.zero_le _, Nat.zero_le _⟩) kk
set_option maxHeartbeats 4000000 in
set_option maxRecDepth 100000 in
theorem kX8_seatNext_X8_51 (C : CallFix p m c cc nL s args lwg RX8) {σ : XS} (hW : WI g.1 (xw g) (xty g) A s σ H locs) (hRf : 2 ≤ R.frames) (hRl : 41 ≤ R.locals) (hls : ls.size = nL) (hro : (rest.map fun v => v.category).sum ≤ 8) {x0 : Fin 3} {x1 : Int32} (hd : decode cc pc = .ok (.invokevirtual 51, 3)) {P : Int32 → XS → Prop} (hq : qX8_seatNext g σ x0 x1 P) (kk : ∀ (r : Int32) (σ1 : XS) (H : Heap) (locs : List Loc), P r σ1 → WI g.1 (xw g) (xty g) A s σ1 H locs → W p l e R s m args below meth c H locs 0 0 Q (F0 m (pc + 3) ls (.int r :: rest))) : W p l e R s m args below meth c H locs 0 0 Q (F0 m pc ls (.int x1 :: .ref (tA g x0) :: rest)) :=
  w_calli hW (w_runV C hW (mX8_seatNext hq _) ⟨(lwg_at 674 (by decide +kernel) rfl), (lwg_at 71 (by decide +kernel) rfl), (lwg_at 671 (by decide +kernel) rfl)⟩ (lwg_at 672 (by decide +kernel) rfl) (lwg_at 673 (by decide +kernel) rfl) (np := 1) (by decide +kernel) ⟨rfl, rfl⟩ ⟨hRf, hRl⟩ (ci := 9) rfl rfl (q0 := 5 + 4 * x0.val) (xw_T g σ x0) rfl hls rfl hro hd ⟨Nat.zero_le _, Nat.zero_le _⟩) kk
-- X8_seatBeside
set_option maxHeartbeats 4000000 in
set_option maxRecDepth 100000 in
theorem wX8_seatBeside (C : CallFix p m c cX8_seatBeside 3 s args lwg RX8) (hRf : 2 ≤ R.frames) (hRl : 41 ≤ R.locals) {P : Int32 → XS → Prop} (hret : RetI g.1 (xw g) (xty g) A p l e R s m args below meth c 0 0 Q cX8_seatBeside P) {σ : XS} {x0 : Fin 3} {x1 : Int32} {x2 : Int32} {H : Heap} {locs : List Loc} {ls : Array Slot} (hW : WI g.1 (xw g) (xty g) A s σ H locs) (hl : lv_has ls 3 [(0, .ref (tA g x0)), (1, .int x1), (2, .int x2)]) (hq : qX8_seatBeside g σ x0 x1 x2 P) : W p l e R s m args below meth c H locs 0 0 Q (F0 m 0 ls []) := by
  have hx := C.1
  have hb := C.2.1
  unfold qX8_seatBeside at hq
  refine lv_iload_n hx hb dX8_seatBeside_0 rfl (lv_at hl 2 rfl) ?_
  refine lv_if_eq (tgt := 10) hx hb dX8_seatBeside_1 (by decide) (fun h => ?_) (fun h => ?_)
  · replace hq := br_pos h hq
    refine lv_iload_n hx hb dX8_seatBeside_10 rfl (lv_at hl 1 rfl) ?_
    refine lv_if_le (tgt := 20) hx hb dX8_seatBeside_11 (by decide) (fun h => ?_) (fun h => ?_)
    · replace hq := br_pos h hq
      refine lv_aload_n hx hb dX8_seatBeside_20 rfl (lv_at hl 0 rfl) ?_
      refine xg_X8_25 C hW dX8_seatBeside_21 ?_
      refine xsiz_H_X8_47 C hW (Nat.le_trans (by decide) hRf) (Nat.le_trans (by decide) hRl) hl.1 (Nat.le_of_ble_eq_true rfl) dX8_seatBeside_24 (fun H locs hW => ?_)
      refine lv_iconst (v := 1) hx hb dX8_seatBeside_27 (by decide) ?_
      refine lv_isub hx hb dX8_seatBeside_28 ?_
      exact hret _ _ _ _ _ _ dX8_seatBeside_29 hW hq
    · replace hq := br_neg h hq
      refine lv_iload_n hx hb dX8_seatBeside_14 rfl (lv_at hl 1 rfl) ?_
      refine lv_iconst (v := 1) hx hb dX8_seatBeside_15 (by decide) ?_
      refine lv_isub hx hb dX8_seatBeside_16 ?_
      refine lv_goto (tgt := 29) hx hb dX8_seatBeside_17 (by decide) ?_
      exact hret _ _ _ _ _ _ dX8_seatBeside_29 hW hq
  · replace hq := br_neg h hq
    refine lv_aload_n hx hb dX8_seatBeside_4 rfl (lv_at hl 0 rfl) ?_
    refine lv_iload_n hx hb dX8_seatBeside_5 rfl (lv_at hl 1 rfl) ?_
    refine kX8_seatNext_X8_51 C hW (Nat.le_trans (by decide) hRf) (Nat.le_trans (by decide) hRl) hl.1 (Nat.le_of_ble_eq_true rfl) dX8_seatBeside_6 hq (fun r_2 σ_1 H locs hq hW => ?_)
    exact hret _ _ _ _ _ _ dX8_seatBeside_9 hW hq
set_option maxHeartbeats 4000000 in
set_option maxRecDepth 100000 in
theorem mX8_seatBeside {l : Launch} {g : XG} {σ : XS} {x0 : Fin 3} {x1 : Int32} {x2 : Int32} {P : Int32 → XS → Prop} (hq : qX8_seatBeside g σ x0 x1 x2 P) (sz : Nat) : Met l yX8_seatBeside (cws yX8_seatBeside cX8_seatBeside 3 (some .int)) ({ frames := 2, cells := 0, slots := 0, locals := 41 } : Room) (va_Pc [.ref (tA g x0), .int x1, .int x2] (WP g.1 (xw g) (xty g) σ sz)) (va_Qi P (WB g.1 (xw g) (xty g) σ sz) (va_A (xw g σ) sz)) 0 0 (va_A (xw g σ) sz) :=
  w_enter (by decide) (Nat.le_of_ble_eq_true rfl) (fun p e s m args below meth c ls C hr hk hn hs hW hl => wX8_seatBeside C (Nat.le_refl _) (Nat.le_refl _) (fun pc ls v σ H locs hd hW hq => w_iret C hs hr hk hW hd hq) hW hl hq)
set_option maxHeartbeats 4000000 in
set_option maxRecDepth 100000 in
theorem kX8_seatBeside_X0_82 (C : CallFix p m c cc nL s args lwg RX0) {σ : XS} (hW : WI g.1 (xw g) (xty g) A s σ H locs) (hRf : 3 ≤ R.frames) (hRl : 63 ≤ R.locals) (hls : ls.size = nL) (hro : (rest.map fun v => v.category).sum ≤ 8) {x0 : Fin 3} {x1 : Int32} {x2 : Int32} (hd : decode cc pc = .ok (.invokevirtual 82, 3)) {P : Int32 → XS → Prop} (hq : qX8_seatBeside g σ x0 x1 x2 P) (kk : ∀ (r : Int32) (σ1 : XS) (H : Heap) (locs : List Loc), P r σ1 → WI g.1 (xw g) (xty g) A s σ1 H locs → W p l e R s m args below meth c H locs 0 0 Q (F0 m (pc + 3) ls (.int r :: rest))) : W p l e R s m args below meth c H locs 0 0 Q (F0 m pc ls (.int x2 :: .int x1 :: .ref (tA g x0) :: rest)) :=
  w_calli hW (w_runV C hW (mX8_seatBeside hq _) ⟨(lwg_at 670 (by decide +kernel) rfl), (lwg_at 71 (by decide +kernel) rfl), (lwg_at 844 (by decide +kernel) rfl)⟩ (lwg_at 668 (by decide +kernel) rfl) (lwg_at 669 (by decide +kernel) rfl) (np := 2) (by decide +kernel) ⟨rfl, rfl⟩ ⟨hRf, hRl⟩ (ci := 9) rfl rfl (q0 := 5 + 4 * x0.val) (xw_T g σ x0) rfl hls rfl hro hd ⟨Nat.zero_le _, Nat.zero_le _⟩) kk
set_option maxHeartbeats 4000000 in
set_option maxRecDepth 100000 in
theorem kX8_seatBeside_X6_115 (C : CallFix p m c cc nL s args lwg RX6) {σ : XS} (hW : WI g.1 (xw g) (xty g) A s σ H locs) (hRf : 3 ≤ R.frames) (hRl : 63 ≤ R.locals) (hls : ls.size = nL) (hro : (rest.map fun v => v.category).sum ≤ 8) {x0 : Fin 3} {x1 : Int32} {x2 : Int32} (hd : decode cc pc = .ok (.invokevirtual 115, 3)) {P : Int32 → XS → Prop} (hq : qX8_seatBeside g σ x0 x1 x2 P) (kk : ∀ (r : Int32) (σ1 : XS) (H : Heap) (locs : List Loc), P r σ1 → WI g.1 (xw g) (xty g) A s σ1 H locs → W p l e R s m args below meth c H locs 0 0 Q (F0 m (pc + 3) ls (.int r :: rest))) : W p l e R s m args below meth c H locs 0 0 Q (F0 m pc ls (.int x2 :: .int x1 :: .ref (tA g x0) :: rest)) :=
  w_calli hW (w_runV C hW (mX8_seatBeside hq _) ⟨(lwg_at 670 (by decide +kernel) rfl), (lwg_at 71 (by decide +kernel) rfl), (lwg_at 667 (by decide +kernel) rfl)⟩ (lwg_at 668 (by decide +kernel) rfl) (lwg_at 669 (by decide +kernel) rfl) (np := 2) (by decide +kernel) ⟨rfl, rfl⟩ ⟨hRf, hRl⟩ (ci := 9) rfl rfl (q0 := 5 + 4 * x0.val) (xw_T g σ x0) rfl hls rfl hro hd ⟨Nat.zero_le _, Nat.zero_le _⟩) kk
-- X6_seatServed
set_option maxHeartbeats 4000000 in
set_option maxRecDepth 100000 in
theorem wX6_seatServed_L6 (C : CallFix p m c cX6_seatServed 6 s args lwg RX6) (hRf : 4 ≤ R.frames) (hRl : 87 ≤ R.locals) {P : Int32 → XS → Prop} (hret : RetI g.1 (xw g) (xty g) A p l e R s m args below meth c 0 0 Q cX6_seatServed P) : ∀ (n : Nat) (σ : XS) (x1 : Fin (nV g)) (x3 : Int32) (x4 : Int32) (x5 : Int32) (H : Heap) (locs : List Loc) (ls : Array Slot), WI g.1 (xw g) (xty g) A s σ H locs → lv_has ls 6 [(0, .ref (g.2.1 17)), (1, .ref (vA g x1)), (3, .int x3), (4, .int x4), (5, .int x5)] → qX6_seatServed_L6 g  P n σ x1 x3 x4 x5 → W p l e R s m args below meth c H locs 0 0 Q (F0 m 6 ls []) := by
  have hx := C.1
  have hb := C.2.1
  intro n
  induction n with
  | zero =>
    intro σ x1 x3 x4 x5 H locs ls hW hl hq
    rw [qX6_seatServed_L6] at hq
    exact hq.elim
  | succ n ih =>
    intro σ x1 x3 x4 x5 H locs ls hW hl hq
    rw [qX6_seatServed_L6] at hq
    refine lv_iload hx hb dX6_seatServed_6 (lv_at hl 4 rfl) ?_
    refine lv_aload_n hx hb dX6_seatServed_8 rfl (lv_at hl 0 rfl) ?_
    refine xg_X6_27 C hW dX6_seatServed_9 ?_
    refine xg_X6_119 C hW dX6_seatServed_12 ?_
    refine xsiz_H_X6_123 C hW (Nat.le_trans (by decide) hRf) (Nat.le_trans (by decide) hRl) hl.1 (Nat.le_of_ble_eq_true rfl) dX6_seatServed_15 (fun H locs hW => ?_)
    refine lv_icmp_ge (tgt := 64) hx hb dX6_seatServed_18 (by decide) (fun h => ?_) (fun h => ?_)
    · replace hq := br_pos h hq
      refine lv_iconst (v := (-1)) hx hb dX6_seatServed_64 (by decide) ?_
      exact hret _ _ _ _ _ _ dX6_seatServed_65 hW hq
    · replace hq := br_neg h hq
      refine lv_aload_n hx hb dX6_seatServed_21 rfl (lv_at hl 0 rfl) ?_
      refine lv_aload_n hx hb dX6_seatServed_22 rfl (lv_at hl 1 rfl) ?_
      refine lv_aload_n hx hb dX6_seatServed_23 rfl (lv_at hl 0 rfl) ?_
      refine xg_X6_27 C hW dX6_seatServed_24 ?_
      refine xg_X6_145 C hW dX6_seatServed_27 ?_
      refine lv_iload hx hb dX6_seatServed_30 (lv_at hl 3 rfl) ?_
      obtain ⟨hin1, hq⟩ := hq
      refine xa_T1 C hW hin1 dX6_seatServed_32 ?_
      refine lv_iload_n hx hb dX6_seatServed_33 rfl (lv_at hl 2 rfl) ?_
      refine kX6_isSkipped_X6_148 C hW (Nat.le_trans (by decide) hRf) (Nat.le_trans (by decide) hRl) hl.1 (Nat.le_of_ble_eq_true rfl) dX6_seatServed_34 hq (fun r_3 σ_2 H locs hq hW => ?_)
      refine lv_if_ne (tgt := 43) hx hb dX6_seatServed_37 (by decide) (fun h => ?_) (fun h => ?_)
      · replace hq := br_neg h hq
        refine lv_aload_n hx hb dX6_seatServed_43 rfl (lv_at hl 0 rfl) ?_
        refine xg_X6_27 C hW dX6_seatServed_44 ?_
        refine lv_iload hx hb dX6_seatServed_47 (lv_at hl 3 rfl) ?_
        refine lv_aload_n hx hb dX6_seatServed_49 rfl (lv_at hl 1 rfl) ?_
        refine xg_X6_111 C hW dX6_seatServed_50 ?_
        refine kX8_seatBeside_X6_115 C hW (Nat.le_trans (by decide) hRf) (Nat.le_trans (by decide) hRl) hl.1 (Nat.le_of_ble_eq_true rfl) dX6_seatServed_53 hq (fun r_5 σ_4 H locs hq hW => ?_)
        refine lv_istore (lv' := [(4, .int r_5), (0, .ref (g.2.1 17)), (1, .ref (vA g x1)), (3, .int x3), (5, .int x5)]) hx hb dX6_seatServed_56 hl (by decide) rfl (fun ls hl => ?_)
        obtain ⟨x5_6, ex5_6⟩ : ∃ y : Int32, y = x5 + 1 := ⟨_, rfl⟩
        replace hq := hq _ ex5_6
        refine lv_iinc (v := x5_6) (lv' := [(5, .int x5_6), (4, .int r_5), (0, .ref (g.2.1 17)), (1, .ref (vA g x1)), (3, .int x3)]) hx hb dX6_seatServed_58 hl (k := 4) rfl (by rw [ex5_6]; rfl) (by decide) rfl (fun ls hl => ?_)
        refine lv_goto (tgt := 6) hx hb dX6_seatServed_61 (by decide) ?_
        exact ih _ _ _ _ _ _ _ _ hW (lv_sub hl [2, 3, 4, 1, 0] rfl) hq
      · replace hq := br_pos h hq
        refine lv_iload hx hb dX6_seatServed_40 (lv_at hl 3 rfl) ?_
        exact hret _ _ _ _ _ _ dX6_seatServed_42 hW hq
set_option maxHeartbeats 4000000 in
set_option maxRecDepth 100000 in
theorem wX6_seatServed (C : CallFix p m c cX6_seatServed 6 s args lwg RX6) (hRf : 4 ≤ R.frames) (hRl : 87 ≤ R.locals) {P : Int32 → XS → Prop} (hret : RetI g.1 (xw g) (xty g) A p l e R s m args below meth c 0 0 Q cX6_seatServed P) {σ : XS} {x1 : Fin (nV g)} {x2 : Int32} {x3 : Int32} {H : Heap} {locs : List Loc} {ls : Array Slot} (hW : WI g.1 (xw g) (xty g) A s σ H locs) (hl : lv_has ls 6 [(0, .ref (g.2.1 17)), (1, .ref (vA g x1)), (2, .int x2), (3, .int x3)]) (hq : qX6_seatServed g σ x1 x2 x3 P) : W p l e R s m args below meth c H locs 0 0 Q (F0 m 0 ls []) := by
  have hx := C.1
  have hb := C.2.1
  unfold qX6_seatServed at hq
  refine lv_iload_n hx hb dX6_seatServed_0 rfl (lv_at hl 2 rfl) ?_
  refine lv_istore (lv' := [(4, .int x2), (0, .ref (g.2.1 17)), (1, .ref (vA g x1)), (2, .int x2), (3, .int x3)]) hx hb dX6_seatServed_1 hl (by decide) rfl (fun ls hl => ?_)
  refine lv_iconst (v := 0) hx hb dX6_seatServed_3 (by decide) ?_
  refine lv_istore (lv' := [(5, .int 0), (4, .int x2), (0, .ref (g.2.1 17)), (1, .ref (vA g x1)), (2, .int x2), (3, .int x3)]) hx hb dX6_seatServed_4 hl (by decide) rfl (fun ls hl => ?_)
  obtain ⟨f6, hq⟩ := hq
  exact wX6_seatServed_L6 C hRf hRl hret f6 _ _ _ _ _ _ _ _ hW (lv_sub hl [2, 3, 5, 1, 0] rfl) hq
set_option maxHeartbeats 4000000 in
set_option maxRecDepth 100000 in
theorem mX6_seatServed {l : Launch} {g : XG} {σ : XS} {x1 : Fin (nV g)} {x2 : Int32} {x3 : Int32} {P : Int32 → XS → Prop} (hq : qX6_seatServed g σ x1 x2 x3 P) (sz : Nat) : Met l yX6_seatServed (cws yX6_seatServed cX6_seatServed 6 (some .int)) ({ frames := 4, cells := 0, slots := 0, locals := 87 } : Room) (va_Pc [.ref (g.2.1 17), .ref (vA g x1), .int x2, .int x3] (WP g.1 (xw g) (xty g) σ sz)) (va_Qi P (WB g.1 (xw g) (xty g) σ sz) (va_A (xw g σ) sz)) 0 0 (va_A (xw g σ) sz) :=
  w_enter (by decide) (Nat.le_of_ble_eq_true rfl) (fun p e s m args below meth c ls C hr hk hn hs hW hl => wX6_seatServed C (Nat.le_refl _) (Nat.le_refl _) (fun pc ls v σ H locs hd hW hq => w_iret C hs hr hk hW hd hq) hW hl hq)
set_option maxHeartbeats 4000000 in
set_option maxRecDepth 100000 in
theorem kX6_seatServed_X6_88 (C : CallFix p m c cc nL s args lwg RX6) {σ : XS} (hW : WI g.1 (xw g) (xty g) A s σ H locs) (hRf : 5 ≤ R.frames) (hRl : 112 ≤ R.locals) (hls : ls.size = nL) (hro : (rest.map fun v => v.category).sum ≤ 8) {x1 : Fin (nV g)} {x2 : Int32} {x3 : Int32} (hd : decode cc pc = .ok (.invokevirtual 88, 3)) {P : Int32 → XS → Prop} (hq : qX6_seatServed g σ x1 x2 x3 P) (kk : ∀ (r : Int32) (σ1 : XS) (H : Heap) (locs : List Loc), P r σ1 → WI g.1 (xw g) (xty g) A s σ1 H locs → W p l e R s m args below meth c H locs 0 0 Q (F0 m (pc + 3) ls (.int r :: rest))) : W p l e R s m args below meth c H locs 0 0 Q (F0 m pc ls (.int x3 :: .int x2 :: .ref (vA g x1) :: .ref (g.2.1 17) :: rest)) :=
  w_calli hW (w_runV C hW (mX6_seatServed hq _) ⟨(lwg_at 654 (by decide +kernel) rfl), (lwg_at 72 (by decide +kernel) rfl), (lwg_at 651 (by decide +kernel) rfl)⟩ (lwg_at 653 (by decide +kernel) rfl) (lwg_at 11 (by decide +kernel) rfl) (np := 3) (by decide +kernel) ⟨rfl, rfl⟩ ⟨hRf, hRl⟩ (ci := 7) rfl rfl (q0 := 17) rfl rfl hls rfl hro hd ⟨Nat.zero_le _, Nat.zero_le _⟩) kk
-- X10_asNumber
set_option maxHeartbeats 4000000 in
set_option maxRecDepth 100000 in
theorem wX10_asNumber (C : CallFix p m c cX10_asNumber 1 s args lwg RX10) (hRf : 0 ≤ R.frames) (hRl : 0 ≤ R.locals) {P : Int32 → XS → Prop} (hret : RetI g.1 (xw g) (xty g) A p l e R s m args below meth c 0 0 Q cX10_asNumber P) {σ : XS} {x0 : Int32} {H : Heap} {locs : List Loc} {ls : Array Slot} (hW : WI g.1 (xw g) (xty g) A s σ H locs) (hl : lv_has ls 1 [(0, .int x0)]) (hq : qX10_asNumber g σ x0 P) : W p l e R s m args below meth c H locs 0 0 Q (F0 m 0 ls []) := by
  have hx := C.1
  have hb := C.2.1
  unfold qX10_asNumber at hq
  refine lv_iload_n hx hb dX10_asNumber_0 rfl (lv_at hl 0 rfl) ?_
  refine lv_if_eq (tgt := 8) hx hb dX10_asNumber_1 (by decide) (fun h => ?_) (fun h => ?_)
  · replace hq := br_pos h hq
    refine lv_iconst (v := 0) hx hb dX10_asNumber_8 (by decide) ?_
    exact hret _ _ _ _ _ _ dX10_asNumber_9 hW hq
  · replace hq := br_neg h hq
    refine lv_iconst (v := 1) hx hb dX10_asNumber_4 (by decide) ?_
    refine lv_goto (tgt := 9) hx hb dX10_asNumber_5 (by decide) ?_
    exact hret _ _ _ _ _ _ dX10_asNumber_9 hW hq
set_option maxHeartbeats 4000000 in
set_option maxRecDepth 100000 in
theorem mX10_asNumber {l : Launch} {g : XG} {σ : XS} {x0 : Int32} {P : Int32 → XS → Prop} (hq : qX10_asNumber g σ x0 P) (sz : Nat) : Met l yX10_asNumber (cws yX10_asNumber cX10_asNumber 1 (some .int)) ({ frames := 0, cells := 0, slots := 0, locals := 0 } : Room) (va_Pc [.int x0] (WP g.1 (xw g) (xty g) σ sz)) (va_Qi P (WB g.1 (xw g) (xty g) σ sz) (va_A (xw g σ) sz)) 0 0 (va_A (xw g σ) sz) :=
  w_enter (by decide) (Nat.le_of_ble_eq_true rfl) (fun p e s m args below meth c ls C hr hk hn hs hW hl => wX10_asNumber C (Nat.le_refl _) (Nat.le_refl _) (fun pc ls v σ H locs hd hW hq => w_iret C hs hr hk hW hd hq) hW hl hq)
set_option maxHeartbeats 4000000 in
set_option maxRecDepth 100000 in
theorem kX10_asNumber_X10_156 (C : CallFix p m c cc nL s args lwg RX10) {σ : XS} (hW : WI g.1 (xw g) (xty g) A s σ H locs) (hRf : 1 ≤ R.frames) (hRl : 20 ≤ R.locals) (hls : ls.size = nL) (hro : (rest.map fun v => v.category).sum ≤ 8) {x0 : Int32} (hd : decode cc pc = .ok (.invokestatic 156, 3)) {P : Int32 → XS → Prop} (hq : qX10_asNumber g σ x0 P) (kk : ∀ (r : Int32) (σ1 : XS) (H : Heap) (locs : List Loc), P r σ1 → WI g.1 (xw g) (xty g) A s σ1 H locs → W p l e R s m args below meth c H locs 0 0 Q (F0 m (pc + 3) ls (.int r :: rest))) : W p l e R s m args below meth c H locs 0 0 Q (F0 m pc ls (.int x0 :: rest)) :=
  w_calli hW (w_runS C hW (mX10_asNumber hq _) ⟨(lwg_at 453 (by decide +kernel) rfl), (lwg_at 66 (by decide +kernel) rfl), (lwg_at 621 (by decide +kernel) rfl)⟩ (lwg_at 452 (by decide +kernel) rfl) (np := 1) (by decide +kernel) ⟨rfl, rfl⟩ ⟨hRf, hRl⟩ rfl hls rfl hro hd ⟨Nat.zero_le _, Nat.zero_le _⟩) kk
set_option maxHeartbeats 4000000 in
set_option maxRecDepth 100000 in
theorem kX10_asNumber_X9_29 (C : CallFix p m c cc nL s args lwg RX9) {σ : XS} (hW : WI g.1 (xw g) (xty g) A s σ H locs) (hRf : 1 ≤ R.frames) (hRl : 20 ≤ R.locals) (hls : ls.size = nL) (hro : (rest.map fun v => v.category).sum ≤ 8) {x0 : Int32} (hd : decode cc pc = .ok (.invokestatic 29, 3)) {P : Int32 → XS → Prop} (hq : qX10_asNumber g σ x0 P) (kk : ∀ (r : Int32) (σ1 : XS) (H : Heap) (locs : List Loc), P r σ1 → WI g.1 (xw g) (xty g) A s σ1 H locs → W p l e R s m args below meth c H locs 0 0 Q (F0 m (pc + 3) ls (.int r :: rest))) : W p l e R s m args below meth c H locs 0 0 Q (F0 m pc ls (.int x0 :: rest)) :=
  w_calli hW (w_runSN C hW (mX10_asNumber hq _) (lwg_at 453 (by decide +kernel) rfl) (lwg_at 66 (by decide +kernel) rfl) (hW.2.2.2.2.2.2.2.1.2.1) (lwg_at 452 (by decide +kernel) rfl) (np := 1) (by decide +kernel) ⟨rfl, rfl⟩ ⟨hRf, hRl⟩ rfl hls rfl hro hd ⟨Nat.zero_le _, Nat.zero_le _⟩) kk
set_option maxHeartbeats 4000000 in
set_option maxRecDepth 100000 in
theorem kX10_asNumber_X6_161 (C : CallFix p m c cc nL s args lwg RX6) {σ : XS} (hW : WI g.1 (xw g) (xty g) A s σ H locs) (hRf : 1 ≤ R.frames) (hRl : 20 ≤ R.locals) (hls : ls.size = nL) (hro : (rest.map fun v => v.category).sum ≤ 8) {x0 : Int32} (hd : decode cc pc = .ok (.invokestatic 161, 3)) {P : Int32 → XS → Prop} (hq : qX10_asNumber g σ x0 P) (kk : ∀ (r : Int32) (σ1 : XS) (H : Heap) (locs : List Loc), P r σ1 → WI g.1 (xw g) (xty g) A s σ1 H locs → W p l e R s m args below meth c H locs 0 0 Q (F0 m (pc + 3) ls (.int r :: rest))) : W p l e R s m args below meth c H locs 0 0 Q (F0 m pc ls (.int x0 :: rest)) :=
  w_calli hW (w_runSN C hW (mX10_asNumber hq _) (lwg_at 453 (by decide +kernel) rfl) (lwg_at 66 (by decide +kernel) rfl) (hW.2.2.2.2.2.2.2.1.2.2.1) (lwg_at 452 (by decide +kernel) rfl) (np := 1) (by decide +kernel) ⟨rfl, rfl⟩ ⟨hRf, hRl⟩ rfl hls rfl hro hd ⟨Nat.zero_le _, Nat.zero_le _⟩) kk
set_option maxHeartbeats 4000000 in
set_option maxRecDepth 100000 in
theorem kX10_asNumber_X8_59 (C : CallFix p m c cc nL s args lwg RX8) {σ : XS} (hW : WI g.1 (xw g) (xty g) A s σ H locs) (hRf : 1 ≤ R.frames) (hRl : 20 ≤ R.locals) (hls : ls.size = nL) (hro : (rest.map fun v => v.category).sum ≤ 8) {x0 : Int32} (hd : decode cc pc = .ok (.invokestatic 59, 3)) {P : Int32 → XS → Prop} (hq : qX10_asNumber g σ x0 P) (kk : ∀ (r : Int32) (σ1 : XS) (H : Heap) (locs : List Loc), P r σ1 → WI g.1 (xw g) (xty g) A s σ1 H locs → W p l e R s m args below meth c H locs 0 0 Q (F0 m (pc + 3) ls (.int r :: rest))) : W p l e R s m args below meth c H locs 0 0 Q (F0 m pc ls (.int x0 :: rest)) :=
  w_calli hW (w_runSN C hW (mX10_asNumber hq _) (lwg_at 453 (by decide +kernel) rfl) (lwg_at 66 (by decide +kernel) rfl) (hW.2.2.2.2.2.2.2.1.2.2.2) (lwg_at 452 (by decide +kernel) rfl) (np := 1) (by decide +kernel) ⟨rfl, rfl⟩ ⟨hRf, hRl⟩ rfl hls rfl hro hd ⟨Nat.zero_le _, Nat.zero_le _⟩) kk
-- X6_stir
set_option maxHeartbeats 4000000 in
set_option maxRecDepth 100000 in
theorem wX6_stir_L16 (C : CallFix p m c cX6_stir 4 s args lwg RX6) (hRf : 1 ≤ R.frames) (hRl : 20 ≤ R.locals) {P : XS → Prop} (hret : RetV g.1 (xw g) (xty g) A p l e R s m args below meth c 0 0 Q cX6_stir P) : ∀ (n : Nat) (σ : XS) (x1 : Int32) (x2 : Int32) (x3 : Int32) (H : Heap) (locs : List Loc) (ls : Array Slot), WI g.1 (xw g) (xty g) A s σ H locs → lv_has ls 4 [(0, .ref (g.2.1 17)), (1, .int x1), (2, .int x2), (3, .int x3)] → qX6_stir_L16 g  P n σ x1 x2 x3 → W p l e R s m args below meth c H locs 0 0 Q (F0 m 16 ls []) := by
  have hx := C.1
  have hb := C.2.1
  intro n
  induction n with
  | zero =>
    intro σ x1 x2 x3 H locs ls hW hl hq
    rw [qX6_stir_L16] at hq
    exact hq.elim
  | succ n ih =>
    intro σ x1 x2 x3 H locs ls hW hl hq
    rw [qX6_stir_L16] at hq
    refine lv_iload_n hx hb dX6_stir_16 rfl (lv_at hl 3 rfl) ?_
    refine lv_iconst (v := 5) hx hb dX6_stir_17 (by decide) ?_
    refine lv_icmp_ge (tgt := 50) hx hb dX6_stir_18 (by decide) (fun h => ?_) (fun h => ?_)
    · replace hq := br_pos h hq
      exact hret _ _ _ _ _ dX6_stir_50 hW hq
    · replace hq := br_neg h hq
      refine lv_aload_n hx hb dX6_stir_21 rfl (lv_at hl 0 rfl) ?_
      refine xg_X6_9 C hW dX6_stir_22 ?_
      refine lv_iload_n hx hb dX6_stir_25 rfl (lv_at hl 3 rfl) ?_
      refine lv_iload_n hx hb dX6_stir_26 rfl (lv_at hl 1 rfl) ?_
      refine lv_iload_n hx hb dX6_stir_27 rfl (lv_at hl 3 rfl) ?_
      refine lv_iconst (v := 5) hx hb dX6_stir_28 (by decide) ?_
      refine lv_iload_n hx hb dX6_stir_29 rfl (lv_at hl 2 rfl) ?_
      refine lv_isub hx hb dX6_stir_30 ?_
      refine (fun (K : ∀ v_1 : Int32, v_1 = ((if x3 < (5 - x2) then 0 else 1) : Int32) → W p l e R s m args below meth c H locs 0 0 Q (F0 m 39 ls (.int v_1 :: [.int x1, .int x3, .ref (g.2.1 18)]))) => ?_) ?_
      · refine lv_icmp_lt (tgt := 38) hx hb dX6_stir_31 (by decide) (fun h31 => ?_) (fun h31 => ?_)
        · refine lv_iconst (v := 0) hx hb dX6_stir_38 (by decide) ?_
          exact K _ (by rw [if_pos h31])
        · refine lv_iconst (v := 1) hx hb dX6_stir_34 (by decide) ?_
          refine lv_goto (tgt := 39) hx hb dX6_stir_35 (by decide) ?_
          exact K _ (by rw [if_neg h31])
      intro v_1 ev_1
      replace hq := hq _ ev_1
      refine kX10_asNumber_X6_161 C hW (Nat.le_trans (by decide) hRf) (Nat.le_trans (by decide) hRl) hl.1 (Nat.le_of_ble_eq_true rfl) dX6_stir_39 hq (fun r_3 σ_2 H locs hq hW => ?_)
      refine lv_iadd hx hb dX6_stir_42 ?_
      obtain ⟨hin4, hq⟩ := hq
      refine xs_A1 C hW hin4 dX6_stir_43 (fun σ_5 H locs eσ_5 hW => ?_)
      replace hq := hq _ eσ_5
      obtain ⟨x3_6, ex3_6⟩ : ∃ y : Int32, y = x3 + 1 := ⟨_, rfl⟩
      replace hq := hq _ ex3_6
      refine lv_iinc (v := x3_6) (lv' := [(3, .int x3_6), (0, .ref (g.2.1 17)), (1, .int x1), (2, .int x2)]) hx hb dX6_stir_44 hl (k := 3) rfl (by rw [ex3_6]; rfl) (by decide) rfl (fun ls hl => ?_)
      refine lv_goto (tgt := 16) hx hb dX6_stir_47 (by decide) ?_
      exact ih _ _ _ _ _ _ _ hW (lv_sub hl [1, 2, 3, 0] rfl) hq
set_option maxHeartbeats 4000000 in
set_option maxRecDepth 100000 in
theorem wX6_stir (C : CallFix p m c cX6_stir 4 s args lwg RX6) (hRf : 1 ≤ R.frames) (hRl : 20 ≤ R.locals) {P : XS → Prop} (hret : RetV g.1 (xw g) (xty g) A p l e R s m args below meth c 0 0 Q cX6_stir P) {σ : XS} {H : Heap} {locs : List Loc} {ls : Array Slot} (hW : WI g.1 (xw g) (xty g) A s σ H locs) (hl : lv_has ls 4 [(0, .ref (g.2.1 17))]) (hq : qX6_stir g σ  P) : W p l e R s m args below meth c H locs 0 0 Q (F0 m 0 ls []) := by
  have hx := C.1
  have hb := C.2.1
  unfold qX6_stir at hq
  refine lv_aload_n hx hb dX6_stir_0 rfl (lv_at hl 0 rfl) ?_
  refine xg_X6_49 C hW dX6_stir_1 ?_
  refine lv_iconst (v := 5) hx hb dX6_stir_4 (by decide) ?_
  refine lv_idiv hx hb dX6_stir_5 (by decide) ?_
  refine lv_topi (fun x1_1 ex1_1 => ?_)
  replace hq := hq _ ex1_1
  refine lv_istore_n (lv' := [(1, .int x1_1), (0, .ref (g.2.1 17))]) hx hb dX6_stir_6 rfl hl (by decide) rfl (fun ls hl => ?_)
  refine lv_aload_n hx hb dX6_stir_7 rfl (lv_at hl 1 rfl) ?_
  refine xg_X6_49 C hW dX6_stir_8 ?_
  refine lv_iconst (v := 5) hx hb dX6_stir_11 (by decide) ?_
  refine w_irem hx hb dX6_stir_12 (by decide) ?_
  refine lv_topi (fun x2_2 ex2_2 => ?_)
  replace hq := hq _ ex2_2
  refine lv_istore_n (lv' := [(2, .int x2_2), (1, .int x1_1), (0, .ref (g.2.1 17))]) hx hb dX6_stir_13 rfl hl (by decide) rfl (fun ls hl => ?_)
  refine lv_iconst (v := 0) hx hb dX6_stir_14 (by decide) ?_
  refine lv_istore_n (lv' := [(3, .int 0), (2, .int x2_2), (1, .int x1_1), (0, .ref (g.2.1 17))]) hx hb dX6_stir_15 rfl hl (by decide) rfl (fun ls hl => ?_)
  obtain ⟨f16, hq⟩ := hq
  exact wX6_stir_L16 C hRf hRl hret f16 _ _ _ _ _ _ _ hW (lv_sub hl [3, 2, 1, 0] rfl) hq
set_option maxHeartbeats 4000000 in
set_option maxRecDepth 100000 in
theorem mX6_stir {l : Launch} {g : XG} {σ : XS} {P : XS → Prop} (hq : qX6_stir g σ  P) (sz : Nat) : Met l yX6_stir (cws yX6_stir cX6_stir 4 none) ({ frames := 1, cells := 0, slots := 0, locals := 20 } : Room) (va_Pc [.ref (g.2.1 17)] (WP g.1 (xw g) (xty g) σ sz)) (va_Qv P (WB g.1 (xw g) (xty g) σ sz) (va_A (xw g σ) sz)) 0 0 (va_A (xw g σ) sz) :=
  w_enter (by decide) (Nat.le_of_ble_eq_true rfl) (fun p e s m args below meth c ls C hr hk hn hs hW hl => wX6_stir C (Nat.le_refl _) (Nat.le_refl _) (fun pc ls σ H locs hd hW hq => w_vret C hs hr hk hW hd hq) hW hl hq)
set_option maxHeartbeats 4000000 in
set_option maxRecDepth 100000 in
theorem kX6_stir_X6_92 (C : CallFix p m c cc nL s args lwg RX6) {σ : XS} (hW : WI g.1 (xw g) (xty g) A s σ H locs) (hRf : 2 ≤ R.frames) (hRl : 43 ≤ R.locals) (hls : ls.size = nL) (hro : (rest.map fun v => v.category).sum ≤ 8) (hd : decode cc pc = .ok (.invokevirtual 92, 3)) {P : XS → Prop} (hq : qX6_stir g σ  P) (kk : ∀ (σ1 : XS) (H : Heap) (locs : List Loc), P σ1 → WI g.1 (xw g) (xty g) A s σ1 H locs → W p l e R s m args below meth c H locs 0 0 Q (F0 m (pc + 3) ls rest)) : W p l e R s m args below meth c H locs 0 0 Q (F0 m pc ls (.ref (g.2.1 17) :: rest)) :=
  w_callv hW (w_runV C hW (mX6_stir hq _) ⟨(lwg_at 679 (by decide +kernel) rfl), (lwg_at 72 (by decide +kernel) rfl), (lwg_at 676 (by decide +kernel) rfl)⟩ (lwg_at 678 (by decide +kernel) rfl) (lwg_at 13 (by decide +kernel) rfl) (np := 0) (by decide +kernel) ⟨rfl, rfl⟩ ⟨hRf, hRl⟩ (ci := 7) rfl rfl (q0 := 17) rfl rfl hls rfl hro hd ⟨Nat.zero_le _, Nat.zero_le _⟩) kk
-- X8_hermitIn
set_option maxHeartbeats 4000000 in
set_option maxRecDepth 100000 in
theorem wX8_hermitIn (C : CallFix p m c cX8_hermitIn 2 s args lwg RX8) (hRf : 3 ≤ R.frames) (hRl : 64 ≤ R.locals) {P : Fin (nH g) → XS → Prop} (hret : RetG (fun j : Fin (nH g) => Value.ref (hA g j)) g.1 (xw g) (xty g) A p l e R s m args below meth c 0 0 Q cX8_hermitIn P) {σ : XS} {x0 : Fin 3} {x1 : Int32} {H : Heap} {locs : List Loc} {ls : Array Slot} (hW : WI g.1 (xw g) (xty g) A s σ H locs) (hl : lv_has ls 2 [(0, .ref (tA g x0)), (1, .int x1)]) (hq : qX8_hermitIn g σ x0 x1 P) : W p l e R s m args below meth c H locs 0 0 Q (F0 m 0 ls []) := by
  have hx := C.1
  have hb := C.2.1
  unfold qX8_hermitIn at hq
  refine lv_aload_n hx hb dX8_hermitIn_0 rfl (lv_at hl 0 rfl) ?_
  refine xg_X8_25 C hW dX8_hermitIn_1 ?_
  refine lv_aload_n hx hb dX8_hermitIn_4 rfl (lv_at hl 0 rfl) ?_
  refine xg_X8_15 C hW dX8_hermitIn_5 ?_
  refine lv_iload_n hx hb dX8_hermitIn_8 rfl (lv_at hl 1 rfl) ?_
  obtain ⟨hin1, hq⟩ := hq
  refine xa_T1 C hW hin1 dX8_hermitIn_9 ?_
  obtain ⟨hin3, hq⟩ := hq
  refine xget_H_X8_39 C hW (Nat.le_trans (by decide) hRf) (Nat.le_trans (by decide) hRl) hl.1 (Nat.le_of_ble_eq_true rfl) hin3 dX8_hermitIn_10 (fun j_2 H locs hj_2 hW => ?_)
  replace hq := hq j_2 hj_2
  refine xc_X8_45 C hW dX8_hermitIn_13 ?_
  exact hret _ _ j_2 _ _ _ dX8_hermitIn_16 hW hq
set_option maxHeartbeats 4000000 in
set_option maxRecDepth 100000 in
theorem mX8_hermitIn {l : Launch} {g : XG} {σ : XS} {x0 : Fin 3} {x1 : Int32} {P : Fin (nH g) → XS → Prop} (hq : qX8_hermitIn g σ x0 x1 P) (sz : Nat) : Met l yX8_hermitIn (cws yX8_hermitIn cX8_hermitIn 2 (some (.object "HermitsSpoon$Hermit"))) ({ frames := 3, cells := 0, slots := 0, locals := 64 } : Room) (va_Pc [.ref (tA g x0), .int x1] (WP g.1 (xw g) (xty g) σ sz)) (QcR (fun j : Fin (nH g) => Value.ref (hA g j)) P (WB g.1 (xw g) (xty g) σ sz) (va_A (xw g σ) sz)) 0 0 (va_A (xw g σ) sz) :=
  w_enter (by decide) (Nat.le_of_ble_eq_true rfl) (fun p e s m args below meth c ls C hr hk hn hs hW hl => wX8_hermitIn C (Nat.le_refl _) (Nat.le_refl _) (fun pc ls v σ H locs hd hW hq => w_aret (f := (fun j : Fin (nH g) => Value.ref (hA g j))) (r := v) C hs hr (Or.inl ⟨_, rfl⟩) hk hW hd (Or.inr ⟨_, rfl⟩) hq) hW hl hq)
set_option maxHeartbeats 4000000 in
set_option maxRecDepth 100000 in
theorem kX8_hermitIn_X6_99 (C : CallFix p m c cc nL s args lwg RX6) {σ : XS} (hW : WI g.1 (xw g) (xty g) A s σ H locs) (hRf : 4 ≤ R.frames) (hRl : 85 ≤ R.locals) (hls : ls.size = nL) (hro : (rest.map fun v => v.category).sum ≤ 8) {x0 : Fin 3} {x1 : Int32} (hd : decode cc pc = .ok (.invokevirtual 99, 3)) {P : Fin (nH g) → XS → Prop} (hq : qX8_hermitIn g σ x0 x1 P) (kk : ∀ (r : Fin (nH g)) (σ1 : XS) (H : Heap) (locs : List Loc), P r σ1 → WI g.1 (xw g) (xty g) A s σ1 H locs → W p l e R s m args below meth c H locs 0 0 Q (F0 m (pc + 3) ls (.ref (hA g r) :: rest))) : W p l e R s m args below meth c H locs 0 0 Q (F0 m pc ls (.int x1 :: .ref (tA g x0) :: rest)) :=
  w_callg hW (w_runV C hW (mX8_hermitIn hq _) ⟨(lwg_at 688 (by decide +kernel) rfl), (lwg_at 71 (by decide +kernel) rfl), (lwg_at 685 (by decide +kernel) rfl)⟩ (lwg_at 686 (by decide +kernel) rfl) (lwg_at 687 (by decide +kernel) rfl) (np := 1) (by decide +kernel) ⟨rfl, rfl⟩ ⟨hRf, hRl⟩ (ci := 9) rfl rfl (q0 := 5 + 4 * x0.val) (xw_T g σ x0) rfl hls rfl hro hd ⟨Nat.zero_le _, Nat.zero_le _⟩) kk
-- X4_bitesInTurn
set_option maxHeartbeats 4000000 in
set_option maxRecDepth 100000 in
theorem wX4_bitesInTurn (C : CallFix p m c cX4_bitesInTurn 2 s args lwg RX4) (hRf : 0 ≤ R.frames) (hRl : 0 ≤ R.locals) {P : Int32 → XS → Prop} (hret : RetI g.1 (xw g) (xty g) A p l e R s m args below meth c 0 0 Q cX4_bitesInTurn P) {σ : XS} {x0 : Fin (nH g)} {x1 : Int32} {H : Heap} {locs : List Loc} {ls : Array Slot} (hW : WI g.1 (xw g) (xty g) A s σ H locs) (hl : lv_has ls 2 [(0, .ref (hA g x0)), (1, .int x1)]) (hq : qX4_bitesInTurn g σ x0 x1 P) : W p l e R s m args below meth c H locs 0 0 Q (F0 m 0 ls []) := by
  have hx := C.1
  have hb := C.2.1
  unfold qX4_bitesInTurn at hq
  refine lv_iconst (v := 1) hx hb dX4_bitesInTurn_0 (by decide) ?_
  exact hret _ _ _ _ _ _ dX4_bitesInTurn_1 hW hq
set_option maxHeartbeats 4000000 in
set_option maxRecDepth 100000 in
theorem mX4_bitesInTurn {l : Launch} {g : XG} {σ : XS} {x0 : Fin (nH g)} {x1 : Int32} {P : Int32 → XS → Prop} (hq : qX4_bitesInTurn g σ x0 x1 P) (sz : Nat) : Met l yX4_bitesInTurn (cws yX4_bitesInTurn cX4_bitesInTurn 2 (some .int)) ({ frames := 0, cells := 0, slots := 0, locals := 0 } : Room) (va_Pc [.ref (hA g x0), .int x1] (WP g.1 (xw g) (xty g) σ sz)) (va_Qi P (WB g.1 (xw g) (xty g) σ sz) (va_A (xw g σ) sz)) 0 0 (va_A (xw g σ) sz) :=
  w_enter (by decide) (Nat.le_of_ble_eq_true rfl) (fun p e s m args below meth c ls C hr hk hn hs hW hl => wX4_bitesInTurn C (Nat.le_refl _) (Nat.le_refl _) (fun pc ls v σ H locs hd hW hq => w_iret C hs hr hk hW hd hq) hW hl hq)
-- X4_isNth
set_option maxHeartbeats 4000000 in
set_option maxRecDepth 100000 in
theorem wX4_isNth (C : CallFix p m c cX4_isNth 2 s args lwg RX4) (hRf : 0 ≤ R.frames) (hRl : 0 ≤ R.locals) {P : Int32 → XS → Prop} (hret : RetZ g.1 (xw g) (xty g) A p l e R s m args below meth c 0 0 Q cX4_isNth P) {σ : XS} {x0 : Fin (nH g)} {x1 : Int32} {H : Heap} {locs : List Loc} {ls : Array Slot} (hW : WI g.1 (xw g) (xty g) A s σ H locs) (hl : lv_has ls 2 [(0, .ref (hA g x0)), (1, .int x1)]) (hq : qX4_isNth g σ x0 x1 P) : W p l e R s m args below meth c H locs 0 0 Q (F0 m 0 ls []) := by
  have hx := C.1
  have hb := C.2.1
  unfold qX4_isNth at hq
  refine lv_aload_n hx hb dX4_isNth_0 rfl (lv_at hl 0 rfl) ?_
  refine xg_X4_9 C hW dX4_isNth_1 ?_
  refine lv_if_le (tgt := 20) hx hb dX4_isNth_4 (by decide) (fun h => ?_) (fun h => ?_)
  · replace hq := br_pos h hq
    refine lv_iconst (v := 0) hx hb dX4_isNth_20 (by decide) ?_
    exact hret _ _ _ _ _ _ dX4_isNth_21 hW isB_0 hq
  · replace hq := br_neg h hq
    refine lv_iload_n hx hb dX4_isNth_7 rfl (lv_at hl 1 rfl) ?_
    refine lv_aload_n hx hb dX4_isNth_8 rfl (lv_at hl 0 rfl) ?_
    refine xg_X4_9 C hW dX4_isNth_9 ?_
    obtain ⟨hne, hq⟩ := hq
    refine w_irem hx hb dX4_isNth_12 hne ?_
    refine lv_if_ne (tgt := 20) hx hb dX4_isNth_13 (by decide) (fun h => ?_) (fun h => ?_)
    · replace hq := br_neg h hq
      refine lv_iconst (v := 0) hx hb dX4_isNth_20 (by decide) ?_
      exact hret _ _ _ _ _ _ dX4_isNth_21 hW isB_0 hq
    · replace hq := br_pos h hq
      refine lv_iconst (v := 1) hx hb dX4_isNth_16 (by decide) ?_
      refine lv_goto (tgt := 21) hx hb dX4_isNth_17 (by decide) ?_
      exact hret _ _ _ _ _ _ dX4_isNth_21 hW isB_1 hq
set_option maxHeartbeats 4000000 in
set_option maxRecDepth 100000 in
theorem mX4_isNth {l : Launch} {g : XG} {σ : XS} {x0 : Fin (nH g)} {x1 : Int32} {P : Int32 → XS → Prop} (hq : qX4_isNth g σ x0 x1 P) (sz : Nat) : Met l yX4_isNth (cws yX4_isNth cX4_isNth 2 (some .boolean)) ({ frames := 0, cells := 0, slots := 0, locals := 0 } : Room) (va_Pc [.ref (hA g x0), .int x1] (WP g.1 (xw g) (xty g) σ sz)) (va_Qi P (WB g.1 (xw g) (xty g) σ sz) (va_A (xw g σ) sz)) 0 0 (va_A (xw g σ) sz) :=
  w_enter (by decide) (Nat.le_of_ble_eq_true rfl) (fun p e s m args below meth c ls C hr hk hn hs hW hl => wX4_isNth C (Nat.le_refl _) (Nat.le_refl _) (fun pc ls v σ H locs hd hW hv hq => w_zret C hs hr hk hW hd hv hq) hW hl hq)
-- ISNTH
set_option maxHeartbeats 4000000 in
set_option maxRecDepth 100000 in
theorem kX4_isNth_X3_9 (C : CallFix p m c cc nL s args lwg RX3) {σ : XS} (hW : WI g.1 (xw g) (xty g) A s σ H locs) {x0 : Fin (nH g)} {x1 : Int32} (hk : hK g x0 = 3) (hRf : 1 ≤ R.frames) (hRl : 21 ≤ R.locals) (hls : ls.size = nL) (hro : (rest.map fun v => v.category).sum ≤ 8) (hd : decode cc pc = .ok (.invokevirtual 9, 3)) {P : Int32 → XS → Prop} (hq : qX4_isNth g σ x0 x1 P) (kk : ∀ (r : Int32) (σ1 : XS) (H : Heap) (locs : List Loc), P r σ1 → WI g.1 (xw g) (xty g) A s σ1 H locs → W p l e R s m args below meth c H locs 0 0 Q (F0 m (pc + 3) ls (.int r :: rest))) : W p l e R s m args below meth c H locs 0 0 Q (F0 m pc ls (.int x1 :: .ref (hA g x0) :: rest)) :=
  w_calli hW (w_runU C hW (Cn := "HermitsSpoon$Greedy") (mX4_isNth hq _) (va_cwU (owner := "HermitsSpoon$Hermit") (x := ⟨"HermitsSpoon$Greedy", "isNth", "(I)Z"⟩) 1 C.2.2.2.2 (goodU (lwg_at 700 (by decide +kernel) rfl) (lwg_at 701 (by decide +kernel) rfl) (lwg_at 703 (by decide +kernel) rfl) (lwg_at 704 (by decide +kernel) rfl) (lwg_at 82 (by decide +kernel) rfl) (lwg_at 705 (by decide +kernel) rfl)) rfl rfl rfl rfl (by decide +kernel) ⟨hRf, hRl⟩) (ci := kc 3) rfl rfl (q0 := 36 + x0.val) (by rw [← hk]; exact xw_H g σ x0) rfl hls rfl hro hd ⟨Nat.zero_le _, Nat.zero_le _⟩) kk
set_option maxHeartbeats 4000000 in
set_option maxRecDepth 100000 in
theorem kX4_isNth_X2_9 (C : CallFix p m c cc nL s args lwg RX2) {σ : XS} (hW : WI g.1 (xw g) (xty g) A s σ H locs) {x0 : Fin (nH g)} {x1 : Int32} (hk : hK g x0 = 4) (hRf : 1 ≤ R.frames) (hRl : 21 ≤ R.locals) (hls : ls.size = nL) (hro : (rest.map fun v => v.category).sum ≤ 8) (hd : decode cc pc = .ok (.invokevirtual 9, 3)) {P : Int32 → XS → Prop} (hq : qX4_isNth g σ x0 x1 P) (kk : ∀ (r : Int32) (σ1 : XS) (H : Heap) (locs : List Loc), P r σ1 → WI g.1 (xw g) (xty g) A s σ1 H locs → W p l e R s m args below meth c H locs 0 0 Q (F0 m (pc + 3) ls (.int r :: rest))) : W p l e R s m args below meth c H locs 0 0 Q (F0 m pc ls (.int x1 :: .ref (hA g x0) :: rest)) :=
  w_calli hW (w_runU C hW (Cn := "HermitsSpoon$Feeder") (mX4_isNth hq _) (va_cwU (owner := "HermitsSpoon$Hermit") (x := ⟨"HermitsSpoon$Feeder", "isNth", "(I)Z"⟩) 1 C.2.2.2.2 (goodU (lwg_at 720 (by decide +kernel) rfl) (lwg_at 721 (by decide +kernel) rfl) (lwg_at 722 (by decide +kernel) rfl) (lwg_at 704 (by decide +kernel) rfl) (lwg_at 82 (by decide +kernel) rfl) (lwg_at 705 (by decide +kernel) rfl)) rfl rfl rfl rfl (by decide +kernel) ⟨hRf, hRl⟩) (ci := kc 4) rfl rfl (q0 := 36 + x0.val) (by rw [← hk]; exact xw_H g σ x0) rfl hls rfl hro hd ⟨Nat.zero_le _, Nat.zero_le _⟩) kk
-- X3_bitesInTurn
set_option maxHeartbeats 4000000 in
set_option maxRecDepth 100000 in
theorem wX3_bitesInTurn (C : CallFix p m c cX3_bitesInTurn 2 s args lwg RX3) (hRf : 1 ≤ R.frames) (hRl : 21 ≤ R.locals) {P : Int32 → XS → Prop} (hret : RetI g.1 (xw g) (xty g) A p l e R s m args below meth c 0 0 Q cX3_bitesInTurn P) {σ : XS} {x0 : Fin (nH g)} {x1 : Int32} {H : Heap} {locs : List Loc} {ls : Array Slot} (hW : WI g.1 (xw g) (xty g) A s σ H locs) (hl : lv_has ls 2 [(0, .ref (hA g x0)), (1, .int x1)]) (hq : qX3_bitesInTurn g σ x0 x1 P) : W p l e R s m args below meth c H locs 0 0 Q (F0 m 0 ls []) := by
  have hx := C.1
  have hb := C.2.1
  unfold qX3_bitesInTurn at hq
  refine lv_aload_n hx hb dX3_bitesInTurn_0 rfl (lv_at hl 0 rfl) ?_
  refine lv_iload_n hx hb dX3_bitesInTurn_1 rfl (lv_at hl 1 rfl) ?_
  obtain ⟨hkd, hq⟩ := hq
  refine kX4_isNth_X3_9 C hW hkd (Nat.le_trans (by decide) hRf) (Nat.le_trans (by decide) hRl) hl.1 (Nat.le_of_ble_eq_true rfl) dX3_bitesInTurn_2 hq (fun r_2 σ_1 H locs hq hW => ?_)
  refine lv_if_eq (tgt := 12) hx hb dX3_bitesInTurn_5 (by decide) (fun h => ?_) (fun h => ?_)
  · replace hq := br_pos h hq
    refine lv_iconst (v := 1) hx hb dX3_bitesInTurn_12 (by decide) ?_
    exact hret _ _ _ _ _ _ dX3_bitesInTurn_13 hW hq
  · replace hq := br_neg h hq
    refine lv_iconst (v := 2) hx hb dX3_bitesInTurn_8 (by decide) ?_
    refine lv_goto (tgt := 13) hx hb dX3_bitesInTurn_9 (by decide) ?_
    exact hret _ _ _ _ _ _ dX3_bitesInTurn_13 hW hq
set_option maxHeartbeats 4000000 in
set_option maxRecDepth 100000 in
theorem mX3_bitesInTurn {l : Launch} {g : XG} {σ : XS} {x0 : Fin (nH g)} {x1 : Int32} {P : Int32 → XS → Prop} (hq : qX3_bitesInTurn g σ x0 x1 P) (sz : Nat) : Met l yX3_bitesInTurn (cws yX3_bitesInTurn cX3_bitesInTurn 2 (some .int)) ({ frames := 1, cells := 0, slots := 0, locals := 21 } : Room) (va_Pc [.ref (hA g x0), .int x1] (WP g.1 (xw g) (xty g) σ sz)) (va_Qi P (WB g.1 (xw g) (xty g) σ sz) (va_A (xw g σ) sz)) 0 0 (va_A (xw g σ) sz) :=
  w_enter (by decide) (Nat.le_of_ble_eq_true rfl) (fun p e s m args below meth c ls C hr hk hn hs hW hl => wX3_bitesInTurn C (Nat.le_refl _) (Nat.le_refl _) (fun pc ls v σ H locs hd hW hq => w_iret C hs hr hk hW hd hq) hW hl hq)
-- V_bitesInTurn
set_option maxHeartbeats 4000000 in
set_option maxRecDepth 100000 in
theorem kV_bitesInTurn_X6_171 (C : CallFix p m c cc nL s args lwg RX6) {σ : XS} (hW : WI g.1 (xw g) (xty g) A s σ H locs) (hRf : 2 ≤ R.frames) (hRl : 42 ≤ R.locals) (hls : ls.size = nL) (hro : (rest.map fun v => v.category).sum ≤ 8) {x0 : Fin (nH g)} {x1 : Int32} (hd : decode cc pc = .ok (.invokevirtual 171, 3)) {P : Int32 → XS → Prop} (hq : qV_bitesInTurn g σ x0 x1 P) (kk : ∀ (r : Int32) (σ1 : XS) (H : Heap) (locs : List Loc), P r σ1 → WI g.1 (xw g) (xty g) A s σ1 H locs → W p l e R s m args below meth c H locs 0 0 Q (F0 m (pc + 3) ls (.int r :: rest))) : W p l e R s m args below meth c H locs 0 0 Q (F0 m pc ls (.int x1 :: .ref (hA g x0) :: rest)) :=
  fin5 (P := fun kd => hK g x0 = kd → W p l e R s m args below meth c H locs 0 0 Q (F0 m pc ls (.int x1 :: .ref (hA g x0) :: rest))) (hK g x0)
    (fun hk => w_calli hW (w_runU C hW (Cn := "HermitsSpoon$Hermit") (mX4_bitesInTurn (hq.1 hk) _) (va_cwU (owner := "HermitsSpoon$Hermit") (x := ⟨"HermitsSpoon$Hermit", "bitesInTurn", "(I)I"⟩) 1 C.2.2.2.2 (goodU (lwg_at 691 (by decide +kernel) rfl) (lwg_at 694 (by decide +kernel) rfl) (lwg_at 693 (by decide +kernel) rfl) (lwg_at 692 (by decide +kernel) rfl) (lwg_at 82 (by decide +kernel) rfl) (lwg_at 707 (by decide +kernel) rfl)) rfl rfl rfl rfl (by decide +kernel) ⟨Nat.le_trans (by decide) hRf, Nat.le_trans (by decide) hRl⟩) (ci := kc 0) rfl rfl (q0 := 36 + x0.val) (by rw [← hk]; exact xw_H g σ x0) rfl hls rfl hro hd ⟨Nat.zero_le _, Nat.zero_le _⟩) kk)
    (fun hk => w_calli hW (w_runU C hW (Cn := "HermitsSpoon$Slow") (mX4_bitesInTurn (hq.2.1 hk) _) (va_cwU (owner := "HermitsSpoon$Hermit") (x := ⟨"HermitsSpoon$Hermit", "bitesInTurn", "(I)I"⟩) 1 C.2.2.2.2 (goodU (lwg_at 691 (by decide +kernel) rfl) (lwg_at 694 (by decide +kernel) rfl) (lwg_at 706 (by decide +kernel) rfl) (lwg_at 692 (by decide +kernel) rfl) (lwg_at 82 (by decide +kernel) rfl) (lwg_at 707 (by decide +kernel) rfl)) rfl rfl rfl rfl (by decide +kernel) ⟨Nat.le_trans (by decide) hRf, Nat.le_trans (by decide) hRl⟩) (ci := kc 1) rfl rfl (q0 := 36 + x0.val) (by rw [← hk]; exact xw_H g σ x0) rfl hls rfl hro hd ⟨Nat.zero_le _, Nat.zero_le _⟩) kk)
    (fun hk => w_calli hW (w_runU C hW (Cn := "HermitsSpoon$Deaf") (mX4_bitesInTurn (hq.2.2.1 hk) _) (va_cwU (owner := "HermitsSpoon$Hermit") (x := ⟨"HermitsSpoon$Hermit", "bitesInTurn", "(I)I"⟩) 1 C.2.2.2.2 (goodU (lwg_at 691 (by decide +kernel) rfl) (lwg_at 694 (by decide +kernel) rfl) (lwg_at 695 (by decide +kernel) rfl) (lwg_at 692 (by decide +kernel) rfl) (lwg_at 82 (by decide +kernel) rfl) (lwg_at 707 (by decide +kernel) rfl)) rfl rfl rfl rfl (by decide +kernel) ⟨Nat.le_trans (by decide) hRf, Nat.le_trans (by decide) hRl⟩) (ci := kc 2) rfl rfl (q0 := 36 + x0.val) (by rw [← hk]; exact xw_H g σ x0) rfl hls rfl hro hd ⟨Nat.zero_le _, Nat.zero_le _⟩) kk)
    (fun hk => w_calli hW (w_runU C hW (Cn := "HermitsSpoon$Greedy") (mX3_bitesInTurn (hq.2.2.2.1 hk) _) (va_cwO (owner := "HermitsSpoon$Hermit") (x := ⟨"HermitsSpoon$Hermit", "bitesInTurn", "(I)I"⟩) 1 C.2.2.2.2 (goodO (lwg_at 691 (by decide +kernel) rfl) (lwg_at 694 (by decide +kernel) rfl) (lwg_at 692 (by decide +kernel) rfl) (lwg_at 697 (by decide +kernel) rfl) (lwg_at 698 (by decide +kernel) rfl) (lwg_at 85 (by decide +kernel) rfl) (lwg_at 699 (by decide +kernel) rfl)) rfl rfl rfl (b0 := cX4_bitesInTurn) (m0 := 2) (r0 := (some .int)) (lwg_at 707 (by decide +kernel) rfl) (by decide +kernel) ⟨Nat.le_trans (by decide) hRf, Nat.le_trans (by decide) hRl⟩) (ci := kc 3) rfl rfl (q0 := 36 + x0.val) (by rw [← hk]; exact xw_H g σ x0) rfl hls rfl hro hd ⟨Nat.zero_le _, Nat.zero_le _⟩) kk)
    (fun hk => w_calli hW (w_runU C hW (Cn := "HermitsSpoon$Feeder") (mX4_bitesInTurn (hq.2.2.2.2 hk) _) (va_cwU (owner := "HermitsSpoon$Hermit") (x := ⟨"HermitsSpoon$Hermit", "bitesInTurn", "(I)I"⟩) 1 C.2.2.2.2 (goodU (lwg_at 691 (by decide +kernel) rfl) (lwg_at 694 (by decide +kernel) rfl) (lwg_at 696 (by decide +kernel) rfl) (lwg_at 692 (by decide +kernel) rfl) (lwg_at 82 (by decide +kernel) rfl) (lwg_at 707 (by decide +kernel) rfl)) rfl rfl rfl rfl (by decide +kernel) ⟨Nat.le_trans (by decide) hRf, Nat.le_trans (by decide) hRl⟩) (ci := kc 4) rfl rfl (q0 := 36 + x0.val) (by rw [← hk]; exact xw_H g σ x0) rfl hls rfl hro hd ⟨Nat.zero_le _, Nat.zero_le _⟩) kk)
    rfl
end
