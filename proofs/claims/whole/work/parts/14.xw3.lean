section
variable {p : Program} {l : Launch} {e : Env} {R : Room} {s : State} {m : MethodId} {args : Array Value} {below : List Frame} {meth : Method} {c : Code} {H : Heap} {locs : List Loc} {cells slots : Nat} {Q : State → Prop}
variable {cc : ByteArray} {pc : Nat} {ls : Array Slot} {rest : List Value} {own : String} {nL : Nat}
variable {g : XG} {A : Nat → Prop}
-- X8_becomeLike
set_option maxHeartbeats 4000000 in
set_option maxRecDepth 100000 in
theorem wX8_becomeLike_J54 (C : CallFix p m c cX8_becomeLike 4 s args lwg RX8) (hRf : 1 ≤ R.frames) (hRl : 60 ≤ R.locals) {P : XS → Prop} (hret : RetV g.1 (xw g) (xty g) A p l e R s m args below meth c 0 0 Q cX8_becomeLike P) {k2 : XS → Fin 3 → Fin 3 → Int32 → Int32 → Prop} (hk2 : ∀ (σ : XS) (x0 : Fin 3) (x1 : Fin 3) (x2 : Int32) (x3 : Int32) (H : Heap) (locs : List Loc) (ls : Array Slot), WI g.1 (xw g) (xty g) A s σ H locs → lv_has ls 4 [(0, .ref (tA g x0)), (1, .ref (tA g x1)), (2, .int x2), (3, .int x3)] → k2 σ x0 x1 x2 x3 → W p l e R s m args below meth c H locs 0 0 Q (F0 m 2 ls [])) {e61 : XS → Fin 3 → Fin 3 → Prop} (he61 : ∀ (σ : XS) (x0 : Fin 3) (x1 : Fin 3) (H : Heap) (locs : List Loc) (ls : Array Slot), WI g.1 (xw g) (xty g) A s σ H locs → lv_has ls 4 [(0, .ref (tA g x0)), (1, .ref (tA g x1))] → e61 σ x0 x1 → W p l e R s m args below meth c H locs 0 0 Q (F0 m 61 ls [])) {σ : XS} {x0 : Fin 3} {x1 : Fin 3} {x2 : Int32} {x3 : Int32} {y0 : Int32} {y1 : Int32} {y2 : Fin 3} {H : Heap} {locs : List Loc} {ls : Array Slot} (hW : WI g.1 (xw g) (xty g) A s σ H locs) (hl : lv_has ls 4 [(0, .ref (tA g x0)), (1, .ref (tA g x1)), (2, .int x2), (3, .int x3)]) (hq : qX8_becomeLike_J54 g k2 e61 P σ x0 x1 x2 x3 y0 y1 y2) : W p l e R s m args below meth c H locs 0 0 Q (F0 m 54 ls [.int y0, .int y1, .ref (tB g y2 1)]) := by
  have hx := C.1
  have hb := C.2.1
  unfold qX8_becomeLike_J54 at hq
  obtain ⟨hin1, hq⟩ := hq
  refine xs_T1 C hW hin1 dX8_becomeLike_54 (fun σ_2 H locs eσ_2 hW => ?_)
  replace hq := hq _ eσ_2
  obtain ⟨x3_3, ex3_3⟩ : ∃ y : Int32, y = x3 + 1 := ⟨_, rfl⟩
  replace hq := hq _ ex3_3
  refine lv_iinc (v := x3_3) (lv' := [(3, .int x3_3), (0, .ref (tA g x0)), (1, .ref (tA g x1)), (2, .int x2)]) hx hb dX8_becomeLike_55 hl (k := 3) rfl (by rw [ex3_3]; rfl) (by decide) rfl (fun ls hl => ?_)
  refine lv_goto (tgt := 2) hx hb dX8_becomeLike_58 (by decide) ?_
  exact hk2 _ _ _ _ _ _ _ _ hW (lv_sub hl [1, 2, 3, 0] rfl) hq
set_option maxHeartbeats 4000000 in
set_option maxRecDepth 100000 in
theorem wX8_becomeLike_J33 (C : CallFix p m c cX8_becomeLike 4 s args lwg RX8) (hRf : 1 ≤ R.frames) (hRl : 60 ≤ R.locals) {P : XS → Prop} (hret : RetV g.1 (xw g) (xty g) A p l e R s m args below meth c 0 0 Q cX8_becomeLike P) {k2 : XS → Fin 3 → Fin 3 → Int32 → Int32 → Prop} (hk2 : ∀ (σ : XS) (x0 : Fin 3) (x1 : Fin 3) (x2 : Int32) (x3 : Int32) (H : Heap) (locs : List Loc) (ls : Array Slot), WI g.1 (xw g) (xty g) A s σ H locs → lv_has ls 4 [(0, .ref (tA g x0)), (1, .ref (tA g x1)), (2, .int x2), (3, .int x3)] → k2 σ x0 x1 x2 x3 → W p l e R s m args below meth c H locs 0 0 Q (F0 m 2 ls [])) {e61 : XS → Fin 3 → Fin 3 → Prop} (he61 : ∀ (σ : XS) (x0 : Fin 3) (x1 : Fin 3) (H : Heap) (locs : List Loc) (ls : Array Slot), WI g.1 (xw g) (xty g) A s σ H locs → lv_has ls 4 [(0, .ref (tA g x0)), (1, .ref (tA g x1))] → e61 σ x0 x1 → W p l e R s m args below meth c H locs 0 0 Q (F0 m 61 ls [])) {σ : XS} {x0 : Fin 3} {x1 : Fin 3} {x2 : Int32} {x3 : Int32} {y0 : Int32} {y1 : Int32} {y2 : Fin 3} {H : Heap} {locs : List Loc} {ls : Array Slot} (hW : WI g.1 (xw g) (xty g) A s σ H locs) (hl : lv_has ls 4 [(0, .ref (tA g x0)), (1, .ref (tA g x1)), (2, .int x2), (3, .int x3)]) (hq : qX8_becomeLike_J33 g k2 e61 P σ x0 x1 x2 x3 y0 y1 y2) : W p l e R s m args below meth c H locs 0 0 Q (F0 m 33 ls [.int y0, .int y1, .ref (tB g y2 0)]) := by
  have hx := C.1
  have hb := C.2.1
  unfold qX8_becomeLike_J33 at hq
  obtain ⟨hin1, hq⟩ := hq
  refine xs_T0 C hW hin1 dX8_becomeLike_33 (fun σ_2 H locs eσ_2 hW => ?_)
  replace hq := hq _ eσ_2
  refine lv_aload_n hx hb dX8_becomeLike_34 rfl (lv_at hl 0 rfl) ?_
  refine xg_X8_15 C hW dX8_becomeLike_35 ?_
  refine lv_iload_n hx hb dX8_becomeLike_38 rfl (lv_at hl 3 rfl) ?_
  refine lv_iload_n hx hb dX8_becomeLike_39 rfl (lv_at hl 3 rfl) ?_
  refine lv_iload_n hx hb dX8_becomeLike_40 rfl (lv_at hl 2 rfl) ?_
  refine lv_icmp_ge (tgt := 53) hx hb dX8_becomeLike_41 (by decide) (fun h => ?_) (fun h => ?_)
  · replace hq := br_pos h hq
    refine lv_iload_n hx hb dX8_becomeLike_53 rfl (lv_at hl 3 rfl) ?_
    exact wX8_becomeLike_J54 C hRf hRl hret hk2 he61 hW hl hq
  · replace hq := br_neg h hq
    refine lv_aload_n hx hb dX8_becomeLike_44 rfl (lv_at hl 1 rfl) ?_
    refine xg_X8_15 C hW dX8_becomeLike_45 ?_
    refine lv_iload_n hx hb dX8_becomeLike_48 rfl (lv_at hl 3 rfl) ?_
    obtain ⟨hin3, hq⟩ := hq
    refine xa_T1 C hW hin3 dX8_becomeLike_49 ?_
    refine lv_goto (tgt := 54) hx hb dX8_becomeLike_50 (by decide) ?_
    exact wX8_becomeLike_J54 C hRf hRl hret hk2 he61 hW hl hq
set_option maxHeartbeats 4000000 in
set_option maxRecDepth 100000 in
theorem wX8_becomeLike_L2 (C : CallFix p m c cX8_becomeLike 4 s args lwg RX8) (hRf : 1 ≤ R.frames) (hRl : 60 ≤ R.locals) {P : XS → Prop} (hret : RetV g.1 (xw g) (xty g) A p l e R s m args below meth c 0 0 Q cX8_becomeLike P) {e61 : XS → Fin 3 → Fin 3 → Prop} (he61 : ∀ (σ : XS) (x0 : Fin 3) (x1 : Fin 3) (H : Heap) (locs : List Loc) (ls : Array Slot), WI g.1 (xw g) (xty g) A s σ H locs → lv_has ls 4 [(0, .ref (tA g x0)), (1, .ref (tA g x1))] → e61 σ x0 x1 → W p l e R s m args below meth c H locs 0 0 Q (F0 m 61 ls [])) : ∀ (n : Nat) (σ : XS) (x0 : Fin 3) (x1 : Fin 3) (x2 : Int32) (x3 : Int32) (H : Heap) (locs : List Loc) (ls : Array Slot), WI g.1 (xw g) (xty g) A s σ H locs → lv_has ls 4 [(0, .ref (tA g x0)), (1, .ref (tA g x1)), (2, .int x2), (3, .int x3)] → qX8_becomeLike_L2 g e61 P n σ x0 x1 x2 x3 → W p l e R s m args below meth c H locs 0 0 Q (F0 m 2 ls []) := by
  have hx := C.1
  have hb := C.2.1
  intro n
  induction n with
  | zero =>
    intro σ x0 x1 x2 x3 H locs ls hW hl hq
    rw [qX8_becomeLike_L2] at hq
    exact hq.elim
  | succ n ih =>
    intro σ x0 x1 x2 x3 H locs ls hW hl hq
    rw [qX8_becomeLike_L2] at hq
    refine lv_iload_n hx hb dX8_becomeLike_2 rfl (lv_at hl 3 rfl) ?_
    refine lv_bipush (v := 10) hx hb dX8_becomeLike_3 (by decide) ?_
    refine lv_icmp_ge (tgt := 61) hx hb dX8_becomeLike_5 (by decide) (fun h => ?_) (fun h => ?_)
    · replace hq := br_pos h hq
      exact he61 _ _ _ _ _ _ hW (lv_sub hl [0, 1] rfl) hq
    · replace hq := br_neg h hq
      refine lv_aload_n hx hb dX8_becomeLike_8 rfl (lv_at hl 0 rfl) ?_
      refine xg_X8_9 C hW dX8_becomeLike_9 ?_
      refine lv_iload_n hx hb dX8_becomeLike_12 rfl (lv_at hl 3 rfl) ?_
      refine lv_iload_n hx hb dX8_becomeLike_13 rfl (lv_at hl 3 rfl) ?_
      refine lv_iload_n hx hb dX8_becomeLike_14 rfl (lv_at hl 2 rfl) ?_
      refine lv_icmp_ge (tgt := 27) hx hb dX8_becomeLike_15 (by decide) (fun h => ?_) (fun h => ?_)
      · replace hq := br_pos h hq
        refine lv_aload_n hx hb dX8_becomeLike_27 rfl (lv_at hl 0 rfl) ?_
        refine xg_X8_9 C hW dX8_becomeLike_28 ?_
        refine lv_iload_n hx hb dX8_becomeLike_31 rfl (lv_at hl 3 rfl) ?_
        obtain ⟨hin1, hq⟩ := hq
        refine xa_T0 C hW hin1 dX8_becomeLike_32 ?_
        exact wX8_becomeLike_J33 C hRf hRl hret ih he61 hW hl hq
      · replace hq := br_neg h hq
        refine lv_aload_n hx hb dX8_becomeLike_18 rfl (lv_at hl 1 rfl) ?_
        refine xg_X8_9 C hW dX8_becomeLike_19 ?_
        refine lv_iload_n hx hb dX8_becomeLike_22 rfl (lv_at hl 3 rfl) ?_
        obtain ⟨hin2, hq⟩ := hq
        refine xa_T0 C hW hin2 dX8_becomeLike_23 ?_
        refine lv_goto (tgt := 33) hx hb dX8_becomeLike_24 (by decide) ?_
        exact wX8_becomeLike_J33 C hRf hRl hret ih he61 hW hl hq
set_option maxHeartbeats 4000000 in
set_option maxRecDepth 100000 in
theorem wX8_becomeLike (C : CallFix p m c cX8_becomeLike 4 s args lwg RX8) (hRf : 1 ≤ R.frames) (hRl : 60 ≤ R.locals) {P : XS → Prop} (hret : RetV g.1 (xw g) (xty g) A p l e R s m args below meth c 0 0 Q cX8_becomeLike P) {σ : XS} {x0 : Fin 3} {x1 : Fin 3} {x2 : Int32} {H : Heap} {locs : List Loc} {ls : Array Slot} (hW : WI g.1 (xw g) (xty g) A s σ H locs) (hl : lv_has ls 4 [(0, .ref (tA g x0)), (1, .ref (tA g x1)), (2, .int x2)]) (hq : qX8_becomeLike g σ x0 x1 x2 P) : W p l e R s m args below meth c H locs 0 0 Q (F0 m 0 ls []) := by
  have hx := C.1
  have hb := C.2.1
  unfold qX8_becomeLike at hq
  refine lv_iconst (v := 0) hx hb dX8_becomeLike_0 (by decide) ?_
  refine lv_istore_n (lv' := [(3, .int 0), (0, .ref (tA g x0)), (1, .ref (tA g x1)), (2, .int x2)]) hx hb dX8_becomeLike_1 rfl hl (by decide) rfl (fun ls hl => ?_)
  obtain ⟨f2, hq⟩ := hq
  refine wX8_becomeLike_L2 C hRf hRl hret ?_ f2 _ _ _ _ _ _ _ _ hW (lv_sub hl [1, 2, 3, 0] rfl) hq
  · intro σ_3 x0_1 x1_2 H locs ls hW hl hq
    refine lv_aload_n hx hb dX8_becomeLike_61 rfl (lv_at hl 1 rfl) ?_
    refine xg_X8_18 C hW dX8_becomeLike_62 ?_
    refine lv_iconst (v := 0) hx hb dX8_becomeLike_65 (by decide) ?_
    refine lv_aload_n hx hb dX8_becomeLike_66 rfl (lv_at hl 0 rfl) ?_
    refine xg_X8_18 C hW dX8_becomeLike_67 ?_
    refine lv_iconst (v := 0) hx hb dX8_becomeLike_70 (by decide) ?_
    refine lv_iconst (v := 5) hx hb dX8_becomeLike_71 (by decide) ?_
    refine xcp_TT C hW (Nat.le_trans (by decide) hRf) (Nat.le_trans (by decide) hRl) hl.1 (Nat.le_of_ble_eq_true rfl) dX8_becomeLike_72 (fun σ_4 H locs eσ_4 hW => ?_)
    replace hq := hq _ eσ_4
    refine lv_aload_n hx hb dX8_becomeLike_75 rfl (lv_at hl 0 rfl) ?_
    refine lv_aload_n hx hb dX8_becomeLike_76 rfl (lv_at hl 1 rfl) ?_
    refine xg_X8_21 C hW dX8_becomeLike_77 ?_
    refine xp_X8_21 C hW dX8_becomeLike_80 (fun σ_5 H locs eσ_5 hW => ?_)
    replace hq := hq _ eσ_5
    refine lv_aload_n hx hb dX8_becomeLike_83 rfl (lv_at hl 0 rfl) ?_
    refine lv_aload_n hx hb dX8_becomeLike_84 rfl (lv_at hl 1 rfl) ?_
    refine xg_X8_35 C hW dX8_becomeLike_85 ?_
    obtain ⟨hib, hq⟩ := hq
    refine xp_X8_35 C hW hib dX8_becomeLike_88 (fun σ_6 H locs eσ_6 hW => ?_)
    replace hq := hq _ eσ_6
    exact hret _ _ _ _ _ dX8_becomeLike_91 hW hq
set_option maxHeartbeats 4000000 in
set_option maxRecDepth 100000 in
theorem mX8_becomeLike {l : Launch} {g : XG} {σ : XS} {x0 : Fin 3} {x1 : Fin 3} {x2 : Int32} {P : XS → Prop} (hq : qX8_becomeLike g σ x0 x1 x2 P) (sz : Nat) : Met l yX8_becomeLike (cws yX8_becomeLike cX8_becomeLike 4 none) ({ frames := 1, cells := 0, slots := 0, locals := 60 } : Room) (va_Pc [.ref (tA g x0), .ref (tA g x1), .int x2] (WP g.1 (xw g) (xty g) σ sz)) (va_Qv P (WB g.1 (xw g) (xty g) σ sz) (va_A (xw g σ) sz)) 0 0 (va_A (xw g σ) sz) :=
  w_enter (by decide) (Nat.le_of_ble_eq_true rfl) (fun p e s m args below meth c ls C hr hk hn hs hW hl => wX8_becomeLike C (Nat.le_refl _) (Nat.le_refl _) (fun pc ls σ H locs hd hW hq => w_vret C hs hr hk hW hd hq) hW hl hq)
set_option maxHeartbeats 4000000 in
set_option maxRecDepth 100000 in
theorem kX8_becomeLike_X10_232 (C : CallFix p m c cc nL s args lwg RX10) {σ : XS} (hW : WI g.1 (xw g) (xty g) A s σ H locs) (hRf : 2 ≤ R.frames) (hRl : 83 ≤ R.locals) (hls : ls.size = nL) (hro : (rest.map fun v => v.category).sum ≤ 8) {x0 : Fin 3} {x1 : Fin 3} {x2 : Int32} (hd : decode cc pc = .ok (.invokevirtual 232, 3)) {P : XS → Prop} (hq : qX8_becomeLike g σ x0 x1 x2 P) (kk : ∀ (σ1 : XS) (H : Heap) (locs : List Loc), P σ1 → WI g.1 (xw g) (xty g) A s σ1 H locs → W p l e R s m args below meth c H locs 0 0 Q (F0 m (pc + 3) ls rest)) : W p l e R s m args below meth c H locs 0 0 Q (F0 m pc ls (.int x2 :: .ref (tA g x1) :: .ref (tA g x0) :: rest)) :=
  w_callv hW (w_runV C hW (mX8_becomeLike hq _) ⟨(lwg_at 807 (by decide +kernel) rfl), (lwg_at 71 (by decide +kernel) rfl), (lwg_at 878 (by decide +kernel) rfl)⟩ (lwg_at 805 (by decide +kernel) rfl) (lwg_at 806 (by decide +kernel) rfl) (np := 2) (by decide +kernel) ⟨rfl, rfl⟩ ⟨hRf, hRl⟩ (ci := 9) rfl rfl (q0 := 5 + 4 * x0.val) (xw_T g σ x0) rfl hls rfl hro hd ⟨Nat.zero_le _, Nat.zero_le _⟩) kk
set_option maxHeartbeats 4000000 in
set_option maxRecDepth 100000 in
theorem kX8_becomeLike_X0_48 (C : CallFix p m c cc nL s args lwg RX0) {σ : XS} (hW : WI g.1 (xw g) (xty g) A s σ H locs) (hRf : 2 ≤ R.frames) (hRl : 83 ≤ R.locals) (hls : ls.size = nL) (hro : (rest.map fun v => v.category).sum ≤ 8) {x0 : Fin 3} {x1 : Fin 3} {x2 : Int32} (hd : decode cc pc = .ok (.invokevirtual 48, 3)) {P : XS → Prop} (hq : qX8_becomeLike g σ x0 x1 x2 P) (kk : ∀ (σ1 : XS) (H : Heap) (locs : List Loc), P σ1 → WI g.1 (xw g) (xty g) A s σ1 H locs → W p l e R s m args below meth c H locs 0 0 Q (F0 m (pc + 3) ls rest)) : W p l e R s m args below meth c H locs 0 0 Q (F0 m pc ls (.int x2 :: .ref (tA g x1) :: .ref (tA g x0) :: rest)) :=
  w_callv hW (w_runV C hW (mX8_becomeLike hq _) ⟨(lwg_at 807 (by decide +kernel) rfl), (lwg_at 71 (by decide +kernel) rfl), (lwg_at 804 (by decide +kernel) rfl)⟩ (lwg_at 805 (by decide +kernel) rfl) (lwg_at 806 (by decide +kernel) rfl) (np := 2) (by decide +kernel) ⟨rfl, rfl⟩ ⟨hRf, hRl⟩ (ci := 9) rfl rfl (q0 := 5 + 4 * x0.val) (xw_T g σ x0) rfl hls rfl hro hd ⟨Nat.zero_le _, Nat.zero_le _⟩) kk
-- X8_exchange
set_option maxHeartbeats 4000000 in
set_option maxRecDepth 100000 in
theorem wX8_exchange (C : CallFix p m c cX8_exchange 4 s args lwg RX8) (hRf : 0 ≤ R.frames) (hRl : 0 ≤ R.locals) {P : XS → Prop} (hret : RetV g.1 (xw g) (xty g) A p l e R s m args below meth c 0 0 Q cX8_exchange P) {σ : XS} {x0 : Fin 3} {x1 : Int32} {x2 : Int32} {H : Heap} {locs : List Loc} {ls : Array Slot} (hW : WI g.1 (xw g) (xty g) A s σ H locs) (hl : lv_has ls 4 [(0, .ref (tA g x0)), (1, .int x1), (2, .int x2)]) (hq : qX8_exchange g σ x0 x1 x2 P) : W p l e R s m args below meth c H locs 0 0 Q (F0 m 0 ls []) := by
  have hx := C.1
  have hb := C.2.1
  unfold qX8_exchange at hq
  refine lv_aload_n hx hb dX8_exchange_0 rfl (lv_at hl 0 rfl) ?_
  refine xg_X8_15 C hW dX8_exchange_1 ?_
  refine lv_iload_n hx hb dX8_exchange_4 rfl (lv_at hl 1 rfl) ?_
  obtain ⟨hin1, hq⟩ := hq
  refine xa_T1 C hW hin1 dX8_exchange_5 ?_
  refine lv_topi (fun x3_2 ex3_2 => ?_)
  replace hq := hq _ ex3_2
  refine lv_istore_n (lv' := [(3, .int x3_2), (0, .ref (tA g x0)), (1, .int x1), (2, .int x2)]) hx hb dX8_exchange_6 rfl hl (by decide) rfl (fun ls hl => ?_)
  refine lv_aload_n hx hb dX8_exchange_7 rfl (lv_at hl 1 rfl) ?_
  refine xg_X8_15 C hW dX8_exchange_8 ?_
  refine lv_iload_n hx hb dX8_exchange_11 rfl (lv_at hl 2 rfl) ?_
  refine lv_aload_n hx hb dX8_exchange_12 rfl (lv_at hl 1 rfl) ?_
  refine xg_X8_15 C hW dX8_exchange_13 ?_
  refine lv_iload_n hx hb dX8_exchange_16 rfl (lv_at hl 3 rfl) ?_
  obtain ⟨hin3, hq⟩ := hq
  refine xa_T1 C hW hin3 dX8_exchange_17 ?_
  refine xs_T1 C hW hin1 dX8_exchange_18 (fun σ_4 H locs eσ_4 hW => ?_)
  replace hq := hq _ eσ_4
  refine lv_aload_n hx hb dX8_exchange_19 rfl (lv_at hl 1 rfl) ?_
  refine xg_X8_15 C hW dX8_exchange_20 ?_
  refine lv_iload_n hx hb dX8_exchange_23 rfl (lv_at hl 3 rfl) ?_
  refine lv_iload_n hx hb dX8_exchange_24 rfl (lv_at hl 0 rfl) ?_
  refine xs_T1 C hW hin3 dX8_exchange_25 (fun σ_5 H locs eσ_5 hW => ?_)
  replace hq := hq _ eσ_5
  exact hret _ _ _ _ _ dX8_exchange_26 hW hq
set_option maxHeartbeats 4000000 in
set_option maxRecDepth 100000 in
theorem mX8_exchange {l : Launch} {g : XG} {σ : XS} {x0 : Fin 3} {x1 : Int32} {x2 : Int32} {P : XS → Prop} (hq : qX8_exchange g σ x0 x1 x2 P) (sz : Nat) : Met l yX8_exchange (cws yX8_exchange cX8_exchange 4 none) ({ frames := 0, cells := 0, slots := 0, locals := 0 } : Room) (va_Pc [.ref (tA g x0), .int x1, .int x2] (WP g.1 (xw g) (xty g) σ sz)) (va_Qv P (WB g.1 (xw g) (xty g) σ sz) (va_A (xw g σ) sz)) 0 0 (va_A (xw g σ) sz) :=
  w_enter (by decide) (Nat.le_of_ble_eq_true rfl) (fun p e s m args below meth c ls C hr hk hn hs hW hl => wX8_exchange C (Nat.le_refl _) (Nat.le_refl _) (fun pc ls σ H locs hd hW hq => w_vret C hs hr hk hW hd hq) hW hl hq)
set_option maxHeartbeats 4000000 in
set_option maxRecDepth 100000 in
theorem kX8_exchange_X10_140 (C : CallFix p m c cc nL s args lwg RX10) {σ : XS} (hW : WI g.1 (xw g) (xty g) A s σ H locs) (hRf : 1 ≤ R.frames) (hRl : 23 ≤ R.locals) (hls : ls.size = nL) (hro : (rest.map fun v => v.category).sum ≤ 8) {x0 : Fin 3} {x1 : Int32} {x2 : Int32} (hd : decode cc pc = .ok (.invokevirtual 140, 3)) {P : XS → Prop} (hq : qX8_exchange g σ x0 x1 x2 P) (kk : ∀ (σ1 : XS) (H : Heap) (locs : List Loc), P σ1 → WI g.1 (xw g) (xty g) A s σ1 H locs → W p l e R s m args below meth c H locs 0 0 Q (F0 m (pc + 3) ls rest)) : W p l e R s m args below meth c H locs 0 0 Q (F0 m pc ls (.int x2 :: .int x1 :: .ref (tA g x0) :: rest)) :=
  w_callv hW (w_runV C hW (mX8_exchange hq _) ⟨(lwg_at 608 (by decide +kernel) rfl), (lwg_at 71 (by decide +kernel) rfl), (lwg_at 605 (by decide +kernel) rfl)⟩ (lwg_at 606 (by decide +kernel) rfl) (lwg_at 607 (by decide +kernel) rfl) (np := 2) (by decide +kernel) ⟨rfl, rfl⟩ ⟨hRf, hRl⟩ (ci := 9) rfl rfl (q0 := 5 + 4 * x0.val) (xw_T g σ x0) rfl hls rfl hro hd ⟨Nat.zero_le _, Nat.zero_le _⟩) kk
set_option maxHeartbeats 4000000 in
set_option maxRecDepth 100000 in
theorem kX8_exchange_X0_52 (C : CallFix p m c cc nL s args lwg RX0) {σ : XS} (hW : WI g.1 (xw g) (xty g) A s σ H locs) (hRf : 1 ≤ R.frames) (hRl : 23 ≤ R.locals) (hls : ls.size = nL) (hro : (rest.map fun v => v.category).sum ≤ 8) {x0 : Fin 3} {x1 : Int32} {x2 : Int32} (hd : decode cc pc = .ok (.invokevirtual 52, 3)) {P : XS → Prop} (hq : qX8_exchange g σ x0 x1 x2 P) (kk : ∀ (σ1 : XS) (H : Heap) (locs : List Loc), P σ1 → WI g.1 (xw g) (xty g) A s σ1 H locs → W p l e R s m args below meth c H locs 0 0 Q (F0 m (pc + 3) ls rest)) : W p l e R s m args below meth c H locs 0 0 Q (F0 m pc ls (.int x2 :: .int x1 :: .ref (tA g x0) :: rest)) :=
  w_callv hW (w_runV C hW (mX8_exchange hq _) ⟨(lwg_at 608 (by decide +kernel) rfl), (lwg_at 71 (by decide +kernel) rfl), (lwg_at 809 (by decide +kernel) rfl)⟩ (lwg_at 606 (by decide +kernel) rfl) (lwg_at 607 (by decide +kernel) rfl) (np := 2) (by decide +kernel) ⟨rfl, rfl⟩ ⟨hRf, hRl⟩ (ci := 9) rfl rfl (q0 := 5 + 4 * x0.val) (xw_T g σ x0) rfl hls rfl hro hd ⟨Nat.zero_le _, Nat.zero_le _⟩) kk
-- X0_swapAdvised
set_option maxHeartbeats 4000000 in
set_option maxRecDepth 100000 in
theorem wX0_swapAdvised_J123 (C : CallFix p m c cX0_swapAdvised 10 s args lwg RX0) (hRf : 8 ≤ R.frames) (hRl : 189 ≤ R.locals) {P : Int32 → XS → Prop} (hret : RetI g.1 (xw g) (xty g) A p l e R s m args below meth c 0 0 Q cX0_swapAdvised P) {k54 : XS → Fin (nV g) → Int32 → Int32 → Int32 → Int32 → Int32 → Int32 → Prop} (hk54 : ∀ (σ : XS) (x2 : Fin (nV g)) (x3 : Int32) (x4 : Int32) (x5 : Int32) (x6 : Int32) (x7 : Int32) (x8 : Int32) (H : Heap) (locs : List Loc) (ls : Array Slot), WI g.1 (xw g) (xty g) A s σ H locs → lv_has ls 10 [(0, .ref (g.2.1 23)), (2, .ref (vA g x2)), (3, .int x3), (4, .int x4), (5, .int x5), (6, .int x6), (7, .int x7), (8, .int x8)] → k54 σ x2 x3 x4 x5 x6 x7 x8 → W p l e R s m args below meth c H locs 0 0 Q (F0 m 54 ls [])) {e129 : XS → Fin (nV g) → Int32 → Int32 → Int32 → Int32 → Int32 → Prop} (he129 : ∀ (σ : XS) (x2 : Fin (nV g)) (x3 : Int32) (x4 : Int32) (x5 : Int32) (x6 : Int32) (x7 : Int32) (H : Heap) (locs : List Loc) (ls : Array Slot), WI g.1 (xw g) (xty g) A s σ H locs → lv_has ls 10 [(0, .ref (g.2.1 23)), (2, .ref (vA g x2)), (3, .int x3), (4, .int x4), (5, .int x5), (6, .int x6), (7, .int x7)] → e129 σ x2 x3 x4 x5 x6 x7 → W p l e R s m args below meth c H locs 0 0 Q (F0 m 129 ls [])) {σ : XS} {x2 : Fin (nV g)} {x3 : Int32} {x4 : Int32} {x5 : Int32} {x6 : Int32} {x7 : Int32} {x8 : Int32} {H : Heap} {locs : List Loc} {ls : Array Slot} (hW : WI g.1 (xw g) (xty g) A s σ H locs) (hl : lv_has ls 10 [(0, .ref (g.2.1 23)), (2, .ref (vA g x2)), (3, .int x3), (4, .int x4), (5, .int x5), (6, .int x6), (7, .int x7), (8, .int x8)]) (hq : qX0_swapAdvised_J123 g k54 e129 P σ x2 x3 x4 x5 x6 x7 x8) : W p l e R s m args below meth c H locs 0 0 Q (F0 m 123 ls []) := by
  have hx := C.1
  have hb := C.2.1
  unfold qX0_swapAdvised_J123 at hq
  obtain ⟨x8_1, ex8_1⟩ : ∃ y : Int32, y = x8 + 1 := ⟨_, rfl⟩
  replace hq := hq _ ex8_1
  refine lv_iinc (v := x8_1) (lv' := [(8, .int x8_1), (0, .ref (g.2.1 23)), (2, .ref (vA g x2)), (3, .int x3), (4, .int x4), (5, .int x5), (6, .int x6), (7, .int x7)]) hx hb dX0_swapAdvised_123 hl (k := 7) rfl (by rw [ex8_1]; rfl) (by decide) rfl (fun ls hl => ?_)
  refine lv_goto (tgt := 54) hx hb dX0_swapAdvised_126 (by decide) ?_
  exact hk54 _ _ _ _ _ _ _ _ _ _ _ hW (lv_sub hl [1, 2, 3, 4, 5, 6, 7, 0] rfl) hq
set_option maxHeartbeats 4000000 in
set_option maxRecDepth 100000 in
theorem wX0_swapAdvised_L54 (C : CallFix p m c cX0_swapAdvised 10 s args lwg RX0) (hRf : 8 ≤ R.frames) (hRl : 189 ≤ R.locals) {P : Int32 → XS → Prop} (hret : RetI g.1 (xw g) (xty g) A p l e R s m args below meth c 0 0 Q cX0_swapAdvised P) {e129 : XS → Fin (nV g) → Int32 → Int32 → Int32 → Int32 → Int32 → Prop} (he129 : ∀ (σ : XS) (x2 : Fin (nV g)) (x3 : Int32) (x4 : Int32) (x5 : Int32) (x6 : Int32) (x7 : Int32) (H : Heap) (locs : List Loc) (ls : Array Slot), WI g.1 (xw g) (xty g) A s σ H locs → lv_has ls 10 [(0, .ref (g.2.1 23)), (2, .ref (vA g x2)), (3, .int x3), (4, .int x4), (5, .int x5), (6, .int x6), (7, .int x7)] → e129 σ x2 x3 x4 x5 x6 x7 → W p l e R s m args below meth c H locs 0 0 Q (F0 m 129 ls [])) : ∀ (n : Nat) (σ : XS) (x2 : Fin (nV g)) (x3 : Int32) (x4 : Int32) (x5 : Int32) (x6 : Int32) (x7 : Int32) (x8 : Int32) (H : Heap) (locs : List Loc) (ls : Array Slot), WI g.1 (xw g) (xty g) A s σ H locs → lv_has ls 10 [(0, .ref (g.2.1 23)), (2, .ref (vA g x2)), (3, .int x3), (4, .int x4), (5, .int x5), (6, .int x6), (7, .int x7), (8, .int x8)] → qX0_swapAdvised_L54 g e129 P n σ x2 x3 x4 x5 x6 x7 x8 → W p l e R s m args below meth c H locs 0 0 Q (F0 m 54 ls []) := by
  have hx := C.1
  have hb := C.2.1
  intro n
  induction n with
  | zero =>
    intro σ x2 x3 x4 x5 x6 x7 x8 H locs ls hW hl hq
    rw [qX0_swapAdvised_L54] at hq
    exact hq.elim
  | succ n ih =>
    intro σ x2 x3 x4 x5 x6 x7 x8 H locs ls hW hl hq
    rw [qX0_swapAdvised_L54] at hq
    refine lv_iload hx hb dX0_swapAdvised_54 (lv_at hl 7 rfl) ?_
    refine lv_iload hx hb dX0_swapAdvised_56 (lv_at hl 3 rfl) ?_
    refine lv_icmp_ge (tgt := 129) hx hb dX0_swapAdvised_58 (by decide) (fun h => ?_) (fun h => ?_)
    · replace hq := br_pos h hq
      exact he129 _ _ _ _ _ _ _ _ _ _ hW (lv_sub hl [0, 1, 2, 3, 4, 5, 6] rfl) hq
    · replace hq := br_neg h hq
      refine lv_aload_n hx hb dX0_swapAdvised_61 rfl (lv_at hl 0 rfl) ?_
      refine xg_X0_20 C hW dX0_swapAdvised_62 ?_
      refine lv_iload hx hb dX0_swapAdvised_65 (lv_at hl 6 rfl) ?_
      refine lv_iload hx hb dX0_swapAdvised_67 (lv_at hl 7 rfl) ?_
      refine kX8_exchange_X0_52 C hW (Nat.le_trans (by decide) hRf) (Nat.le_trans (by decide) hRl) hl.1 (Nat.le_of_ble_eq_true rfl) dX0_swapAdvised_69 hq (fun σ_1 H locs hq hW => ?_)
      refine lv_aload_n hx hb dX0_swapAdvised_72 rfl (lv_at hl 0 rfl) ?_
      refine xg_X0_16 C hW dX0_swapAdvised_73 ?_
      refine lv_aload_n hx hb dX0_swapAdvised_76 rfl (lv_at hl 0 rfl) ?_
      refine xg_X0_20 C hW dX0_swapAdvised_77 ?_
      refine lv_aload_n hx hb dX0_swapAdvised_80 rfl (lv_at hl 1 rfl) ?_
      refine lv_aload_n hx hb dX0_swapAdvised_81 rfl (lv_at hl 1 rfl) ?_
      refine xg_X0_24 C hW dX0_swapAdvised_82 ?_
      refine lv_iload_n hx hb dX0_swapAdvised_85 rfl (lv_at hl 2 rfl) ?_
      refine kX6_leastOf_X0_30 C hW (Nat.le_trans (by decide) hRf) (Nat.le_trans (by decide) hRl) hl.1 (Nat.le_of_ble_eq_true rfl) dX0_swapAdvised_86 hq (fun r_3 σ_2 H locs hq hW => ?_)
      refine lv_istore (lv' := [(9, .int r_3), (0, .ref (g.2.1 23)), (2, .ref (vA g x2)), (3, .int x3), (4, .int x4), (5, .int x5), (6, .int x6), (7, .int x7), (8, .int x8)]) hx hb dX0_swapAdvised_89 hl (by decide) rfl (fun ls hl => ?_)
      refine lv_aload_n hx hb dX0_swapAdvised_91 rfl (lv_at hl 1 rfl) ?_
      refine xg_X0_20 C hW dX0_swapAdvised_92 ?_
      refine lv_iload hx hb dX0_swapAdvised_95 (lv_at hl 7 rfl) ?_
      refine lv_iload hx hb dX0_swapAdvised_97 (lv_at hl 8 rfl) ?_
      refine kX8_exchange_X0_52 C hW (Nat.le_trans (by decide) hRf) (Nat.le_trans (by decide) hRl) hl.1 (Nat.le_of_ble_eq_true rfl) dX0_swapAdvised_99 hq (fun σ_4 H locs hq hW => ?_)
      refine lv_iload hx hb dX0_swapAdvised_102 (lv_at hl 0 rfl) ?_
      refine lv_iload hx hb dX0_swapAdvised_104 (lv_at hl 6 rfl) ?_
      refine lv_icmp_le (tgt := 123) hx hb dX0_swapAdvised_106 (by decide) (fun h => ?_) (fun h => ?_)
      · replace hq := br_pos h hq
        exact wX0_swapAdvised_J123 C hRf hRl hret ih he129 hW (lv_sub hl [1, 2, 3, 4, 5, 6, 7, 8] rfl) hq
      · replace hq := br_neg h hq
        refine lv_iload hx hb dX0_swapAdvised_109 (lv_at hl 0 rfl) ?_
        refine lv_istore (lv' := [(6, .int r_3), (9, .int r_3), (0, .ref (g.2.1 23)), (2, .ref (vA g x2)), (3, .int x3), (4, .int x4), (5, .int x5), (7, .int x7), (8, .int x8)]) hx hb dX0_swapAdvised_111 hl (by decide) rfl (fun ls hl => ?_)
        refine lv_bipush (v := 16) hx hb dX0_swapAdvised_113 (by decide) ?_
        refine lv_iload hx hb dX0_swapAdvised_115 (lv_at hl 7 rfl) ?_
        refine lv_imul hx hb dX0_swapAdvised_117 ?_
        refine lv_iload hx hb dX0_swapAdvised_118 (lv_at hl 8 rfl) ?_
        refine lv_iadd hx hb dX0_swapAdvised_120 ?_
        refine lv_topi (fun x5_5 ex5_5 => ?_)
        replace hq := hq _ ex5_5
        refine lv_istore (lv' := [(5, .int x5_5), (6, .int r_3), (9, .int r_3), (0, .ref (g.2.1 23)), (2, .ref (vA g x2)), (3, .int x3), (4, .int x4), (7, .int x7), (8, .int x8)]) hx hb dX0_swapAdvised_121 hl (by decide) rfl (fun ls hl => ?_)
        exact wX0_swapAdvised_J123 C hRf hRl hret ih he129 hW (lv_sub hl [3, 4, 5, 6, 0, 1, 7, 8] rfl) hq
set_option maxHeartbeats 4000000 in
set_option maxRecDepth 100000 in
theorem wX0_swapAdvised_L41 (C : CallFix p m c cX0_swapAdvised 10 s args lwg RX0) (hRf : 8 ≤ R.frames) (hRl : 189 ≤ R.locals) {P : Int32 → XS → Prop} (hret : RetI g.1 (xw g) (xty g) A p l e R s m args below meth c 0 0 Q cX0_swapAdvised P) : ∀ (n : Nat) (σ : XS) (x2 : Fin (nV g)) (x3 : Int32) (x4 : Int32) (x5 : Int32) (x6 : Int32) (x7 : Int32) (H : Heap) (locs : List Loc) (ls : Array Slot), WI g.1 (xw g) (xty g) A s σ H locs → lv_has ls 10 [(0, .ref (g.2.1 23)), (2, .ref (vA g x2)), (3, .int x3), (4, .int x4), (5, .int x5), (6, .int x6), (7, .int x7)] → qX0_swapAdvised_L41 g  P n σ x2 x3 x4 x5 x6 x7 → W p l e R s m args below meth c H locs 0 0 Q (F0 m 41 ls []) := by
  have hx := C.1
  have hb := C.2.1
  intro n
  induction n with
  | zero =>
    intro σ x2 x3 x4 x5 x6 x7 H locs ls hW hl hq
    rw [qX0_swapAdvised_L41] at hq
    exact hq.elim
  | succ n ih =>
    intro σ x2 x3 x4 x5 x6 x7 H locs ls hW hl hq
    rw [qX0_swapAdvised_L41] at hq
    refine lv_iload hx hb dX0_swapAdvised_41 (lv_at hl 6 rfl) ?_
    refine lv_iload hx hb dX0_swapAdvised_43 (lv_at hl 3 rfl) ?_
    refine lv_icmp_ge (tgt := 135) hx hb dX0_swapAdvised_45 (by decide) (fun h => ?_) (fun h => ?_)
    · replace hq := br_pos h hq
      refine lv_iload hx hb dX0_swapAdvised_135 (lv_at hl 4 rfl) ?_
      exact hret _ _ _ _ _ _ dX0_swapAdvised_137 hW hq
    · replace hq := br_neg h hq
      refine lv_iload hx hb dX0_swapAdvised_48 (lv_at hl 6 rfl) ?_
      refine lv_iconst (v := 1) hx hb dX0_swapAdvised_50 (by decide) ?_
      refine lv_iadd hx hb dX0_swapAdvised_51 ?_
      refine lv_topi (fun x8_1 ex8_1 => ?_)
      replace hq := hq _ ex8_1
      refine lv_istore (lv' := [(8, .int x8_1), (0, .ref (g.2.1 23)), (2, .ref (vA g x2)), (3, .int x3), (4, .int x4), (5, .int x5), (6, .int x6), (7, .int x7)]) hx hb dX0_swapAdvised_52 hl (by decide) rfl (fun ls hl => ?_)
      obtain ⟨f54, hq⟩ := hq
      refine wX0_swapAdvised_L54 C hRf hRl hret ?_ f54 _ _ _ _ _ _ _ _ _ _ _ hW (lv_sub hl [1, 2, 3, 4, 5, 6, 7, 0] rfl) hq
      · intro σ_8 x2_2 x3_3 x4_4 x5_5 x6_6 x7_7 H locs ls hW hl hq
        obtain ⟨x7_9, ex7_9⟩ : ∃ y : Int32, y = x7_7 + 1 := ⟨_, rfl⟩
        replace hq := hq _ ex7_9
        refine lv_iinc (v := x7_9) (lv' := [(7, .int x7_9), (0, .ref (g.2.1 23)), (2, .ref (vA g x2_2)), (3, .int x3_3), (4, .int x4_4), (5, .int x5_5), (6, .int x6_6)]) hx hb dX0_swapAdvised_129 hl (k := 6) rfl (by rw [ex7_9]; rfl) (by decide) rfl (fun ls hl => ?_)
        refine lv_goto (tgt := 41) hx hb dX0_swapAdvised_132 (by decide) ?_
        exact ih _ _ _ _ _ _ _ _ _ _ hW (lv_sub hl [1, 2, 3, 4, 5, 6, 0] rfl) hq
set_option maxHeartbeats 4000000 in
set_option maxRecDepth 100000 in
theorem wX0_swapAdvised (C : CallFix p m c cX0_swapAdvised 10 s args lwg RX0) (hRf : 8 ≤ R.frames) (hRl : 189 ≤ R.locals) {P : Int32 → XS → Prop} (hret : RetI g.1 (xw g) (xty g) A p l e R s m args below meth c 0 0 Q cX0_swapAdvised P) {σ : XS} {x1 : Fin 3} {x2 : Fin (nV g)} {x3 : Int32} {H : Heap} {locs : List Loc} {ls : Array Slot} (hW : WI g.1 (xw g) (xty g) A s σ H locs) (hl : lv_has ls 10 [(0, .ref (g.2.1 23)), (1, .ref (tA g x1)), (2, .ref (vA g x2)), (3, .int x3)]) (hq : qX0_swapAdvised g σ x1 x2 x3 P) : W p l e R s m args below meth c H locs 0 0 Q (F0 m 0 ls []) := by
  have hx := C.1
  have hb := C.2.1
  unfold qX0_swapAdvised at hq
  refine lv_aload_n hx hb dX0_swapAdvised_0 rfl (lv_at hl 1 rfl) ?_
  refine xg_X0_36 C hW dX0_swapAdvised_1 ?_
  refine xsiz_H_X0_42 C hW (Nat.le_trans (by decide) hRf) (Nat.le_trans (by decide) hRl) hl.1 (Nat.le_of_ble_eq_true rfl) dX0_swapAdvised_4 (fun H locs hW => ?_)
  refine lv_topi (fun x4_1 ex4_1 => ?_)
  replace hq := hq _ ex4_1
  refine lv_istore (lv' := [(4, .int x4_1), (0, .ref (g.2.1 23)), (1, .ref (tA g x1)), (2, .ref (vA g x2)), (3, .int x3)]) hx hb dX0_swapAdvised_7 hl (by decide) rfl (fun ls hl => ?_)
  refine lv_iconst (v := (-1)) hx hb dX0_swapAdvised_9 (by decide) ?_
  refine lv_istore (lv' := [(5, .int (-1)), (4, .int x4_1), (0, .ref (g.2.1 23)), (1, .ref (tA g x1)), (2, .ref (vA g x2)), (3, .int x3)]) hx hb dX0_swapAdvised_10 hl (by decide) rfl (fun ls hl => ?_)
  refine lv_aload_n hx hb dX0_swapAdvised_12 rfl (lv_at hl 2 rfl) ?_
  refine xg_X0_16 C hW dX0_swapAdvised_13 ?_
  refine lv_aload_n hx hb dX0_swapAdvised_16 rfl (lv_at hl 3 rfl) ?_
  refine lv_aload_n hx hb dX0_swapAdvised_17 rfl (lv_at hl 4 rfl) ?_
  refine lv_aload_n hx hb dX0_swapAdvised_18 rfl (lv_at hl 4 rfl) ?_
  refine xg_X0_24 C hW dX0_swapAdvised_19 ?_
  refine lv_iload_n hx hb dX0_swapAdvised_22 rfl (lv_at hl 5 rfl) ?_
  refine kX6_leastOf_X0_30 C hW (Nat.le_trans (by decide) hRf) (Nat.le_trans (by decide) hRl) hl.1 (Nat.le_of_ble_eq_true rfl) dX0_swapAdvised_23 hq (fun r_3 σ_2 H locs hq hW => ?_)
  refine lv_istore (lv' := [(6, .int r_3), (5, .int (-1)), (4, .int x4_1), (0, .ref (g.2.1 23)), (1, .ref (tA g x1)), (2, .ref (vA g x2)), (3, .int x3)]) hx hb dX0_swapAdvised_26 hl (by decide) rfl (fun ls hl => ?_)
  refine lv_aload_n hx hb dX0_swapAdvised_28 rfl (lv_at hl 3 rfl) ?_
  refine xg_X0_20 C hW dX0_swapAdvised_29 ?_
  refine lv_aload_n hx hb dX0_swapAdvised_32 rfl (lv_at hl 4 rfl) ?_
  refine lv_iload hx hb dX0_swapAdvised_33 (lv_at hl 2 rfl) ?_
  refine kX8_becomeLike_X0_48 C hW (Nat.le_trans (by decide) hRf) (Nat.le_trans (by decide) hRl) hl.1 (Nat.le_of_ble_eq_true rfl) dX0_swapAdvised_35 hq (fun σ_4 H locs hq hW => ?_)
  refine lv_iconst (v := 0) hx hb dX0_swapAdvised_38 (by decide) ?_
  refine lv_istore (lv' := [(7, .int 0), (6, .int r_3), (5, .int (-1)), (4, .int x4_1), (0, .ref (g.2.1 23)), (1, .ref (tA g x1)), (2, .ref (vA g x2)), (3, .int x3)]) hx hb dX0_swapAdvised_39 hl (by decide) rfl (fun ls hl => ?_)
  obtain ⟨f41, hq⟩ := hq
  exact wX0_swapAdvised_L41 C hRf hRl hret f41 _ _ _ _ _ _ _ _ _ _ hW (lv_sub hl [4, 6, 7, 3, 2, 1, 0] rfl) hq
set_option maxHeartbeats 4000000 in
set_option maxRecDepth 100000 in
theorem mX0_swapAdvised {l : Launch} {g : XG} {σ : XS} {x1 : Fin 3} {x2 : Fin (nV g)} {x3 : Int32} {P : Int32 → XS → Prop} (hq : qX0_swapAdvised g σ x1 x2 x3 P) (sz : Nat) : Met l yX0_swapAdvised (cws yX0_swapAdvised cX0_swapAdvised 10 (some .int)) ({ frames := 8, cells := 0, slots := 0, locals := 189 } : Room) (va_Pc [.ref (g.2.1 23), .ref (tA g x1), .ref (vA g x2), .int x3] (WP g.1 (xw g) (xty g) σ sz)) (va_Qi P (WB g.1 (xw g) (xty g) σ sz) (va_A (xw g σ) sz)) 0 0 (va_A (xw g σ) sz) :=
  w_enter (by decide) (Nat.le_of_ble_eq_true rfl) (fun p e s m args below meth c ls C hr hk hn hs hW hl => wX0_swapAdvised C (Nat.le_refl _) (Nat.le_refl _) (fun pc ls v σ H locs hd hW hq => w_iret C hs hr hk hW hd hq) hW hl hq)
set_option maxHeartbeats 4000000 in
set_option maxRecDepth 100000 in
theorem kX0_swapAdvised_X10_202 (C : CallFix p m c cc nL s args lwg RX10) {σ : XS} (hW : WI g.1 (xw g) (xty g) A s σ H locs) (hRf : 9 ≤ R.frames) (hRl : 218 ≤ R.locals) (hls : ls.size = nL) (hro : (rest.map fun v => v.category).sum ≤ 8) {x1 : Fin 3} {x2 : Fin (nV g)} {x3 : Int32} (hd : decode cc pc = .ok (.invokevirtual 202, 3)) {P : Int32 → XS → Prop} (hq : qX0_swapAdvised g σ x1 x2 x3 P) (kk : ∀ (r : Int32) (σ1 : XS) (H : Heap) (locs : List Loc), P r σ1 → WI g.1 (xw g) (xty g) A s σ1 H locs → W p l e R s m args below meth c H locs 0 0 Q (F0 m (pc + 3) ls (.int r :: rest))) : W p l e R s m args below meth c H locs 0 0 Q (F0 m pc ls (.int x3 :: .ref (vA g x2) :: .ref (tA g x1) :: .ref (g.2.1 23) :: rest)) :=
  w_calli hW (w_runV C hW (mX0_swapAdvised hq _) ⟨(lwg_at 803 (by decide +kernel) rfl), (lwg_at 73 (by decide +kernel) rfl), (lwg_at 800 (by decide +kernel) rfl)⟩ (lwg_at 801 (by decide +kernel) rfl) (lwg_at 802 (by decide +kernel) rfl) (np := 3) (by decide +kernel) ⟨rfl, rfl⟩ ⟨hRf, hRl⟩ (ci := 1) rfl rfl (q0 := 23) rfl rfl hls rfl hro hd ⟨Nat.zero_le _, Nat.zero_le _⟩) kk
-- X0_stirAdvised
set_option maxHeartbeats 4000000 in
set_option maxRecDepth 100000 in
theorem wX0_stirAdvised_J55 (C : CallFix p m c cX0_stirAdvised 8 s args lwg RX0) (hRf : 8 ≤ R.frames) (hRl : 189 ≤ R.locals) {P : Int32 → XS → Prop} (hret : RetI g.1 (xw g) (xty g) A p l e R s m args below meth c 0 0 Q cX0_stirAdvised P) {k19 : XS → Fin 3 → Fin (nV g) → Int32 → Int32 → Int32 → Int32 → Prop} (hk19 : ∀ (σ : XS) (x1 : Fin 3) (x2 : Fin (nV g)) (x3 : Int32) (x4 : Int32) (x5 : Int32) (x6 : Int32) (H : Heap) (locs : List Loc) (ls : Array Slot), WI g.1 (xw g) (xty g) A s σ H locs → lv_has ls 8 [(0, .ref (g.2.1 23)), (1, .ref (tA g x1)), (2, .ref (vA g x2)), (3, .int x3), (4, .int x4), (5, .int x5), (6, .int x6)] → k19 σ x1 x2 x3 x4 x5 x6 → W p l e R s m args below meth c H locs 0 0 Q (F0 m 19 ls [])) {σ : XS} {x1 : Fin 3} {x2 : Fin (nV g)} {x3 : Int32} {x4 : Int32} {x5 : Int32} {x6 : Int32} {H : Heap} {locs : List Loc} {ls : Array Slot} (hW : WI g.1 (xw g) (xty g) A s σ H locs) (hl : lv_has ls 8 [(0, .ref (g.2.1 23)), (1, .ref (tA g x1)), (2, .ref (vA g x2)), (3, .int x3), (4, .int x4), (5, .int x5), (6, .int x6)]) (hq : qX0_stirAdvised_J55 g k19 P σ x1 x2 x3 x4 x5 x6) : W p l e R s m args below meth c H locs 0 0 Q (F0 m 55 ls []) := by
  have hx := C.1
  have hb := C.2.1
  unfold qX0_stirAdvised_J55 at hq
  obtain ⟨x6_1, ex6_1⟩ : ∃ y : Int32, y = x6 + 1 := ⟨_, rfl⟩
  replace hq := hq _ ex6_1
  refine lv_iinc (v := x6_1) (lv' := [(6, .int x6_1), (0, .ref (g.2.1 23)), (1, .ref (tA g x1)), (2, .ref (vA g x2)), (3, .int x3), (4, .int x4), (5, .int x5)]) hx hb dX0_stirAdvised_55 hl (k := 6) rfl (by rw [ex6_1]; rfl) (by decide) rfl (fun ls hl => ?_)
  refine lv_goto (tgt := 19) hx hb dX0_stirAdvised_58 (by decide) ?_
  exact hk19 _ _ _ _ _ _ _ _ _ _ hW (lv_sub hl [1, 2, 3, 4, 5, 6, 0] rfl) hq
set_option maxHeartbeats 4000000 in
set_option maxRecDepth 100000 in
theorem wX0_stirAdvised_L19 (C : CallFix p m c cX0_stirAdvised 8 s args lwg RX0) (hRf : 8 ≤ R.frames) (hRl : 189 ≤ R.locals) {P : Int32 → XS → Prop} (hret : RetI g.1 (xw g) (xty g) A p l e R s m args below meth c 0 0 Q cX0_stirAdvised P) : ∀ (n : Nat) (σ : XS) (x1 : Fin 3) (x2 : Fin (nV g)) (x3 : Int32) (x4 : Int32) (x5 : Int32) (x6 : Int32) (H : Heap) (locs : List Loc) (ls : Array Slot), WI g.1 (xw g) (xty g) A s σ H locs → lv_has ls 8 [(0, .ref (g.2.1 23)), (1, .ref (tA g x1)), (2, .ref (vA g x2)), (3, .int x3), (4, .int x4), (5, .int x5), (6, .int x6)] → qX0_stirAdvised_L19 g  P n σ x1 x2 x3 x4 x5 x6 → W p l e R s m args below meth c H locs 0 0 Q (F0 m 19 ls []) := by
  have hx := C.1
  have hb := C.2.1
  intro n
  induction n with
  | zero =>
    intro σ x1 x2 x3 x4 x5 x6 H locs ls hW hl hq
    rw [qX0_stirAdvised_L19] at hq
    exact hq.elim
  | succ n ih =>
    intro σ x1 x2 x3 x4 x5 x6 H locs ls hW hl hq
    rw [qX0_stirAdvised_L19] at hq
    refine lv_iload hx hb dX0_stirAdvised_19 (lv_at hl 6 rfl) ?_
    refine lv_bipush (v := 9) hx hb dX0_stirAdvised_21 (by decide) ?_
    refine lv_icmp_gt (tgt := 61) hx hb dX0_stirAdvised_23 (by decide) (fun h => ?_) (fun h => ?_)
    · replace hq := br_pos h hq
      refine lv_iload hx hb dX0_stirAdvised_61 (lv_at hl 4 rfl) ?_
      exact hret _ _ _ _ _ _ dX0_stirAdvised_63 hW hq
    · replace hq := br_neg h hq
      refine lv_aload_n hx hb dX0_stirAdvised_26 rfl (lv_at hl 0 rfl) ?_
      refine xg_X0_16 C hW dX0_stirAdvised_27 ?_
      refine lv_aload_n hx hb dX0_stirAdvised_30 rfl (lv_at hl 1 rfl) ?_
      refine lv_aload_n hx hb dX0_stirAdvised_31 rfl (lv_at hl 2 rfl) ?_
      refine lv_iload hx hb dX0_stirAdvised_32 (lv_at hl 6 rfl) ?_
      refine lv_iload_n hx hb dX0_stirAdvised_34 rfl (lv_at hl 3 rfl) ?_
      refine kX6_leastOf_X0_30 C hW (Nat.le_trans (by decide) hRf) (Nat.le_trans (by decide) hRl) hl.1 (Nat.le_of_ble_eq_true rfl) dX0_stirAdvised_35 hq (fun r_2 σ_1 H locs hq hW => ?_)
      refine lv_istore (lv' := [(7, .int r_2), (0, .ref (g.2.1 23)), (1, .ref (tA g x1)), (2, .ref (vA g x2)), (3, .int x3), (4, .int x4), (5, .int x5), (6, .int x6)]) hx hb dX0_stirAdvised_38 hl (by decide) rfl (fun ls hl => ?_)
      refine lv_iload hx hb dX0_stirAdvised_40 (lv_at hl 0 rfl) ?_
      refine lv_iload hx hb dX0_stirAdvised_42 (lv_at hl 6 rfl) ?_
      refine lv_icmp_le (tgt := 55) hx hb dX0_stirAdvised_44 (by decide) (fun h => ?_) (fun h => ?_)
      · replace hq := br_pos h hq
        exact wX0_stirAdvised_J55 C hRf hRl hret ih hW (lv_sub hl [1, 2, 3, 4, 5, 6, 7] rfl) hq
      · replace hq := br_neg h hq
        refine lv_iload hx hb dX0_stirAdvised_47 (lv_at hl 0 rfl) ?_
        refine lv_istore (lv' := [(5, .int r_2), (7, .int r_2), (0, .ref (g.2.1 23)), (1, .ref (tA g x1)), (2, .ref (vA g x2)), (3, .int x3), (4, .int x4), (6, .int x6)]) hx hb dX0_stirAdvised_49 hl (by decide) rfl (fun ls hl => ?_)
        refine lv_iload hx hb dX0_stirAdvised_51 (lv_at hl 7 rfl) ?_
        refine lv_istore (lv' := [(4, .int x6), (5, .int r_2), (7, .int r_2), (0, .ref (g.2.1 23)), (1, .ref (tA g x1)), (2, .ref (vA g x2)), (3, .int x3), (6, .int x6)]) hx hb dX0_stirAdvised_53 hl (by decide) rfl (fun ls hl => ?_)
        exact wX0_stirAdvised_J55 C hRf hRl hret ih hW (lv_sub hl [3, 4, 5, 6, 0, 1, 7] rfl) hq
set_option maxHeartbeats 4000000 in
set_option maxRecDepth 100000 in
theorem wX0_stirAdvised (C : CallFix p m c cX0_stirAdvised 8 s args lwg RX0) (hRf : 8 ≤ R.frames) (hRl : 189 ≤ R.locals) {P : Int32 → XS → Prop} (hret : RetI g.1 (xw g) (xty g) A p l e R s m args below meth c 0 0 Q cX0_stirAdvised P) {σ : XS} {x1 : Fin 3} {x2 : Fin (nV g)} {x3 : Int32} {H : Heap} {locs : List Loc} {ls : Array Slot} (hW : WI g.1 (xw g) (xty g) A s σ H locs) (hl : lv_has ls 8 [(0, .ref (g.2.1 23)), (1, .ref (tA g x1)), (2, .ref (vA g x2)), (3, .int x3)]) (hq : qX0_stirAdvised g σ x1 x2 x3 P) : W p l e R s m args below meth c H locs 0 0 Q (F0 m 0 ls []) := by
  have hx := C.1
  have hb := C.2.1
  unfold qX0_stirAdvised at hq
  refine lv_iconst (v := 0) hx hb dX0_stirAdvised_0 (by decide) ?_
  refine lv_istore (lv' := [(4, .int 0), (0, .ref (g.2.1 23)), (1, .ref (tA g x1)), (2, .ref (vA g x2)), (3, .int x3)]) hx hb dX0_stirAdvised_1 hl (by decide) rfl (fun ls hl => ?_)
  refine lv_aload_n hx hb dX0_stirAdvised_3 rfl (lv_at hl 1 rfl) ?_
  refine xg_X0_16 C hW dX0_stirAdvised_4 ?_
  refine lv_aload_n hx hb dX0_stirAdvised_7 rfl (lv_at hl 2 rfl) ?_
  refine lv_aload_n hx hb dX0_stirAdvised_8 rfl (lv_at hl 3 rfl) ?_
  refine lv_iconst (v := 0) hx hb dX0_stirAdvised_9 (by decide) ?_
  refine lv_iload_n hx hb dX0_stirAdvised_10 rfl (lv_at hl 4 rfl) ?_
  refine kX6_leastOf_X0_30 C hW (Nat.le_trans (by decide) hRf) (Nat.le_trans (by decide) hRl) hl.1 (Nat.le_of_ble_eq_true rfl) dX0_stirAdvised_11 hq (fun r_2 σ_1 H locs hq hW => ?_)
  refine lv_istore (lv' := [(5, .int r_2), (4, .int 0), (0, .ref (g.2.1 23)), (1, .ref (tA g x1)), (2, .ref (vA g x2)), (3, .int x3)]) hx hb dX0_stirAdvised_14 hl (by decide) rfl (fun ls hl => ?_)
  refine lv_iconst (v := 1) hx hb dX0_stirAdvised_16 (by decide) ?_
  refine lv_istore (lv' := [(6, .int 1), (5, .int r_2), (4, .int 0), (0, .ref (g.2.1 23)), (1, .ref (tA g x1)), (2, .ref (vA g x2)), (3, .int x3)]) hx hb dX0_stirAdvised_17 hl (by decide) rfl (fun ls hl => ?_)
  obtain ⟨f19, hq⟩ := hq
  exact wX0_stirAdvised_L19 C hRf hRl hret f19 _ _ _ _ _ _ _ _ _ _ hW (lv_sub hl [3, 4, 5, 6, 2, 1, 0] rfl) hq
set_option maxHeartbeats 4000000 in
set_option maxRecDepth 100000 in
theorem mX0_stirAdvised {l : Launch} {g : XG} {σ : XS} {x1 : Fin 3} {x2 : Fin (nV g)} {x3 : Int32} {P : Int32 → XS → Prop} (hq : qX0_stirAdvised g σ x1 x2 x3 P) (sz : Nat) : Met l yX0_stirAdvised (cws yX0_stirAdvised cX0_stirAdvised 8 (some .int)) ({ frames := 8, cells := 0, slots := 0, locals := 189 } : Room) (va_Pc [.ref (g.2.1 23), .ref (tA g x1), .ref (vA g x2), .int x3] (WP g.1 (xw g) (xty g) σ sz)) (va_Qi P (WB g.1 (xw g) (xty g) σ sz) (va_A (xw g σ) sz)) 0 0 (va_A (xw g σ) sz) :=
  w_enter (by decide) (Nat.le_of_ble_eq_true rfl) (fun p e s m args below meth c ls C hr hk hn hs hW hl => wX0_stirAdvised C (Nat.le_refl _) (Nat.le_refl _) (fun pc ls v σ H locs hd hW hq => w_iret C hs hr hk hW hd hq) hW hl hq)
set_option maxHeartbeats 4000000 in
set_option maxRecDepth 100000 in
theorem kX0_stirAdvised_X10_206 (C : CallFix p m c cc nL s args lwg RX10) {σ : XS} (hW : WI g.1 (xw g) (xty g) A s σ H locs) (hRf : 9 ≤ R.frames) (hRl : 216 ≤ R.locals) (hls : ls.size = nL) (hro : (rest.map fun v => v.category).sum ≤ 8) {x1 : Fin 3} {x2 : Fin (nV g)} {x3 : Int32} (hd : decode cc pc = .ok (.invokevirtual 206, 3)) {P : Int32 → XS → Prop} (hq : qX0_stirAdvised g σ x1 x2 x3 P) (kk : ∀ (r : Int32) (σ1 : XS) (H : Heap) (locs : List Loc), P r σ1 → WI g.1 (xw g) (xty g) A s σ1 H locs → W p l e R s m args below meth c H locs 0 0 Q (F0 m (pc + 3) ls (.int r :: rest))) : W p l e R s m args below meth c H locs 0 0 Q (F0 m pc ls (.int x3 :: .ref (vA g x2) :: .ref (tA g x1) :: .ref (g.2.1 23) :: rest)) :=
  w_calli hW (w_runV C hW (mX0_stirAdvised hq _) ⟨(lwg_at 817 (by decide +kernel) rfl), (lwg_at 73 (by decide +kernel) rfl), (lwg_at 814 (by decide +kernel) rfl)⟩ (lwg_at 815 (by decide +kernel) rfl) (lwg_at 816 (by decide +kernel) rfl) (np := 3) (by decide +kernel) ⟨rfl, rfl⟩ ⟨hRf, hRl⟩ (ci := 1) rfl rfl (q0 := 23) rfl rfl hls rfl hro hd ⟨Nat.zero_le _, Nat.zero_le _⟩) kk
-- X0_fastersOf
set_option maxHeartbeats 4000000 in
set_option maxRecDepth 100000 in
theorem wX0_fastersOf_L17 (C : CallFix p m c cX0_fastersOf 6 s args lwg RX0) (hRf : 1 ≤ R.frames) (hRl : 20 ≤ R.locals) {P : Int32 → XS → Prop} (hret : RetI g.1 (xw g) (xty g) A p l e R s m args below meth c 0 0 Q cX0_fastersOf P) : ∀ (n : Nat) (σ : XS) (x1 : Int32) (x2 : Int32) (x3 : Int32) (x4 : Int32) (x5 : Int32) (H : Heap) (locs : List Loc) (ls : Array Slot), WI g.1 (xw g) (xty g) A s σ H locs → lv_has ls 6 [(0, .ref (g.2.1 23)), (1, .int x1), (2, .int x2), (3, .int x3), (4, .int x4), (5, .int x5)] → qX0_fastersOf_L17 g  P n σ x1 x2 x3 x4 x5 → W p l e R s m args below meth c H locs 0 0 Q (F0 m 17 ls []) := by
  have hx := C.1
  have hb := C.2.1
  intro n
  induction n with
  | zero =>
    intro σ x1 x2 x3 x4 x5 H locs ls hW hl hq
    rw [qX0_fastersOf_L17] at hq
    exact hq.elim
  | succ n ih =>
    intro σ x1 x2 x3 x4 x5 H locs ls hW hl hq
    rw [qX0_fastersOf_L17] at hq
    refine lv_iload hx hb dX0_fastersOf_17 (lv_at hl 5 rfl) ?_
    refine lv_iload_n hx hb dX0_fastersOf_19 rfl (lv_at hl 2 rfl) ?_
    refine lv_icmp_ge (tgt := 56) hx hb dX0_fastersOf_20 (by decide) (fun h => ?_) (fun h => ?_)
    · replace hq := br_pos h hq
      refine lv_iload hx hb dX0_fastersOf_56 (lv_at hl 4 rfl) ?_
      exact hret _ _ _ _ _ _ dX0_fastersOf_58 hW hq
    · replace hq := br_neg h hq
      refine lv_iload_n hx hb dX0_fastersOf_23 rfl (lv_at hl 3 rfl) ?_
      refine lv_if_le (tgt := 56) hx hb dX0_fastersOf_24 (by decide) (fun h => ?_) (fun h => ?_)
      · replace hq := br_pos h hq
        refine lv_iload hx hb dX0_fastersOf_56 (lv_at hl 4 rfl) ?_
        exact hret _ _ _ _ _ _ dX0_fastersOf_58 hW hq
      · replace hq := br_neg h hq
        refine lv_iload hx hb dX0_fastersOf_27 (lv_at hl 4 rfl) ?_
        refine lv_iconst (v := 1) hx hb dX0_fastersOf_29 (by decide) ?_
        refine lv_aload_n hx hb dX0_fastersOf_30 rfl (lv_at hl 0 rfl) ?_
        refine xg_X0_20 C hW dX0_fastersOf_31 ?_
        refine xg_X0_86 C hW dX0_fastersOf_34 ?_
        refine lv_iload_n hx hb dX0_fastersOf_37 rfl (lv_at hl 1 rfl) ?_
        refine lv_iload_n hx hb dX0_fastersOf_38 rfl (lv_at hl 2 rfl) ?_
        refine lv_imul hx hb dX0_fastersOf_39 ?_
        refine lv_iload hx hb dX0_fastersOf_40 (lv_at hl 5 rfl) ?_
        refine lv_iadd hx hb dX0_fastersOf_42 ?_
        refine lv_iload_n hx hb dX0_fastersOf_43 rfl (lv_at hl 3 rfl) ?_
        obtain ⟨hne, hq⟩ := hq
        refine w_irem hx hb dX0_fastersOf_44 hne ?_
        obtain ⟨hin1, hq⟩ := hq
        refine xa_T1 C hW hin1 dX0_fastersOf_45 ?_
        refine w_ishl hx hb dX0_fastersOf_46 ?_
        refine lv_ior hx hb dX0_fastersOf_47 ?_
        refine lv_topi (fun x4_2 ex4_2 => ?_)
        replace hq := hq _ ex4_2
        refine lv_istore (lv' := [(4, .int x4_2), (0, .ref (g.2.1 23)), (1, .int x1), (2, .int x2), (3, .int x3), (5, .int x5)]) hx hb dX0_fastersOf_48 hl (by decide) rfl (fun ls hl => ?_)
        obtain ⟨x5_3, ex5_3⟩ : ∃ y : Int32, y = x5 + 1 := ⟨_, rfl⟩
        replace hq := hq _ ex5_3
        refine lv_iinc (v := x5_3) (lv' := [(5, .int x5_3), (4, .int x4_2), (0, .ref (g.2.1 23)), (1, .int x1), (2, .int x2), (3, .int x3)]) hx hb dX0_fastersOf_50 hl (k := 5) rfl (by rw [ex5_3]; rfl) (by decide) rfl (fun ls hl => ?_)
        refine lv_goto (tgt := 17) hx hb dX0_fastersOf_53 (by decide) ?_
        exact ih _ _ _ _ _ _ _ _ _ hW (lv_sub hl [2, 3, 4, 5, 1, 0] rfl) hq
set_option maxHeartbeats 4000000 in
set_option maxRecDepth 100000 in
theorem wX0_fastersOf (C : CallFix p m c cX0_fastersOf 6 s args lwg RX0) (hRf : 1 ≤ R.frames) (hRl : 20 ≤ R.locals) {P : Int32 → XS → Prop} (hret : RetI g.1 (xw g) (xty g) A p l e R s m args below meth c 0 0 Q cX0_fastersOf P) {σ : XS} {x1 : Int32} {x2 : Int32} {H : Heap} {locs : List Loc} {ls : Array Slot} (hW : WI g.1 (xw g) (xty g) A s σ H locs) (hl : lv_has ls 6 [(0, .ref (g.2.1 23)), (1, .int x1), (2, .int x2)]) (hq : qX0_fastersOf g σ x1 x2 P) : W p l e R s m args below meth c H locs 0 0 Q (F0 m 0 ls []) := by
  have hx := C.1
  have hb := C.2.1
  unfold qX0_fastersOf at hq
  refine lv_aload_n hx hb dX0_fastersOf_0 rfl (lv_at hl 0 rfl) ?_
  refine xg_X0_20 C hW dX0_fastersOf_1 ?_
  refine xg_X0_36 C hW dX0_fastersOf_4 ?_
  refine xsiz_H_X0_42 C hW (Nat.le_trans (by decide) hRf) (Nat.le_trans (by decide) hRl) hl.1 (Nat.le_of_ble_eq_true rfl) dX0_fastersOf_7 (fun H locs hW => ?_)
  refine lv_topi (fun x3_1 ex3_1 => ?_)
  replace hq := hq _ ex3_1
  refine lv_istore_n (lv' := [(3, .int x3_1), (0, .ref (g.2.1 23)), (1, .int x1), (2, .int x2)]) hx hb dX0_fastersOf_10 rfl hl (by decide) rfl (fun ls hl => ?_)
  refine lv_iconst (v := 0) hx hb dX0_fastersOf_11 (by decide) ?_
  refine lv_istore (lv' := [(4, .int 0), (3, .int x3_1), (0, .ref (g.2.1 23)), (1, .int x1), (2, .int x2)]) hx hb dX0_fastersOf_12 hl (by decide) rfl (fun ls hl => ?_)
  refine lv_iconst (v := 0) hx hb dX0_fastersOf_14 (by decide) ?_
  refine lv_istore (lv' := [(5, .int 0), (4, .int 0), (3, .int x3_1), (0, .ref (g.2.1 23)), (1, .int x1), (2, .int x2)]) hx hb dX0_fastersOf_15 hl (by decide) rfl (fun ls hl => ?_)
  obtain ⟨f17, hq⟩ := hq
  exact wX0_fastersOf_L17 C hRf hRl hret f17 _ _ _ _ _ _ _ _ _ hW (lv_sub hl [3, 4, 5, 2, 1, 0] rfl) hq
set_option maxHeartbeats 4000000 in
set_option maxRecDepth 100000 in
theorem mX0_fastersOf {l : Launch} {g : XG} {σ : XS} {x1 : Int32} {x2 : Int32} {P : Int32 → XS → Prop} (hq : qX0_fastersOf g σ x1 x2 P) (sz : Nat) : Met l yX0_fastersOf (cws yX0_fastersOf cX0_fastersOf 6 (some .int)) ({ frames := 1, cells := 0, slots := 0, locals := 20 } : Room) (va_Pc [.ref (g.2.1 23), .int x1, .int x2] (WP g.1 (xw g) (xty g) σ sz)) (va_Qi P (WB g.1 (xw g) (xty g) σ sz) (va_A (xw g σ) sz)) 0 0 (va_A (xw g σ) sz) :=
  w_enter (by decide) (Nat.le_of_ble_eq_true rfl) (fun p e s m args below meth c ls C hr hk hn hs hW hl => wX0_fastersOf C (Nat.le_refl _) (Nat.le_refl _) (fun pc ls v σ H locs hd hW hq => w_iret C hs hr hk hW hd hq) hW hl hq)
set_option maxHeartbeats 4000000 in
set_option maxRecDepth 100000 in
theorem kX0_fastersOf_X0_56 (C : CallFix p m c cc nL s args lwg RX0) {σ : XS} (hW : WI g.1 (xw g) (xty g) A s σ H locs) (hRf : 2 ≤ R.frames) (hRl : 45 ≤ R.locals) (hls : ls.size = nL) (hro : (rest.map fun v => v.category).sum ≤ 8) {x1 : Int32} {x2 : Int32} (hd : decode cc pc = .ok (.invokevirtual 56, 3)) {P : Int32 → XS → Prop} (hq : qX0_fastersOf g σ x1 x2 P) (kk : ∀ (r : Int32) (σ1 : XS) (H : Heap) (locs : List Loc), P r σ1 → WI g.1 (xw g) (xty g) A s σ1 H locs → W p l e R s m args below meth c H locs 0 0 Q (F0 m (pc + 3) ls (.int r :: rest))) : W p l e R s m args below meth c H locs 0 0 Q (F0 m pc ls (.int x2 :: .int x1 :: .ref (g.2.1 23) :: rest)) :=
  w_calli hW (w_runV C hW (mX0_fastersOf hq _) ⟨(lwg_at 840 (by decide +kernel) rfl), (lwg_at 73 (by decide +kernel) rfl), (lwg_at 837 (by decide +kernel) rfl)⟩ (lwg_at 839 (by decide +kernel) rfl) (lwg_at 20 (by decide +kernel) rfl) (np := 2) (by decide +kernel) ⟨rfl, rfl⟩ ⟨hRf, hRl⟩ (ci := 1) rfl rfl (q0 := 23) rfl rfl hls rfl hro hd ⟨Nat.zero_le _, Nat.zero_le _⟩) kk
-- X6_wholeDay
set_option maxHeartbeats 4000000 in
set_option maxRecDepth 100000 in
theorem wX6_wholeDay (C : CallFix p m c cX6_wholeDay 5 s args lwg RX6) (hRf : 7 ≤ R.frames) (hRl : 165 ≤ R.locals) {P : XS → Prop} (hret : RetV g.1 (xw g) (xty g) A p l e R s m args below meth c 0 0 Q cX6_wholeDay P) {σ : XS} {x1 : Fin 3} {x2 : Fin (nV g)} {x3 : Int32} {x4 : Int32} {H : Heap} {locs : List Loc} {ls : Array Slot} (hW : WI g.1 (xw g) (xty g) A s σ H locs) (hl : lv_has ls 5 [(0, .ref (g.2.1 17)), (1, .ref (tA g x1)), (2, .ref (vA g x2)), (3, .int x3), (4, .int x4)]) (hq : qX6_wholeDay g σ x1 x2 x3 x4 P) : W p l e R s m args below meth c H locs 0 0 Q (F0 m 0 ls []) := by
  have hx := C.1
  have hb := C.2.1
  unfold qX6_wholeDay at hq
  refine lv_aload_n hx hb dX6_wholeDay_0 rfl (lv_at hl 0 rfl) ?_
  refine lv_aload_n hx hb dX6_wholeDay_1 rfl (lv_at hl 1 rfl) ?_
  refine kX6_begin_X6_70 C hW (Nat.le_trans (by decide) hRf) (Nat.le_trans (by decide) hRl) hl.1 (Nat.le_of_ble_eq_true rfl) dX6_wholeDay_2 hq (fun σ_1 H locs hq hW => ?_)
  refine lv_aload_n hx hb dX6_wholeDay_5 rfl (lv_at hl 0 rfl) ?_
  refine lv_aload_n hx hb dX6_wholeDay_6 rfl (lv_at hl 2 rfl) ?_
  refine lv_aload_n hx hb dX6_wholeDay_7 rfl (lv_at hl 2 rfl) ?_
  refine xg_X6_74 C hW dX6_wholeDay_8 ?_
  refine lv_iload_n hx hb dX6_wholeDay_11 rfl (lv_at hl 3 rfl) ?_
  refine lv_iload hx hb dX6_wholeDay_12 (lv_at hl 4 rfl) ?_
  refine lv_sipush (v := 300) hx hb dX6_wholeDay_14 (by decide) ?_
  refine kX6_goRound_X6_77 C hW (Nat.le_trans (by decide) hRf) (Nat.le_trans (by decide) hRl) hl.1 (Nat.le_of_ble_eq_true rfl) dX6_wholeDay_17 hq (fun σ_2 H locs hq hW => ?_)
  exact hret _ _ _ _ _ dX6_wholeDay_20 hW hq
set_option maxHeartbeats 4000000 in
set_option maxRecDepth 100000 in
theorem mX6_wholeDay {l : Launch} {g : XG} {σ : XS} {x1 : Fin 3} {x2 : Fin (nV g)} {x3 : Int32} {x4 : Int32} {P : XS → Prop} (hq : qX6_wholeDay g σ x1 x2 x3 x4 P) (sz : Nat) : Met l yX6_wholeDay (cws yX6_wholeDay cX6_wholeDay 5 none) ({ frames := 7, cells := 0, slots := 0, locals := 165 } : Room) (va_Pc [.ref (g.2.1 17), .ref (tA g x1), .ref (vA g x2), .int x3, .int x4] (WP g.1 (xw g) (xty g) σ sz)) (va_Qv P (WB g.1 (xw g) (xty g) σ sz) (va_A (xw g σ) sz)) 0 0 (va_A (xw g σ) sz) :=
  w_enter (by decide) (Nat.le_of_ble_eq_true rfl) (fun p e s m args below meth c ls C hr hk hn hs hW hl => wX6_wholeDay C (Nat.le_refl _) (Nat.le_refl _) (fun pc ls σ H locs hd hW hq => w_vret C hs hr hk hW hd hq) hW hl hq)
set_option maxHeartbeats 4000000 in
set_option maxRecDepth 100000 in
theorem kX6_wholeDay_X10_163 (C : CallFix p m c cc nL s args lwg RX10) {σ : XS} (hW : WI g.1 (xw g) (xty g) A s σ H locs) (hRf : 8 ≤ R.frames) (hRl : 189 ≤ R.locals) (hls : ls.size = nL) (hro : (rest.map fun v => v.category).sum ≤ 8) {x1 : Fin 3} {x2 : Fin (nV g)} {x3 : Int32} {x4 : Int32} (hd : decode cc pc = .ok (.invokevirtual 163, 3)) {P : XS → Prop} (hq : qX6_wholeDay g σ x1 x2 x3 x4 P) (kk : ∀ (σ1 : XS) (H : Heap) (locs : List Loc), P σ1 → WI g.1 (xw g) (xty g) A s σ1 H locs → W p l e R s m args below meth c H locs 0 0 Q (F0 m (pc + 3) ls rest)) : W p l e R s m args below meth c H locs 0 0 Q (F0 m pc ls (.int x4 :: .int x3 :: .ref (vA g x2) :: .ref (tA g x1) :: .ref (g.2.1 17) :: rest)) :=
  w_callv hW (w_runV C hW (mX6_wholeDay hq _) ⟨(lwg_at 633 (by decide +kernel) rfl), (lwg_at 72 (by decide +kernel) rfl), (lwg_at 630 (by decide +kernel) rfl)⟩ (lwg_at 631 (by decide +kernel) rfl) (lwg_at 632 (by decide +kernel) rfl) (np := 4) (by decide +kernel) ⟨rfl, rfl⟩ ⟨hRf, hRl⟩ (ci := 7) rfl rfl (q0 := 17) rfl rfl hls rfl hro hd ⟨Nat.zero_le _, Nat.zero_le _⟩) kk
set_option maxHeartbeats 4000000 in
set_option maxRecDepth 100000 in
theorem kX6_wholeDay_X0_60 (C : CallFix p m c cc nL s args lwg RX0) {σ : XS} (hW : WI g.1 (xw g) (xty g) A s σ H locs) (hRf : 8 ≤ R.frames) (hRl : 189 ≤ R.locals) (hls : ls.size = nL) (hro : (rest.map fun v => v.category).sum ≤ 8) {x1 : Fin 3} {x2 : Fin (nV g)} {x3 : Int32} {x4 : Int32} (hd : decode cc pc = .ok (.invokevirtual 60, 3)) {P : XS → Prop} (hq : qX6_wholeDay g σ x1 x2 x3 x4 P) (kk : ∀ (σ1 : XS) (H : Heap) (locs : List Loc), P σ1 → WI g.1 (xw g) (xty g) A s σ1 H locs → W p l e R s m args below meth c H locs 0 0 Q (F0 m (pc + 3) ls rest)) : W p l e R s m args below meth c H locs 0 0 Q (F0 m pc ls (.int x4 :: .int x3 :: .ref (vA g x2) :: .ref (tA g x1) :: .ref (g.2.1 17) :: rest)) :=
  w_callv hW (w_runV C hW (mX6_wholeDay hq _) ⟨(lwg_at 633 (by decide +kernel) rfl), (lwg_at 72 (by decide +kernel) rfl), (lwg_at 841 (by decide +kernel) rfl)⟩ (lwg_at 631 (by decide +kernel) rfl) (lwg_at 632 (by decide +kernel) rfl) (np := 4) (by decide +kernel) ⟨rfl, rfl⟩ ⟨hRf, hRl⟩ (ci := 7) rfl rfl (q0 := 17) rfl rfl hls rfl hro hd ⟨Nat.zero_le _, Nat.zero_le _⟩) kk
-- X8_endDay
set_option maxHeartbeats 4000000 in
set_option maxRecDepth 100000 in
theorem wX8_endDay_J86 (C : CallFix p m c cX8_endDay 5 s args lwg RX8) (hRf : 3 ≤ R.frames) (hRl : 64 ≤ R.locals) {P : Int32 → XS → Prop} (hret : RetI g.1 (xw g) (xty g) A p l e R s m args below meth c 0 0 Q cX8_endDay P) {k4 : XS → Fin 3 → Fin 11 → Int32 → Int32 → Prop} (hk4 : ∀ (σ : XS) (x0 : Fin 3) (x1 : Fin 11) (x2 : Int32) (x3 : Int32) (H : Heap) (locs : List Loc) (ls : Array Slot), WI g.1 (xw g) (xty g) A s σ H locs → lv_has ls 5 [(0, .ref (tA g x0)), (1, .ref (rA g x1)), (2, .int x2), (3, .int x3)] → k4 σ x0 x1 x2 x3 → W p l e R s m args below meth c H locs 0 0 Q (F0 m 4 ls [])) {σ : XS} {x0 : Fin 3} {x1 : Fin 11} {x2 : Int32} {x3 : Int32} {H : Heap} {locs : List Loc} {ls : Array Slot} (hW : WI g.1 (xw g) (xty g) A s σ H locs) (hl : lv_has ls 5 [(0, .ref (tA g x0)), (1, .ref (rA g x1)), (2, .int x2), (3, .int x3)]) (hq : qX8_endDay_J86 g k4 P σ x0 x1 x2 x3) : W p l e R s m args below meth c H locs 0 0 Q (F0 m 86 ls []) := by
  have hx := C.1
  have hb := C.2.1
  unfold qX8_endDay_J86 at hq
  obtain ⟨x3_1, ex3_1⟩ : ∃ y : Int32, y = x3 + 1 := ⟨_, rfl⟩
  replace hq := hq _ ex3_1
  refine lv_iinc (v := x3_1) (lv' := [(3, .int x3_1), (0, .ref (tA g x0)), (1, .ref (rA g x1)), (2, .int x2)]) hx hb dX8_endDay_86 hl (k := 3) rfl (by rw [ex3_1]; rfl) (by decide) rfl (fun ls hl => ?_)
  refine lv_goto (tgt := 4) hx hb dX8_endDay_89 (by decide) ?_
  exact hk4 _ _ _ _ _ _ _ _ hW (lv_sub hl [1, 2, 3, 0] rfl) hq
set_option maxHeartbeats 4000000 in
set_option maxRecDepth 100000 in
theorem wX8_endDay_J69 (C : CallFix p m c cX8_endDay 5 s args lwg RX8) (hRf : 3 ≤ R.frames) (hRl : 64 ≤ R.locals) {P : Int32 → XS → Prop} (hret : RetI g.1 (xw g) (xty g) A p l e R s m args below meth c 0 0 Q cX8_endDay P) {k4 : XS → Fin 3 → Fin 11 → Int32 → Int32 → Prop} (hk4 : ∀ (σ : XS) (x0 : Fin 3) (x1 : Fin 11) (x2 : Int32) (x3 : Int32) (H : Heap) (locs : List Loc) (ls : Array Slot), WI g.1 (xw g) (xty g) A s σ H locs → lv_has ls 5 [(0, .ref (tA g x0)), (1, .ref (rA g x1)), (2, .int x2), (3, .int x3)] → k4 σ x0 x1 x2 x3 → W p l e R s m args below meth c H locs 0 0 Q (F0 m 4 ls [])) {σ : XS} {x0 : Fin 3} {x1 : Fin 11} {x2 : Int32} {x3 : Int32} {x4 : Int32} {H : Heap} {locs : List Loc} {ls : Array Slot} (hW : WI g.1 (xw g) (xty g) A s σ H locs) (hl : lv_has ls 5 [(0, .ref (tA g x0)), (1, .ref (rA g x1)), (2, .int x2), (3, .int x3), (4, .int x4)]) (hq : qX8_endDay_J69 g k4 P σ x0 x1 x2 x3 x4) : W p l e R s m args below meth c H locs 0 0 Q (F0 m 69 ls []) := by
  have hx := C.1
  have hb := C.2.1
  unfold qX8_endDay_J69 at hq
  refine lv_aload_n hx hb dX8_endDay_69 rfl (lv_at hl 0 rfl) ?_
  refine xg_X8_9 C hW dX8_endDay_70 ?_
  refine lv_iload_n hx hb dX8_endDay_73 rfl (lv_at hl 3 rfl) ?_
  refine lv_iload hx hb dX8_endDay_74 (lv_at hl 4 rfl) ?_
  refine (fun (K : ∀ v_1 : Int32, v_1 = ((if 0 ≤ x4 then x4 else (-1)) : Int32) → W p l e R s m args below meth c H locs 0 0 Q (F0 m 85 ls (.int v_1 :: [.int x3, .ref (tB g x0 0)]))) => ?_) ?_
  · refine lv_if_ge (tgt := 83) hx hb dX8_endDay_76 (by decide) (fun h76 => ?_) (fun h76 => ?_)
    · refine lv_iload hx hb dX8_endDay_83 (lv_at hl 4 rfl) ?_
      exact K _ (by rw [if_pos h76])
    · refine lv_iconst (v := (-1)) hx hb dX8_endDay_79 (by decide) ?_
      refine lv_goto (tgt := 85) hx hb dX8_endDay_80 (by decide) ?_
      exact K _ (by rw [if_neg h76])
  intro v_1 ev_1
  replace hq := hq _ ev_1
  obtain ⟨hin2, hq⟩ := hq
  refine xs_T0 C hW hin2 dX8_endDay_85 (fun σ_3 H locs eσ_3 hW => ?_)
  replace hq := hq _ eσ_3
  exact wX8_endDay_J86 C hRf hRl hret hk4 hW (lv_sub hl [0, 1, 2, 3] rfl) hq
set_option maxHeartbeats 4000000 in
set_option maxRecDepth 100000 in
theorem wX8_endDay_L4 (C : CallFix p m c cX8_endDay 5 s args lwg RX8) (hRf : 3 ≤ R.frames) (hRl : 64 ≤ R.locals) {P : Int32 → XS → Prop} (hret : RetI g.1 (xw g) (xty g) A p l e R s m args below meth c 0 0 Q cX8_endDay P) : ∀ (n : Nat) (σ : XS) (x0 : Fin 3) (x1 : Fin 11) (x2 : Int32) (x3 : Int32) (H : Heap) (locs : List Loc) (ls : Array Slot), WI g.1 (xw g) (xty g) A s σ H locs → lv_has ls 5 [(0, .ref (tA g x0)), (1, .ref (rA g x1)), (2, .int x2), (3, .int x3)] → qX8_endDay_L4 g  P n σ x0 x1 x2 x3 → W p l e R s m args below meth c H locs 0 0 Q (F0 m 4 ls []) := by
  have hx := C.1
  have hb := C.2.1
  intro n
  induction n with
  | zero =>
    intro σ x0 x1 x2 x3 H locs ls hW hl hq
    rw [qX8_endDay_L4] at hq
    exact hq.elim
  | succ n ih =>
    intro σ x0 x1 x2 x3 H locs ls hW hl hq
    rw [qX8_endDay_L4] at hq
    refine lv_iload_n hx hb dX8_endDay_4 rfl (lv_at hl 3 rfl) ?_
    refine lv_aload_n hx hb dX8_endDay_5 rfl (lv_at hl 0 rfl) ?_
    refine xg_X8_25 C hW dX8_endDay_6 ?_
    refine xsiz_H_X8_47 C hW (Nat.le_trans (by decide) hRf) (Nat.le_trans (by decide) hRl) hl.1 (Nat.le_of_ble_eq_true rfl) dX8_endDay_9 (fun H locs hW => ?_)
    refine lv_icmp_ge (tgt := 92) hx hb dX8_endDay_12 (by decide) (fun h => ?_) (fun h => ?_)
    · replace hq := br_pos h hq
      refine lv_iload_n hx hb dX8_endDay_92 rfl (lv_at hl 2 rfl) ?_
      exact hret _ _ _ _ _ _ dX8_endDay_93 hW hq
    · replace hq := br_neg h hq
      refine lv_aload_n hx hb dX8_endDay_15 rfl (lv_at hl 0 rfl) ?_
      refine lv_iload_n hx hb dX8_endDay_16 rfl (lv_at hl 3 rfl) ?_
      refine kX8_isStarved_X8_55 C hW (Nat.le_trans (by decide) hRf) (Nat.le_trans (by decide) hRl) hl.1 (Nat.le_of_ble_eq_true rfl) dX8_endDay_17 hq (fun r_2 σ_1 H locs hq hW => ?_)
      refine lv_if_eq (tgt := 26) hx hb dX8_endDay_20 (by decide) (fun h => ?_) (fun h => ?_)
      · replace hq := br_pos h hq
        refine lv_aload_n hx hb dX8_endDay_26 rfl (lv_at hl 0 rfl) ?_
        refine xg_X8_9 C hW dX8_endDay_27 ?_
        refine lv_iload_n hx hb dX8_endDay_30 rfl (lv_at hl 3 rfl) ?_
        obtain ⟨hin3, hq⟩ := hq
        refine xa_T0 C hW hin3 dX8_endDay_31 ?_
        refine lv_aload_n hx hb dX8_endDay_32 rfl (lv_at hl 1 rfl) ?_
        refine lv_iload_n hx hb dX8_endDay_33 rfl (lv_at hl 3 rfl) ?_
        refine xa_R C hW hin3 dX8_endDay_34 ?_
        refine lv_iadd hx hb dX8_endDay_35 ?_
        refine lv_bipush (v := 99) hx hb dX8_endDay_36 (by decide) ?_
        refine xm_X8_63 C (Nat.le_trans (by decide) hRf) (Nat.le_trans (by decide) hRl) hl.1 (Nat.le_of_ble_eq_true rfl) dX8_endDay_38 ?_
        refine lv_topi (fun v_4 ev_4 => ?_)
        replace hq := hq _ ev_4
        refine lv_aload_n hx hb dX8_endDay_41 rfl (lv_at hl 0 rfl) ?_
        refine xg_X8_25 C hW dX8_endDay_42 ?_
        refine lv_iload_n hx hb dX8_endDay_45 rfl (lv_at hl 3 rfl) ?_
        obtain ⟨hin6, hq⟩ := hq
        refine xget_H_X8_39 C hW (Nat.le_trans (by decide) hRf) (Nat.le_trans (by decide) hRl) hl.1 (Nat.le_of_ble_eq_true rfl) hin6 dX8_endDay_46 (fun j_5 H locs hj_5 hW => ?_)
        replace hq := hq j_5 hj_5
        refine xc_X8_45 C hW dX8_endDay_49 ?_
        refine xg_X8_69 C hW dX8_endDay_52 ?_
        refine lv_isub hx hb dX8_endDay_55 ?_
        refine lv_topi (fun x4_7 ex4_7 => ?_)
        replace hq := hq _ ex4_7
        refine lv_istore (lv' := [(4, .int x4_7), (0, .ref (tA g x0)), (1, .ref (rA g x1)), (2, .int x2), (3, .int x3)]) hx hb dX8_endDay_56 hl (by decide) rfl (fun ls hl => ?_)
        refine lv_iload hx hb dX8_endDay_58 (lv_at hl 0 rfl) ?_
        refine lv_if_ge (tgt := 69) hx hb dX8_endDay_60 (by decide) (fun h => ?_) (fun h => ?_)
        · replace hq := br_pos h hq
          exact wX8_endDay_J69 C hRf hRl hret ih hW (lv_sub hl [1, 2, 3, 4, 0] rfl) hq
        · replace hq := br_neg h hq
          refine lv_iload_n hx hb dX8_endDay_63 rfl (lv_at hl 3 rfl) ?_
          refine lv_iconst (v := 1) hx hb dX8_endDay_64 (by decide) ?_
          refine lv_iload_n hx hb dX8_endDay_65 rfl (lv_at hl 4 rfl) ?_
          refine w_ishl hx hb dX8_endDay_66 ?_
          refine lv_ior hx hb dX8_endDay_67 ?_
          refine lv_topi (fun x2_8 ex2_8 => ?_)
          replace hq := hq _ ex2_8
          refine lv_istore_n (lv' := [(2, .int x2_8), (4, .int x4_7), (0, .ref (tA g x0)), (1, .ref (rA g x1)), (3, .int x3)]) hx hb dX8_endDay_68 rfl hl (by decide) rfl (fun ls hl => ?_)
          exact wX8_endDay_J69 C hRf hRl hret ih hW (lv_sub hl [2, 3, 0, 4, 1] rfl) hq
      · replace hq := br_neg h hq
        refine lv_goto (tgt := 86) hx hb dX8_endDay_23 (by decide) ?_
        exact wX8_endDay_J86 C hRf hRl hret ih hW hl hq
set_option maxHeartbeats 4000000 in
set_option maxRecDepth 100000 in
theorem wX8_endDay (C : CallFix p m c cX8_endDay 5 s args lwg RX8) (hRf : 3 ≤ R.frames) (hRl : 64 ≤ R.locals) {P : Int32 → XS → Prop} (hret : RetI g.1 (xw g) (xty g) A p l e R s m args below meth c 0 0 Q cX8_endDay P) {σ : XS} {x0 : Fin 3} {x1 : Fin 11} {H : Heap} {locs : List Loc} {ls : Array Slot} (hW : WI g.1 (xw g) (xty g) A s σ H locs) (hl : lv_has ls 5 [(0, .ref (tA g x0)), (1, .ref (rA g x1))]) (hq : qX8_endDay g σ x0 x1 P) : W p l e R s m args below meth c H locs 0 0 Q (F0 m 0 ls []) := by
  have hx := C.1
  have hb := C.2.1
  unfold qX8_endDay at hq
  refine lv_iconst (v := 0) hx hb dX8_endDay_0 (by decide) ?_
  refine lv_istore_n (lv' := [(2, .int 0), (0, .ref (tA g x0)), (1, .ref (rA g x1))]) hx hb dX8_endDay_1 rfl hl (by decide) rfl (fun ls hl => ?_)
  refine lv_iconst (v := 0) hx hb dX8_endDay_2 (by decide) ?_
  refine lv_istore_n (lv' := [(3, .int 0), (2, .int 0), (0, .ref (tA g x0)), (1, .ref (rA g x1))]) hx hb dX8_endDay_3 rfl hl (by decide) rfl (fun ls hl => ?_)
  obtain ⟨f4, hq⟩ := hq
  exact wX8_endDay_L4 C hRf hRl hret f4 _ _ _ _ _ _ _ _ hW (lv_sub hl [2, 3, 1, 0] rfl) hq
set_option maxHeartbeats 4000000 in
set_option maxRecDepth 100000 in
theorem mX8_endDay {l : Launch} {g : XG} {σ : XS} {x0 : Fin 3} {x1 : Fin 11} {P : Int32 → XS → Prop} (hq : qX8_endDay g σ x0 x1 P) (sz : Nat) : Met l yX8_endDay (cws yX8_endDay cX8_endDay 5 (some .int)) ({ frames := 3, cells := 0, slots := 0, locals := 64 } : Room) (va_Pc [.ref (tA g x0), .ref (rA g x1)] (WP g.1 (xw g) (xty g) σ sz)) (va_Qi P (WB g.1 (xw g) (xty g) σ sz) (va_A (xw g σ) sz)) 0 0 (va_A (xw g σ) sz) :=
  w_enter (by decide) (Nat.le_of_ble_eq_true rfl) (fun p e s m args below meth c ls C hr hk hn hs hW hl => wX8_endDay C (Nat.le_refl _) (Nat.le_refl _) (fun pc ls v σ H locs hd hW hq => w_iret C hs hr hk hW hd hq) hW hl hq)
set_option maxHeartbeats 4000000 in
set_option maxRecDepth 100000 in
theorem kX8_endDay_X10_209 (C : CallFix p m c cc nL s args lwg RX10) {σ : XS} (hW : WI g.1 (xw g) (xty g) A s σ H locs) (hRf : 4 ≤ R.frames) (hRl : 88 ≤ R.locals) (hls : ls.size = nL) (hro : (rest.map fun v => v.category).sum ≤ 8) {x0 : Fin 3} {x1 : Fin 11} (hd : decode cc pc = .ok (.invokevirtual 209, 3)) {P : Int32 → XS → Prop} (hq : qX8_endDay g σ x0 x1 P) (kk : ∀ (r : Int32) (σ1 : XS) (H : Heap) (locs : List Loc), P r σ1 → WI g.1 (xw g) (xty g) A s σ1 H locs → W p l e R s m args below meth c H locs 0 0 Q (F0 m (pc + 3) ls (.int r :: rest))) : W p l e R s m args below meth c H locs 0 0 Q (F0 m pc ls (.ref (rA g x1) :: .ref (tA g x0) :: rest)) :=
  w_calli hW (w_runV C hW (mX8_endDay hq _) ⟨(lwg_at 825 (by decide +kernel) rfl), (lwg_at 71 (by decide +kernel) rfl), (lwg_at 822 (by decide +kernel) rfl)⟩ (lwg_at 823 (by decide +kernel) rfl) (lwg_at 824 (by decide +kernel) rfl) (np := 1) (by decide +kernel) ⟨rfl, rfl⟩ ⟨hRf, hRl⟩ (ci := 9) rfl rfl (q0 := 5 + 4 * x0.val) (xw_T g σ x0) rfl hls rfl hro hd ⟨Nat.zero_le _, Nat.zero_le _⟩) kk
set_option maxHeartbeats 4000000 in
set_option maxRecDepth 100000 in
theorem kX8_endDay_X0_74 (C : CallFix p m c cc nL s args lwg RX0) {σ : XS} (hW : WI g.1 (xw g) (xty g) A s σ H locs) (hRf : 4 ≤ R.frames) (hRl : 88 ≤ R.locals) (hls : ls.size = nL) (hro : (rest.map fun v => v.category).sum ≤ 8) {x0 : Fin 3} {x1 : Fin 11} (hd : decode cc pc = .ok (.invokevirtual 74, 3)) {P : Int32 → XS → Prop} (hq : qX8_endDay g σ x0 x1 P) (kk : ∀ (r : Int32) (σ1 : XS) (H : Heap) (locs : List Loc), P r σ1 → WI g.1 (xw g) (xty g) A s σ1 H locs → W p l e R s m args below meth c H locs 0 0 Q (F0 m (pc + 3) ls (.int r :: rest))) : W p l e R s m args below meth c H locs 0 0 Q (F0 m pc ls (.ref (rA g x1) :: .ref (tA g x0) :: rest)) :=
  w_calli hW (w_runV C hW (mX8_endDay hq _) ⟨(lwg_at 825 (by decide +kernel) rfl), (lwg_at 71 (by decide +kernel) rfl), (lwg_at 843 (by decide +kernel) rfl)⟩ (lwg_at 823 (by decide +kernel) rfl) (lwg_at 824 (by decide +kernel) rfl) (np := 1) (by decide +kernel) ⟨rfl, rfl⟩ ⟨hRf, hRl⟩ (ci := 9) rfl rfl (q0 := 5 + 4 * x0.val) (xw_T g σ x0) rfl hls rfl hro hd ⟨Nat.zero_le _, Nat.zero_le _⟩) kk
-- X0_dayOfLoss
set_option maxHeartbeats 4000000 in
set_option maxRecDepth 100000 in
theorem wX0_dayOfLoss_J100 (C : CallFix p m c cX0_dayOfLoss 13 s args lwg RX0) (hRf : 8 ≤ R.frames) (hRl : 189 ≤ R.locals) {P : Int32 → XS → Prop} (hret : RetI g.1 (xw g) (xty g) A p l e R s m args below meth c 0 0 Q cX0_dayOfLoss P) {k28 : XS → Fin (nV g) → Int32 → Int32 → Int32 → Int32 → Int32 → Int32 → Int32 → Prop} (hk28 : ∀ (σ : XS) (x2 : Fin (nV g)) (x4 : Int32) (x5 : Int32) (x6 : Int32) (x7 : Int32) (x8 : Int32) (x9 : Int32) (x10 : Int32) (H : Heap) (locs : List Loc) (ls : Array Slot), WI g.1 (xw g) (xty g) A s σ H locs → lv_has ls 13 [(0, .ref (g.2.1 23)), (2, .ref (vA g x2)), (4, .int x4), (5, .int x5), (6, .int x6), (7, .int x7), (8, .int x8), (9, .int x9), (10, .int x10)] → k28 σ x2 x4 x5 x6 x7 x8 x9 x10 → W p l e R s m args below meth c H locs 0 0 Q (F0 m 28 ls [])) {σ : XS} {x2 : Fin (nV g)} {x4 : Int32} {x5 : Int32} {x6 : Int32} {x7 : Int32} {x8 : Int32} {x9 : Int32} {x10 : Int32} {x11 : Fin 11} {H : Heap} {locs : List Loc} {ls : Array Slot} (hW : WI g.1 (xw g) (xty g) A s σ H locs) (hl : lv_has ls 13 [(0, .ref (g.2.1 23)), (2, .ref (vA g x2)), (4, .int x4), (5, .int x5), (6, .int x6), (7, .int x7), (8, .int x8), (9, .int x9), (10, .int x10), (11, .ref (rA g x11))]) (hq : qX0_dayOfLoss_J100 g k28 P σ x2 x4 x5 x6 x7 x8 x9 x10 x11) : W p l e R s m args below meth c H locs 0 0 Q (F0 m 100 ls []) := by
  have hx := C.1
  have hb := C.2.1
  unfold qX0_dayOfLoss_J100 at hq
  refine lv_aload_n hx hb dX0_dayOfLoss_100 rfl (lv_at hl 0 rfl) ?_
  refine xg_X0_20 C hW dX0_dayOfLoss_101 ?_
  refine lv_aload hx hb dX0_dayOfLoss_104 (lv_at hl 9 rfl) ?_
  refine kX8_endDay_X0_74 C hW (Nat.le_trans (by decide) hRf) (Nat.le_trans (by decide) hRl) hl.1 (Nat.le_of_ble_eq_true rfl) dX0_dayOfLoss_106 hq (fun r_2 σ_1 H locs hq hW => ?_)
  refine lv_istore (lv' := [(12, .int r_2), (0, .ref (g.2.1 23)), (2, .ref (vA g x2)), (4, .int x4), (5, .int x5), (6, .int x6), (7, .int x7), (8, .int x8), (9, .int x9), (10, .int x10), (11, .ref (rA g x11))]) hx hb dX0_dayOfLoss_109 hl (by decide) rfl (fun ls hl => ?_)
  refine lv_iload hx hb dX0_dayOfLoss_111 (lv_at hl 0 rfl) ?_
  refine lv_iload hx hb dX0_dayOfLoss_113 (lv_at hl 5 rfl) ?_
  refine lv_iand hx hb dX0_dayOfLoss_115 ?_
  refine lv_if_eq (tgt := 124) hx hb dX0_dayOfLoss_116 (by decide) (fun h => ?_) (fun h => ?_)
  · replace hq := br_pos h hq
    refine lv_iload hx hb dX0_dayOfLoss_124 (lv_at hl 0 rfl) ?_
    refine (fun (K : ∀ v_3 : Int32, v_3 = ((if r_2 = 0 then x9 else (x10 + 1)) : Int32) → W p l e R s m args below meth c H locs 0 0 Q (F0 m 138 ls (.int v_3 :: []))) => ?_) ?_
    · refine lv_if_eq (tgt := 136) hx hb dX0_dayOfLoss_126 (by decide) (fun h126 => ?_) (fun h126 => ?_)
      · refine lv_iload hx hb dX0_dayOfLoss_136 (lv_at hl 8 rfl) ?_
        exact K _ (by rw [if_pos h126])
      · refine lv_iload hx hb dX0_dayOfLoss_129 (lv_at hl 9 rfl) ?_
        refine lv_iconst (v := 1) hx hb dX0_dayOfLoss_131 (by decide) ?_
        refine lv_iadd hx hb dX0_dayOfLoss_132 ?_
        refine lv_goto (tgt := 138) hx hb dX0_dayOfLoss_133 (by decide) ?_
        exact K _ (by rw [if_neg h126])
    intro v_3 ev_3
    replace hq := hq _ ev_3
    refine lv_istore (lv' := [(9, .int v_3), (12, .int r_2), (0, .ref (g.2.1 23)), (2, .ref (vA g x2)), (4, .int x4), (5, .int x5), (6, .int x6), (7, .int x7), (8, .int x8), (10, .int x10), (11, .ref (rA g x11))]) hx hb dX0_dayOfLoss_138 hl (by decide) rfl (fun ls hl => ?_)
    refine lv_aload_n hx hb dX0_dayOfLoss_140 rfl (lv_at hl 2 rfl) ?_
    refine xg_X0_20 C hW dX0_dayOfLoss_141 ?_
    refine lv_iload hx hb dX0_dayOfLoss_144 (lv_at hl 8 rfl) ?_
    refine lv_aload_n hx hb dX0_dayOfLoss_146 rfl (lv_at hl 3 rfl) ?_
    refine xg_X0_78 C hW dX0_dayOfLoss_147 ?_
    refine kX8_seatBeside_X0_82 C hW (Nat.le_trans (by decide) hRf) (Nat.le_trans (by decide) hRl) hl.1 (Nat.le_of_ble_eq_true rfl) dX0_dayOfLoss_150 hq (fun r_5 σ_4 H locs hq hW => ?_)
    refine lv_istore (lv' := [(8, .int r_5), (9, .int v_3), (12, .int r_2), (0, .ref (g.2.1 23)), (2, .ref (vA g x2)), (4, .int x4), (5, .int x5), (6, .int x6), (7, .int x7), (10, .int x10), (11, .ref (rA g x11))]) hx hb dX0_dayOfLoss_153 hl (by decide) rfl (fun ls hl => ?_)
    obtain ⟨x10_6, ex10_6⟩ : ∃ y : Int32, y = x10 + 1 := ⟨_, rfl⟩
    replace hq := hq _ ex10_6
    refine lv_iinc (v := x10_6) (lv' := [(10, .int x10_6), (8, .int r_5), (9, .int v_3), (12, .int r_2), (0, .ref (g.2.1 23)), (2, .ref (vA g x2)), (4, .int x4), (5, .int x5), (6, .int x6), (7, .int x7), (11, .ref (rA g x11))]) hx hb dX0_dayOfLoss_155 hl (k := 9) rfl (by rw [ex10_6]; rfl) (by decide) rfl (fun ls hl => ?_)
    refine lv_goto (tgt := 28) hx hb dX0_dayOfLoss_158 (by decide) ?_
    exact hk28 _ _ _ _ _ _ _ _ _ _ _ _ hW (lv_sub hl [4, 5, 6, 7, 8, 9, 1, 2, 0] rfl) hq
  · replace hq := br_neg h hq
    refine lv_iload hx hb dX0_dayOfLoss_119 (lv_at hl 9 rfl) ?_
    refine lv_iconst (v := 1) hx hb dX0_dayOfLoss_121 (by decide) ?_
    refine lv_iadd hx hb dX0_dayOfLoss_122 ?_
    exact hret _ _ _ _ _ _ dX0_dayOfLoss_123 hW hq
set_option maxHeartbeats 4000000 in
set_option maxRecDepth 100000 in
theorem wX0_dayOfLoss_L28 (C : CallFix p m c cX0_dayOfLoss 13 s args lwg RX0) (hRf : 8 ≤ R.frames) (hRl : 189 ≤ R.locals) {P : Int32 → XS → Prop} (hret : RetI g.1 (xw g) (xty g) A p l e R s m args below meth c 0 0 Q cX0_dayOfLoss P) : ∀ (n : Nat) (σ : XS) (x2 : Fin (nV g)) (x4 : Int32) (x5 : Int32) (x6 : Int32) (x7 : Int32) (x8 : Int32) (x9 : Int32) (x10 : Int32) (H : Heap) (locs : List Loc) (ls : Array Slot), WI g.1 (xw g) (xty g) A s σ H locs → lv_has ls 13 [(0, .ref (g.2.1 23)), (2, .ref (vA g x2)), (4, .int x4), (5, .int x5), (6, .int x6), (7, .int x7), (8, .int x8), (9, .int x9), (10, .int x10)] → qX0_dayOfLoss_L28 g  P n σ x2 x4 x5 x6 x7 x8 x9 x10 → W p l e R s m args below meth c H locs 0 0 Q (F0 m 28 ls []) := by
  have hx := C.1
  have hb := C.2.1
  intro n
  induction n with
  | zero =>
    intro σ x2 x4 x5 x6 x7 x8 x9 x10 H locs ls hW hl hq
    rw [qX0_dayOfLoss_L28] at hq
    exact hq.elim
  | succ n ih =>
    intro σ x2 x4 x5 x6 x7 x8 x9 x10 H locs ls hW hl hq
    rw [qX0_dayOfLoss_L28] at hq
    refine lv_iload hx hb dX0_dayOfLoss_28 (lv_at hl 8 rfl) ?_
    refine lv_iload hx hb dX0_dayOfLoss_30 (lv_at hl 3 rfl) ?_
    refine lv_icmp_ge (tgt := 161) hx hb dX0_dayOfLoss_32 (by decide) (fun h => ?_) (fun h => ?_)
    · replace hq := br_pos h hq
      refine lv_iconst (v := (-1)) hx hb dX0_dayOfLoss_161 (by decide) ?_
      exact hret _ _ _ _ _ _ dX0_dayOfLoss_162 hW hq
    · replace hq := br_neg h hq
      refine lv_iload hx hb dX0_dayOfLoss_35 (lv_at hl 5 rfl) ?_
      refine lv_if_le (tgt := 161) hx hb dX0_dayOfLoss_37 (by decide) (fun h => ?_) (fun h => ?_)
      · replace hq := br_pos h hq
        refine lv_iconst (v := (-1)) hx hb dX0_dayOfLoss_161 (by decide) ?_
        exact hret _ _ _ _ _ _ dX0_dayOfLoss_162 hW hq
      · replace hq := br_neg h hq
        refine lv_aload_n hx hb dX0_dayOfLoss_40 rfl (lv_at hl 0 rfl) ?_
        refine xg_X0_11 C hW dX0_dayOfLoss_41 ?_
        refine lv_iload hx hb dX0_dayOfLoss_44 (lv_at hl 8 rfl) ?_
        refine lv_iload hx hb dX0_dayOfLoss_46 (lv_at hl 5 rfl) ?_
        obtain ⟨hne, hq⟩ := hq
        refine w_irem hx hb dX0_dayOfLoss_48 hne ?_
        obtain ⟨hin1, hq⟩ := hq
        refine xa_O C hW hin1 dX0_dayOfLoss_49 ?_
        refine lv_astore (lv' := [(11, .ref (rA g (arow (jrem x10 x7)))), (0, .ref (g.2.1 23)), (2, .ref (vA g x2)), (4, .int x4), (5, .int x5), (6, .int x6), (7, .int x7), (8, .int x8), (9, .int x9), (10, .int x10)]) hx hb dX0_dayOfLoss_50 hl (by decide) rfl (fun ls hl => ?_)
        refine lv_iload hx hb dX0_dayOfLoss_52 (lv_at hl 9 rfl) ?_
        refine lv_iload hx hb dX0_dayOfLoss_54 (lv_at hl 8 rfl) ?_
        refine lv_isub hx hb dX0_dayOfLoss_56 ?_
        refine lv_iload hx hb dX0_dayOfLoss_57 (lv_at hl 6 rfl) ?_
        refine lv_icmp_ge (tgt := 100) hx hb dX0_dayOfLoss_59 (by decide) (fun h => ?_) (fun h => ?_)
        · replace hq := br_pos h hq
          exact wX0_dayOfLoss_J100 C hRf hRl hret ih hW (lv_sub hl [1, 2, 3, 4, 5, 6, 7, 8, 9, 0] rfl) hq
        · replace hq := br_neg h hq
          refine lv_aload_n hx hb dX0_dayOfLoss_62 rfl (lv_at hl 1 rfl) ?_
          refine xg_X0_16 C hW dX0_dayOfLoss_63 ?_
          refine lv_aload_n hx hb dX0_dayOfLoss_66 rfl (lv_at hl 1 rfl) ?_
          refine xg_X0_20 C hW dX0_dayOfLoss_67 ?_
          refine lv_aload_n hx hb dX0_dayOfLoss_70 rfl (lv_at hl 2 rfl) ?_
          refine lv_iload hx hb dX0_dayOfLoss_71 (lv_at hl 7 rfl) ?_
          refine lv_aload_n hx hb dX0_dayOfLoss_73 rfl (lv_at hl 1 rfl) ?_
          refine lv_iload hx hb dX0_dayOfLoss_74 (lv_at hl 9 rfl) ?_
          refine lv_iload hx hb dX0_dayOfLoss_76 (lv_at hl 3 rfl) ?_
          refine kX0_fastersOf_X0_56 C hW (Nat.le_trans (by decide) hRf) (Nat.le_trans (by decide) hRl) hl.1 (Nat.le_of_ble_eq_true rfl) dX0_dayOfLoss_78 hq (fun r_4 σ_3 H locs hq hW => ?_)
          refine kX6_wholeDay_X0_60 C hW (Nat.le_trans (by decide) hRf) (Nat.le_trans (by decide) hRl) hl.1 (Nat.le_of_ble_eq_true rfl) dX0_dayOfLoss_81 hq (fun σ_5 H locs hq hW => ?_)
          refine lv_aload_n hx hb dX0_dayOfLoss_84 rfl (lv_at hl 1 rfl) ?_
          refine xg_X0_16 C hW dX0_dayOfLoss_85 ?_
          refine xg_X0_64 C hW dX0_dayOfLoss_88 ?_
          refine lv_iconst (v := 0) hx hb dX0_dayOfLoss_91 (by decide) ?_
          refine lv_aload hx hb dX0_dayOfLoss_92 (lv_at hl 0 rfl) ?_
          refine lv_iconst (v := 0) hx hb dX0_dayOfLoss_94 (by decide) ?_
          refine lv_bipush (v := 10) hx hb dX0_dayOfLoss_95 (by decide) ?_
          refine xcp_RR C hW (Nat.le_trans (by decide) hRf) (Nat.le_trans (by decide) hRl) hl.1 (Nat.le_of_ble_eq_true rfl) dX0_dayOfLoss_97 (fun σ_6 H locs eσ_6 hW => ?_)
          replace hq := hq _ eσ_6
          exact wX0_dayOfLoss_J100 C hRf hRl hret ih hW (lv_sub hl [1, 2, 3, 4, 5, 6, 7, 8, 9, 0] rfl) hq
set_option maxHeartbeats 4000000 in
set_option maxRecDepth 100000 in
theorem wX0_dayOfLoss (C : CallFix p m c cX0_dayOfLoss 13 s args lwg RX0) (hRf : 8 ≤ R.frames) (hRl : 189 ≤ R.locals) {P : Int32 → XS → Prop} (hret : RetI g.1 (xw g) (xty g) A p l e R s m args below meth c 0 0 Q cX0_dayOfLoss P) {σ : XS} {x1 : Fin 3} {x2 : Fin (nV g)} {x3 : Int32} {x4 : Int32} {x5 : Int32} {x6 : Int32} {H : Heap} {locs : List Loc} {ls : Array Slot} (hW : WI g.1 (xw g) (xty g) A s σ H locs) (hl : lv_has ls 13 [(0, .ref (g.2.1 23)), (1, .ref (tA g x1)), (2, .ref (vA g x2)), (3, .int x3), (4, .int x4), (5, .int x5), (6, .int x6)]) (hq : qX0_dayOfLoss g σ x1 x2 x3 x4 x5 x6 P) : W p l e R s m args below meth c H locs 0 0 Q (F0 m 0 ls []) := by
  have hx := C.1
  have hb := C.2.1
  unfold qX0_dayOfLoss at hq
  refine lv_aload_n hx hb dX0_dayOfLoss_0 rfl (lv_at hl 1 rfl) ?_
  refine xg_X0_36 C hW dX0_dayOfLoss_1 ?_
  refine xsiz_H_X0_42 C hW (Nat.le_trans (by decide) hRf) (Nat.le_trans (by decide) hRl) hl.1 (Nat.le_of_ble_eq_true rfl) dX0_dayOfLoss_4 (fun H locs hW => ?_)
  refine lv_topi (fun x7_1 ex7_1 => ?_)
  replace hq := hq _ ex7_1
  refine lv_istore (lv' := [(7, .int x7_1), (0, .ref (g.2.1 23)), (1, .ref (tA g x1)), (2, .ref (vA g x2)), (3, .int x3), (4, .int x4), (5, .int x5), (6, .int x6)]) hx hb dX0_dayOfLoss_7 hl (by decide) rfl (fun ls hl => ?_)
  refine lv_aload_n hx hb dX0_dayOfLoss_9 rfl (lv_at hl 1 rfl) ?_
  refine xg_X0_20 C hW dX0_dayOfLoss_10 ?_
  refine lv_aload_n hx hb dX0_dayOfLoss_13 rfl (lv_at hl 2 rfl) ?_
  refine lv_iload hx hb dX0_dayOfLoss_14 (lv_at hl 0 rfl) ?_
  refine kX8_becomeLike_X0_48 C hW (Nat.le_trans (by decide) hRf) (Nat.le_trans (by decide) hRl) hl.1 (Nat.le_of_ble_eq_true rfl) dX0_dayOfLoss_16 hq (fun σ_2 H locs hq hW => ?_)
  refine lv_iload_n hx hb dX0_dayOfLoss_19 rfl (lv_at hl 4 rfl) ?_
  refine lv_istore (lv' := [(8, .int x3), (7, .int x7_1), (0, .ref (g.2.1 23)), (1, .ref (tA g x1)), (2, .ref (vA g x2)), (3, .int x3), (4, .int x4), (5, .int x5), (6, .int x6)]) hx hb dX0_dayOfLoss_20 hl (by decide) rfl (fun ls hl => ?_)
  refine lv_iconst (v := 0) hx hb dX0_dayOfLoss_22 (by decide) ?_
  refine lv_istore (lv' := [(9, .int 0), (8, .int x3), (7, .int x7_1), (0, .ref (g.2.1 23)), (1, .ref (tA g x1)), (2, .ref (vA g x2)), (3, .int x3), (4, .int x4), (5, .int x5), (6, .int x6)]) hx hb dX0_dayOfLoss_23 hl (by decide) rfl (fun ls hl => ?_)
  refine lv_iconst (v := 0) hx hb dX0_dayOfLoss_25 (by decide) ?_
  refine lv_istore (lv' := [(10, .int 0), (9, .int 0), (8, .int x3), (7, .int x7_1), (0, .ref (g.2.1 23)), (1, .ref (tA g x1)), (2, .ref (vA g x2)), (3, .int x3), (4, .int x4), (5, .int x5), (6, .int x6)]) hx hb dX0_dayOfLoss_26 hl (by decide) rfl (fun ls hl => ?_)
  obtain ⟨f28, hq⟩ := hq
  exact wX0_dayOfLoss_L28 C hRf hRl hret f28 _ _ _ _ _ _ _ _ _ _ _ _ hW (lv_sub hl [4, 6, 8, 9, 10, 3, 2, 1, 0] rfl) hq
set_option maxHeartbeats 4000000 in
set_option maxRecDepth 100000 in
theorem mX0_dayOfLoss {l : Launch} {g : XG} {σ : XS} {x1 : Fin 3} {x2 : Fin (nV g)} {x3 : Int32} {x4 : Int32} {x5 : Int32} {x6 : Int32} {P : Int32 → XS → Prop} (hq : qX0_dayOfLoss g σ x1 x2 x3 x4 x5 x6 P) (sz : Nat) : Met l yX0_dayOfLoss (cws yX0_dayOfLoss cX0_dayOfLoss 13 (some .int)) ({ frames := 8, cells := 0, slots := 0, locals := 189 } : Room) (va_Pc [.ref (g.2.1 23), .ref (tA g x1), .ref (vA g x2), .int x3, .int x4, .int x5, .int x6] (WP g.1 (xw g) (xty g) σ sz)) (va_Qi P (WB g.1 (xw g) (xty g) σ sz) (va_A (xw g σ) sz)) 0 0 (va_A (xw g σ) sz) :=
  w_enter (by decide) (Nat.le_of_ble_eq_true rfl) (fun p e s m args below meth c ls C hr hk hn hs hW hl => wX0_dayOfLoss C (Nat.le_refl _) (Nat.le_refl _) (fun pc ls v σ H locs hd hW hq => w_iret C hs hr hk hW hd hq) hW hl hq)
set_option maxHeartbeats 4000000 in
set_option maxRecDepth 100000 in
theorem kX0_dayOfLoss_X10_216 (C : CallFix p m c cc nL s args lwg RX10) {σ : XS} (hW : WI g.1 (xw g) (xty g) A s σ H locs) (hRf : 9 ≤ R.frames) (hRl : 221 ≤ R.locals) (hls : ls.size = nL) (hro : (rest.map fun v => v.category).sum ≤ 8) {x1 : Fin 3} {x2 : Fin (nV g)} {x3 : Int32} {x4 : Int32} {x5 : Int32} {x6 : Int32} (hd : decode cc pc = .ok (.invokevirtual 216, 3)) {P : Int32 → XS → Prop} (hq : qX0_dayOfLoss g σ x1 x2 x3 x4 x5 x6 P) (kk : ∀ (r : Int32) (σ1 : XS) (H : Heap) (locs : List Loc), P r σ1 → WI g.1 (xw g) (xty g) A s σ1 H locs → W p l e R s m args below meth c H locs 0 0 Q (F0 m (pc + 3) ls (.int r :: rest))) : W p l e R s m args below meth c H locs 0 0 Q (F0 m pc ls (.int x6 :: .int x5 :: .int x4 :: .int x3 :: .ref (vA g x2) :: .ref (tA g x1) :: .ref (g.2.1 23) :: rest)) :=
  w_calli hW (w_runV C hW (mX0_dayOfLoss hq _) ⟨(lwg_at 836 (by decide +kernel) rfl), (lwg_at 73 (by decide +kernel) rfl), (lwg_at 833 (by decide +kernel) rfl)⟩ (lwg_at 834 (by decide +kernel) rfl) (lwg_at 835 (by decide +kernel) rfl) (np := 6) (by decide +kernel) ⟨rfl, rfl⟩ ⟨hRf, hRl⟩ (ci := 1) rfl rfl (q0 := 23) rfl rfl hls rfl hro hd ⟨Nat.zero_le _, Nat.zero_le _⟩) kk
-- X1_kindNumber
set_option maxHeartbeats 4000000 in
set_option maxRecDepth 100000 in
theorem wX1_kindNumber (C : CallFix p m c cX1_kindNumber 1 s args lwg RX1) (hRf : 0 ≤ R.frames) (hRl : 0 ≤ R.locals) {P : Int32 → XS → Prop} (hret : RetI g.1 (xw g) (xty g) A p l e R s m args below meth c 0 0 Q cX1_kindNumber P) {σ : XS} {x0 : Fin (nH g)} {H : Heap} {locs : List Loc} {ls : Array Slot} (hW : WI g.1 (xw g) (xty g) A s σ H locs) (hl : lv_has ls 1 [(0, .ref (hA g x0))]) (hq : qX1_kindNumber g σ x0 P) : W p l e R s m args below meth c H locs 0 0 Q (F0 m 0 ls []) := by
  have hx := C.1
  have hb := C.2.1
  unfold qX1_kindNumber at hq
  refine lv_iconst (v := 2) hx hb dX1_kindNumber_0 (by decide) ?_
  exact hret _ _ _ _ _ _ dX1_kindNumber_1 hW hq
set_option maxHeartbeats 4000000 in
set_option maxRecDepth 100000 in
theorem mX1_kindNumber {l : Launch} {g : XG} {σ : XS} {x0 : Fin (nH g)} {P : Int32 → XS → Prop} (hq : qX1_kindNumber g σ x0 P) (sz : Nat) : Met l yX1_kindNumber (cws yX1_kindNumber cX1_kindNumber 1 (some .int)) ({ frames := 0, cells := 0, slots := 0, locals := 0 } : Room) (va_Pc [.ref (hA g x0)] (WP g.1 (xw g) (xty g) σ sz)) (va_Qi P (WB g.1 (xw g) (xty g) σ sz) (va_A (xw g σ) sz)) 0 0 (va_A (xw g σ) sz) :=
  w_enter (by decide) (Nat.le_of_ble_eq_true rfl) (fun p e s m args below meth c ls C hr hk hn hs hW hl => wX1_kindNumber C (Nat.le_refl _) (Nat.le_refl _) (fun pc ls v σ H locs hd hW hq => w_iret C hs hr hk hW hd hq) hW hl hq)
-- X2_kindNumber
set_option maxHeartbeats 4000000 in
set_option maxRecDepth 100000 in
theorem wX2_kindNumber (C : CallFix p m c cX2_kindNumber 1 s args lwg RX2) (hRf : 0 ≤ R.frames) (hRl : 0 ≤ R.locals) {P : Int32 → XS → Prop} (hret : RetI g.1 (xw g) (xty g) A p l e R s m args below meth c 0 0 Q cX2_kindNumber P) {σ : XS} {x0 : Fin (nH g)} {H : Heap} {locs : List Loc} {ls : Array Slot} (hW : WI g.1 (xw g) (xty g) A s σ H locs) (hl : lv_has ls 1 [(0, .ref (hA g x0))]) (hq : qX2_kindNumber g σ x0 P) : W p l e R s m args below meth c H locs 0 0 Q (F0 m 0 ls []) := by
  have hx := C.1
  have hb := C.2.1
  unfold qX2_kindNumber at hq
  refine lv_iconst (v := 4) hx hb dX2_kindNumber_0 (by decide) ?_
  exact hret _ _ _ _ _ _ dX2_kindNumber_1 hW hq
set_option maxHeartbeats 4000000 in
set_option maxRecDepth 100000 in
theorem mX2_kindNumber {l : Launch} {g : XG} {σ : XS} {x0 : Fin (nH g)} {P : Int32 → XS → Prop} (hq : qX2_kindNumber g σ x0 P) (sz : Nat) : Met l yX2_kindNumber (cws yX2_kindNumber cX2_kindNumber 1 (some .int)) ({ frames := 0, cells := 0, slots := 0, locals := 0 } : Room) (va_Pc [.ref (hA g x0)] (WP g.1 (xw g) (xty g) σ sz)) (va_Qi P (WB g.1 (xw g) (xty g) σ sz) (va_A (xw g σ) sz)) 0 0 (va_A (xw g σ) sz) :=
  w_enter (by decide) (Nat.le_of_ble_eq_true rfl) (fun p e s m args below meth c ls C hr hk hn hs hW hl => wX2_kindNumber C (Nat.le_refl _) (Nat.le_refl _) (fun pc ls v σ H locs hd hW hq => w_iret C hs hr hk hW hd hq) hW hl hq)
-- X3_kindNumber
set_option maxHeartbeats 4000000 in
set_option maxRecDepth 100000 in
theorem wX3_kindNumber (C : CallFix p m c cX3_kindNumber 1 s args lwg RX3) (hRf : 0 ≤ R.frames) (hRl : 0 ≤ R.locals) {P : Int32 → XS → Prop} (hret : RetI g.1 (xw g) (xty g) A p l e R s m args below meth c 0 0 Q cX3_kindNumber P) {σ : XS} {x0 : Fin (nH g)} {H : Heap} {locs : List Loc} {ls : Array Slot} (hW : WI g.1 (xw g) (xty g) A s σ H locs) (hl : lv_has ls 1 [(0, .ref (hA g x0))]) (hq : qX3_kindNumber g σ x0 P) : W p l e R s m args below meth c H locs 0 0 Q (F0 m 0 ls []) := by
  have hx := C.1
  have hb := C.2.1
  unfold qX3_kindNumber at hq
  refine lv_iconst (v := 3) hx hb dX3_kindNumber_0 (by decide) ?_
  exact hret _ _ _ _ _ _ dX3_kindNumber_1 hW hq
set_option maxHeartbeats 4000000 in
set_option maxRecDepth 100000 in
theorem mX3_kindNumber {l : Launch} {g : XG} {σ : XS} {x0 : Fin (nH g)} {P : Int32 → XS → Prop} (hq : qX3_kindNumber g σ x0 P) (sz : Nat) : Met l yX3_kindNumber (cws yX3_kindNumber cX3_kindNumber 1 (some .int)) ({ frames := 0, cells := 0, slots := 0, locals := 0 } : Room) (va_Pc [.ref (hA g x0)] (WP g.1 (xw g) (xty g) σ sz)) (va_Qi P (WB g.1 (xw g) (xty g) σ sz) (va_A (xw g σ) sz)) 0 0 (va_A (xw g σ) sz) :=
  w_enter (by decide) (Nat.le_of_ble_eq_true rfl) (fun p e s m args below meth c ls C hr hk hn hs hW hl => wX3_kindNumber C (Nat.le_refl _) (Nat.le_refl _) (fun pc ls v σ H locs hd hW hq => w_iret C hs hr hk hW hd hq) hW hl hq)
-- X4_kindNumber
set_option maxHeartbeats 4000000 in
set_option maxRecDepth 100000 in
theorem wX4_kindNumber (C : CallFix p m c cX4_kindNumber 1 s args lwg RX4) (hRf : 0 ≤ R.frames) (hRl : 0 ≤ R.locals) {P : Int32 → XS → Prop} (hret : RetI g.1 (xw g) (xty g) A p l e R s m args below meth c 0 0 Q cX4_kindNumber P) {σ : XS} {x0 : Fin (nH g)} {H : Heap} {locs : List Loc} {ls : Array Slot} (hW : WI g.1 (xw g) (xty g) A s σ H locs) (hl : lv_has ls 1 [(0, .ref (hA g x0))]) (hq : qX4_kindNumber g σ x0 P) : W p l e R s m args below meth c H locs 0 0 Q (F0 m 0 ls []) := by
  have hx := C.1
  have hb := C.2.1
  unfold qX4_kindNumber at hq
  refine lv_iconst (v := 0) hx hb dX4_kindNumber_0 (by decide) ?_
  exact hret _ _ _ _ _ _ dX4_kindNumber_1 hW hq
set_option maxHeartbeats 4000000 in
set_option maxRecDepth 100000 in
theorem mX4_kindNumber {l : Launch} {g : XG} {σ : XS} {x0 : Fin (nH g)} {P : Int32 → XS → Prop} (hq : qX4_kindNumber g σ x0 P) (sz : Nat) : Met l yX4_kindNumber (cws yX4_kindNumber cX4_kindNumber 1 (some .int)) ({ frames := 0, cells := 0, slots := 0, locals := 0 } : Room) (va_Pc [.ref (hA g x0)] (WP g.1 (xw g) (xty g) σ sz)) (va_Qi P (WB g.1 (xw g) (xty g) σ sz) (va_A (xw g σ) sz)) 0 0 (va_A (xw g σ) sz) :=
  w_enter (by decide) (Nat.le_of_ble_eq_true rfl) (fun p e s m args below meth c ls C hr hk hn hs hW hl => wX4_kindNumber C (Nat.le_refl _) (Nat.le_refl _) (fun pc ls v σ H locs hd hW hq => w_iret C hs hr hk hW hd hq) hW hl hq)
-- X5_lettersIn
set_option maxHeartbeats 4000000 in
set_option maxRecDepth 100000 in
theorem wX5_lettersIn_J45 (C : CallFix p m c cX5_lettersIn 5 s args lwg RX5) (hRf : 0 ≤ R.frames) (hRl : 0 ≤ R.locals) {P : Int32 → XS → Prop} (hret : RetI g.1 (xw g) (xty g) A p l e R s m args below meth c 0 0 Q cX5_lettersIn P) {σ : XS} {x2 : Int32} {x3 : Int64} {H : Heap} {locs : List Loc} {ls : Array Slot} (hW : WI g.1 (xw g) (xty g) A s σ H locs) (hl : lv_has ls 5 [(2, .int x2), (3, .long x3)]) (hq : qX5_lettersIn_J45 g  P σ x2 x3) : W p l e R s m args below meth c H locs 0 0 Q (F0 m 45 ls []) := by
  have hx := C.1
  have hb := C.2.1
  unfold qX5_lettersIn_J45 at hq
  refine lv_lload_n hx hb dX5_lettersIn_45 rfl (lv_at hl 1 rfl) ?_
  refine lv_lconst (v := 0) hx hb dX5_lettersIn_46 (by decide) ?_
  refine W.lcmp hx hb dX5_lettersIn_47 ?_
  refine lv_if_ne (tgt := 55) hx hb dX5_lettersIn_48 (by decide) (fun h => ?_) (fun h => ?_)
  · replace hq := br_neg h hq
    refine lv_iconst (v := (-1)) hx hb dX5_lettersIn_55 (by decide) ?_
    exact hret _ _ _ _ _ _ dX5_lettersIn_56 hW hq
  · replace hq := br_pos h hq
    refine lv_iload_n hx hb dX5_lettersIn_51 rfl (lv_at hl 0 rfl) ?_
    refine lv_goto (tgt := 56) hx hb dX5_lettersIn_52 (by decide) ?_
    exact hret _ _ _ _ _ _ dX5_lettersIn_56 hW hq
set_option maxHeartbeats 4000000 in
set_option maxRecDepth 100000 in
theorem wX5_lettersIn_L4 (C : CallFix p m c cX5_lettersIn 5 s args lwg RX5) (hRf : 0 ≤ R.frames) (hRl : 0 ≤ R.locals) {P : Int32 → XS → Prop} (hret : RetI g.1 (xw g) (xty g) A p l e R s m args below meth c 0 0 Q cX5_lettersIn P) {e45 : XS → Int32 → Int64 → Prop} (he45 : ∀ (σ : XS) (x2 : Int32) (x3 : Int64) (H : Heap) (locs : List Loc) (ls : Array Slot), WI g.1 (xw g) (xty g) A s σ H locs → lv_has ls 5 [(2, .int x2), (3, .long x3)] → e45 σ x2 x3 → W p l e R s m args below meth c H locs 0 0 Q (F0 m 45 ls [])) : ∀ (n : Nat) (σ : XS) (x2 : Int32) (x3 : Int64) (H : Heap) (locs : List Loc) (ls : Array Slot), WI g.1 (xw g) (xty g) A s σ H locs → lv_has ls 5 [(2, .int x2), (3, .long x3)] → qX5_lettersIn_L4 g e45 P n σ x2 x3 → W p l e R s m args below meth c H locs 0 0 Q (F0 m 4 ls []) := by
  have hx := C.1
  have hb := C.2.1
  intro n
  induction n with
  | zero =>
    intro σ x2 x3 H locs ls hW hl hq
    rw [qX5_lettersIn_L4] at hq
    exact hq.elim
  | succ n ih =>
    intro σ x2 x3 H locs ls hW hl hq
    rw [qX5_lettersIn_L4] at hq
    refine lv_iload_n hx hb dX5_lettersIn_4 rfl (lv_at hl 0 rfl) ?_
    refine lv_bipush (v := 8) hx hb dX5_lettersIn_5 (by decide) ?_
    refine lv_icmp_ge (tgt := 45) hx hb dX5_lettersIn_7 (by decide) (fun h => ?_) (fun h => ?_)
    · replace hq := br_pos h hq
      exact he45 _ _ _ _ _ _ hW hl hq
    · replace hq := br_neg h hq
      refine lv_lload_n hx hb dX5_lettersIn_10 rfl (lv_at hl 1 rfl) ?_
      refine lv_ldc2 (own := RX5) (v := 255) hx hb C.2.2.2.1 (C.2.2.2.2 _ (lwg_at 305 (by decide +kernel) rfl)) dX5_lettersIn_11 ?_
      refine lv_land hx hb dX5_lettersIn_14 ?_
      refine lv_lconst (v := 0) hx hb dX5_lettersIn_15 (by decide) ?_
      refine W.lcmp hx hb dX5_lettersIn_16 ?_
      refine lv_if_eq (tgt := 45) hx hb dX5_lettersIn_17 (by decide) (fun h => ?_) (fun h => ?_)
      · replace hq := br_pos h hq
        exact he45 _ _ _ _ _ _ hW hl hq
      · replace hq := br_neg h hq
        refine lv_lload_n hx hb dX5_lettersIn_20 rfl (lv_at hl 1 rfl) ?_
        refine lv_ldc2 (own := RX5) (v := 255) hx hb C.2.2.2.1 (C.2.2.2.2 _ (lwg_at 305 (by decide +kernel) rfl)) dX5_lettersIn_21 ?_
        refine lv_land hx hb dX5_lettersIn_24 ?_
        refine lv_ldc2 (own := RX5) (v := 126) hx hb C.2.2.2.1 (C.2.2.2.2 _ (lwg_at 306 (by decide +kernel) rfl)) dX5_lettersIn_25 ?_
        refine W.lcmp hx hb dX5_lettersIn_28 ?_
        refine lv_if_le (tgt := 34) hx hb dX5_lettersIn_29 (by decide) (fun h => ?_) (fun h => ?_)
        · replace hq := br_pos h hq
          refine lv_lload_n hx hb dX5_lettersIn_34 rfl (lv_at hl 1 rfl) ?_
          refine lv_bipush (v := 8) hx hb dX5_lettersIn_35 (by decide) ?_
          refine w_lushr hx hb dX5_lettersIn_37 ?_
          refine lv_topl (fun x3_1 ex3_1 => ?_)
          replace hq := hq _ ex3_1
          refine lv_lstore_n (lv' := [(3, .long x3_1), (2, .int x2)]) hx hb dX5_lettersIn_38 rfl hl (by decide) rfl (fun ls hl => ?_)
          obtain ⟨x2_2, ex2_2⟩ : ∃ y : Int32, y = x2 + 1 := ⟨_, rfl⟩
          replace hq := hq _ ex2_2
          refine lv_iinc (v := x2_2) (lv' := [(2, .int x2_2), (3, .long x3_1)]) hx hb dX5_lettersIn_39 hl (k := 1) rfl (by rw [ex2_2]; rfl) (by decide) rfl (fun ls hl => ?_)
          refine lv_goto (tgt := 4) hx hb dX5_lettersIn_42 (by decide) ?_
          exact ih _ _ _ _ _ _ hW hl hq
        · replace hq := br_neg h hq
          refine lv_iconst (v := (-1)) hx hb dX5_lettersIn_32 (by decide) ?_
          exact hret _ _ _ _ _ _ dX5_lettersIn_33 hW hq
set_option maxHeartbeats 4000000 in
set_option maxRecDepth 100000 in
theorem wX5_lettersIn (C : CallFix p m c cX5_lettersIn 5 s args lwg RX5) (hRf : 0 ≤ R.frames) (hRl : 0 ≤ R.locals) {P : Int32 → XS → Prop} (hret : RetI g.1 (xw g) (xty g) A p l e R s m args below meth c 0 0 Q cX5_lettersIn P) {σ : XS} {x0 : Int64} {H : Heap} {locs : List Loc} {ls : Array Slot} (hW : WI g.1 (xw g) (xty g) A s σ H locs) (hl : lv_has ls 5 [(0, .long x0)]) (hq : qX5_lettersIn g σ x0 P) : W p l e R s m args below meth c H locs 0 0 Q (F0 m 0 ls []) := by
  have hx := C.1
  have hb := C.2.1
  unfold qX5_lettersIn at hq
  refine lv_iconst (v := 0) hx hb dX5_lettersIn_0 (by decide) ?_
  refine lv_istore_n (lv' := [(2, .int 0), (0, .long x0)]) hx hb dX5_lettersIn_1 rfl hl (by decide) rfl (fun ls hl => ?_)
  refine lv_lload_n hx hb dX5_lettersIn_2 rfl (lv_at hl 1 rfl) ?_
  refine lv_lstore_n (lv' := [(3, .long x0), (2, .int 0), (0, .long x0)]) hx hb dX5_lettersIn_3 rfl hl (by decide) rfl (fun ls hl => ?_)
  obtain ⟨f4, hq⟩ := hq
  refine wX5_lettersIn_L4 C hRf hRl hret ?_ f4 _ _ _ _ _ _ hW (lv_sub hl [1, 0] rfl) hq
  · intro σ_3 x2_1 x3_2 H locs ls hW hl hq
    exact wX5_lettersIn_J45 C hRf hRl hret  hW hl hq
set_option maxHeartbeats 4000000 in
set_option maxRecDepth 100000 in
theorem mX5_lettersIn {l : Launch} {g : XG} {σ : XS} {x0 : Int64} {P : Int32 → XS → Prop} (hq : qX5_lettersIn g σ x0 P) (sz : Nat) : Met l yX5_lettersIn (cws yX5_lettersIn cX5_lettersIn 5 (some .int)) ({ frames := 0, cells := 0, slots := 0, locals := 0 } : Room) (va_Pc [.long x0] (WP g.1 (xw g) (xty g) σ sz)) (va_Qi P (WB g.1 (xw g) (xty g) σ sz) (va_A (xw g σ) sz)) 0 0 (va_A (xw g σ) sz) :=
  w_enter (by decide) (Nat.le_of_ble_eq_true rfl) (fun p e s m args below meth c ls C hr hk hn hs hW hl => wX5_lettersIn C (Nat.le_refl _) (Nat.le_refl _) (fun pc ls v σ H locs hd hW hq => w_iret C hs hr hk hW hd hq) hW hl hq)
set_option maxHeartbeats 4000000 in
set_option maxRecDepth 100000 in
theorem kX5_lettersIn_X10_60 (C : CallFix p m c cc nL s args lwg RX10) {σ : XS} (hW : WI g.1 (xw g) (xty g) A s σ H locs) (hRf : 1 ≤ R.frames) (hRl : 24 ≤ R.locals) (hls : ls.size = nL) (hro : (rest.map fun v => v.category).sum ≤ 8) {x0 : Int64} (hd : decode cc pc = .ok (.invokestatic 60, 3)) {P : Int32 → XS → Prop} (hq : qX5_lettersIn g σ x0 P) (kk : ∀ (r : Int32) (σ1 : XS) (H : Heap) (locs : List Loc), P r σ1 → WI g.1 (xw g) (xty g) A s σ1 H locs → W p l e R s m args below meth c H locs 0 0 Q (F0 m (pc + 3) ls (.int r :: rest))) : W p l e R s m args below meth c H locs 0 0 Q (F0 m pc ls (.long x0 :: rest)) :=
  w_calli hW (w_runS C hW (mX5_lettersIn hq _) ⟨(lwg_at 304 (by decide +kernel) rfl), (lwg_at 70 (by decide +kernel) rfl), (lwg_at 302 (by decide +kernel) rfl)⟩ (lwg_at 303 (by decide +kernel) rfl) (np := 1) (by decide +kernel) ⟨rfl, rfl⟩ ⟨hRf, hRl⟩ rfl hls rfl hro hd ⟨Nat.zero_le _, Nat.zero_le _⟩) kk
end
