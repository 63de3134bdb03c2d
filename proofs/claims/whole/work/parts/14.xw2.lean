section
variable {p : Program} {l : Launch} {e : Env} {R : Room} {s : State} {m : MethodId} {args : Array Value} {below : List Frame} {meth : Method} {c : Code} {H : Heap} {locs : List Loc} {cells slots : Nat} {Q : State → Prop}
variable {cc : ByteArray} {pc : Nat} {ls : Array Slot} {rest : List Value} {own : String} {nL : Nat}
variable {g : XG} {A : Nat → Prop}
-- X4_givesAway
set_option maxHeartbeats 4000000 in
set_option maxRecDepth 100000 in
theorem wX4_givesAway (C : CallFix p m c cX4_givesAway 2 s args lwg RX4) (hRf : 0 ≤ R.frames) (hRl : 0 ≤ R.locals) {P : Int32 → XS → Prop} (hret : RetZ g.1 (xw g) (xty g) A p l e R s m args below meth c 0 0 Q cX4_givesAway P) {σ : XS} {x0 : Fin (nH g)} {x1 : Int32} {H : Heap} {locs : List Loc} {ls : Array Slot} (hW : WI g.1 (xw g) (xty g) A s σ H locs) (hl : lv_has ls 2 [(0, .ref (hA g x0)), (1, .int x1)]) (hq : qX4_givesAway g σ x0 x1 P) : W p l e R s m args below meth c H locs 0 0 Q (F0 m 0 ls []) := by
  have hx := C.1
  have hb := C.2.1
  unfold qX4_givesAway at hq
  refine lv_iconst (v := 0) hx hb dX4_givesAway_0 (by decide) ?_
  exact hret _ _ _ _ _ _ dX4_givesAway_1 hW isB_0 hq
set_option maxHeartbeats 4000000 in
set_option maxRecDepth 100000 in
theorem mX4_givesAway {l : Launch} {g : XG} {σ : XS} {x0 : Fin (nH g)} {x1 : Int32} {P : Int32 → XS → Prop} (hq : qX4_givesAway g σ x0 x1 P) (sz : Nat) : Met l yX4_givesAway (cws yX4_givesAway cX4_givesAway 2 (some .boolean)) ({ frames := 0, cells := 0, slots := 0, locals := 0 } : Room) (va_Pc [.ref (hA g x0), .int x1] (WP g.1 (xw g) (xty g) σ sz)) (va_Qi P (WB g.1 (xw g) (xty g) σ sz) (va_A (xw g σ) sz)) 0 0 (va_A (xw g σ) sz) :=
  w_enter (by decide) (Nat.le_of_ble_eq_true rfl) (fun p e s m args below meth c ls C hr hk hn hs hW hl => wX4_givesAway C (Nat.le_refl _) (Nat.le_refl _) (fun pc ls v σ H locs hd hW hv hq => w_zret C hs hr hk hW hd hv hq) hW hl hq)
-- X2_givesAway
set_option maxHeartbeats 4000000 in
set_option maxRecDepth 100000 in
theorem wX2_givesAway (C : CallFix p m c cX2_givesAway 2 s args lwg RX2) (hRf : 1 ≤ R.frames) (hRl : 21 ≤ R.locals) {P : Int32 → XS → Prop} (hret : RetZ g.1 (xw g) (xty g) A p l e R s m args below meth c 0 0 Q cX2_givesAway P) {σ : XS} {x0 : Fin (nH g)} {x1 : Int32} {H : Heap} {locs : List Loc} {ls : Array Slot} (hW : WI g.1 (xw g) (xty g) A s σ H locs) (hl : lv_has ls 2 [(0, .ref (hA g x0)), (1, .int x1)]) (hq : qX2_givesAway g σ x0 x1 P) : W p l e R s m args below meth c H locs 0 0 Q (F0 m 0 ls []) := by
  have hx := C.1
  have hb := C.2.1
  unfold qX2_givesAway at hq
  refine lv_aload_n hx hb dX2_givesAway_0 rfl (lv_at hl 0 rfl) ?_
  refine lv_iload_n hx hb dX2_givesAway_1 rfl (lv_at hl 1 rfl) ?_
  obtain ⟨hkd, hq⟩ := hq
  refine kX4_isNth_X2_9 C hW hkd (Nat.le_trans (by decide) hRf) (Nat.le_trans (by decide) hRl) hl.1 (Nat.le_of_ble_eq_true rfl) dX2_givesAway_2 hq (fun r_2 σ_1 H locs hq hW => ?_)
  obtain ⟨hib, hq⟩ := hq
  exact hret _ _ _ _ _ _ dX2_givesAway_5 hW hib hq
set_option maxHeartbeats 4000000 in
set_option maxRecDepth 100000 in
theorem mX2_givesAway {l : Launch} {g : XG} {σ : XS} {x0 : Fin (nH g)} {x1 : Int32} {P : Int32 → XS → Prop} (hq : qX2_givesAway g σ x0 x1 P) (sz : Nat) : Met l yX2_givesAway (cws yX2_givesAway cX2_givesAway 2 (some .boolean)) ({ frames := 1, cells := 0, slots := 0, locals := 21 } : Room) (va_Pc [.ref (hA g x0), .int x1] (WP g.1 (xw g) (xty g) σ sz)) (va_Qi P (WB g.1 (xw g) (xty g) σ sz) (va_A (xw g σ) sz)) 0 0 (va_A (xw g σ) sz) :=
  w_enter (by decide) (Nat.le_of_ble_eq_true rfl) (fun p e s m args below meth c ls C hr hk hn hs hW hl => wX2_givesAway C (Nat.le_refl _) (Nat.le_refl _) (fun pc ls v σ H locs hd hW hv hq => w_zret C hs hr hk hW hd hv hq) hW hl hq)
-- V_givesAway
set_option maxHeartbeats 4000000 in
set_option maxRecDepth 100000 in
theorem kV_givesAway_X6_179 (C : CallFix p m c cc nL s args lwg RX6) {σ : XS} (hW : WI g.1 (xw g) (xty g) A s σ H locs) (hRf : 2 ≤ R.frames) (hRl : 42 ≤ R.locals) (hls : ls.size = nL) (hro : (rest.map fun v => v.category).sum ≤ 8) {x0 : Fin (nH g)} {x1 : Int32} (hd : decode cc pc = .ok (.invokevirtual 179, 3)) {P : Int32 → XS → Prop} (hq : qV_givesAway g σ x0 x1 P) (kk : ∀ (r : Int32) (σ1 : XS) (H : Heap) (locs : List Loc), P r σ1 → WI g.1 (xw g) (xty g) A s σ1 H locs → W p l e R s m args below meth c H locs 0 0 Q (F0 m (pc + 3) ls (.int r :: rest))) : W p l e R s m args below meth c H locs 0 0 Q (F0 m pc ls (.int x1 :: .ref (hA g x0) :: rest)) :=
  fin5 (P := fun kd => hK g x0 = kd → W p l e R s m args below meth c H locs 0 0 Q (F0 m pc ls (.int x1 :: .ref (hA g x0) :: rest))) (hK g x0)
    (fun hk => w_calli hW (w_runU C hW (Cn := "HermitsSpoon$Hermit") (mX4_givesAway (hq.1 hk) _) (va_cwU (owner := "HermitsSpoon$Hermit") (x := ⟨"HermitsSpoon$Hermit", "givesAway", "(I)Z"⟩) 1 C.2.2.2.2 (goodU (lwg_at 712 (by decide +kernel) rfl) (lwg_at 715 (by decide +kernel) rfl) (lwg_at 714 (by decide +kernel) rfl) (lwg_at 713 (by decide +kernel) rfl) (lwg_at 82 (by decide +kernel) rfl) (lwg_at 725 (by decide +kernel) rfl)) rfl rfl rfl rfl (by decide +kernel) ⟨Nat.le_trans (by decide) hRf, Nat.le_trans (by decide) hRl⟩) (ci := kc 0) rfl rfl (q0 := 36 + x0.val) (by rw [← hk]; exact xw_H g σ x0) rfl hls rfl hro hd ⟨Nat.zero_le _, Nat.zero_le _⟩) kk)
    (fun hk => w_calli hW (w_runU C hW (Cn := "HermitsSpoon$Slow") (mX4_givesAway (hq.2.1 hk) _) (va_cwU (owner := "HermitsSpoon$Hermit") (x := ⟨"HermitsSpoon$Hermit", "givesAway", "(I)Z"⟩) 1 C.2.2.2.2 (goodU (lwg_at 712 (by decide +kernel) rfl) (lwg_at 715 (by decide +kernel) rfl) (lwg_at 724 (by decide +kernel) rfl) (lwg_at 713 (by decide +kernel) rfl) (lwg_at 82 (by decide +kernel) rfl) (lwg_at 725 (by decide +kernel) rfl)) rfl rfl rfl rfl (by decide +kernel) ⟨Nat.le_trans (by decide) hRf, Nat.le_trans (by decide) hRl⟩) (ci := kc 1) rfl rfl (q0 := 36 + x0.val) (by rw [← hk]; exact xw_H g σ x0) rfl hls rfl hro hd ⟨Nat.zero_le _, Nat.zero_le _⟩) kk)
    (fun hk => w_calli hW (w_runU C hW (Cn := "HermitsSpoon$Deaf") (mX4_givesAway (hq.2.2.1 hk) _) (va_cwU (owner := "HermitsSpoon$Hermit") (x := ⟨"HermitsSpoon$Hermit", "givesAway", "(I)Z"⟩) 1 C.2.2.2.2 (goodU (lwg_at 712 (by decide +kernel) rfl) (lwg_at 715 (by decide +kernel) rfl) (lwg_at 716 (by decide +kernel) rfl) (lwg_at 713 (by decide +kernel) rfl) (lwg_at 82 (by decide +kernel) rfl) (lwg_at 725 (by decide +kernel) rfl)) rfl rfl rfl rfl (by decide +kernel) ⟨Nat.le_trans (by decide) hRf, Nat.le_trans (by decide) hRl⟩) (ci := kc 2) rfl rfl (q0 := 36 + x0.val) (by rw [← hk]; exact xw_H g σ x0) rfl hls rfl hro hd ⟨Nat.zero_le _, Nat.zero_le _⟩) kk)
    (fun hk => w_calli hW (w_runU C hW (Cn := "HermitsSpoon$Greedy") (mX4_givesAway (hq.2.2.2.1 hk) _) (va_cwU (owner := "HermitsSpoon$Hermit") (x := ⟨"HermitsSpoon$Hermit", "givesAway", "(I)Z"⟩) 1 C.2.2.2.2 (goodU (lwg_at 712 (by decide +kernel) rfl) (lwg_at 715 (by decide +kernel) rfl) (lwg_at 723 (by decide +kernel) rfl) (lwg_at 713 (by decide +kernel) rfl) (lwg_at 82 (by decide +kernel) rfl) (lwg_at 725 (by decide +kernel) rfl)) rfl rfl rfl rfl (by decide +kernel) ⟨Nat.le_trans (by decide) hRf, Nat.le_trans (by decide) hRl⟩) (ci := kc 3) rfl rfl (q0 := 36 + x0.val) (by rw [← hk]; exact xw_H g σ x0) rfl hls rfl hro hd ⟨Nat.zero_le _, Nat.zero_le _⟩) kk)
    (fun hk => w_calli hW (w_runU C hW (Cn := "HermitsSpoon$Feeder") (mX2_givesAway (hq.2.2.2.2 hk) _) (va_cwO (owner := "HermitsSpoon$Hermit") (x := ⟨"HermitsSpoon$Hermit", "givesAway", "(I)Z"⟩) 1 C.2.2.2.2 (goodO (lwg_at 712 (by decide +kernel) rfl) (lwg_at 715 (by decide +kernel) rfl) (lwg_at 713 (by decide +kernel) rfl) (lwg_at 717 (by decide +kernel) rfl) (lwg_at 718 (by decide +kernel) rfl) (lwg_at 86 (by decide +kernel) rfl) (lwg_at 719 (by decide +kernel) rfl)) rfl rfl rfl (b0 := cX4_givesAway) (m0 := 2) (r0 := (some .boolean)) (lwg_at 725 (by decide +kernel) rfl) (by decide +kernel) ⟨Nat.le_trans (by decide) hRf, Nat.le_trans (by decide) hRl⟩) (ci := kc 4) rfl rfl (q0 := 36 + x0.val) (by rw [← hk]; exact xw_H g σ x0) rfl hls rfl hro hd ⟨Nat.zero_le _, Nat.zero_le _⟩) kk)
    rfl
-- X6_firstLayer
set_option maxHeartbeats 4000000 in
set_option maxRecDepth 100000 in
theorem wX6_firstLayer_L2 (C : CallFix p m c cX6_firstLayer 2 s args lwg RX6) (hRf : 0 ≤ R.frames) (hRl : 0 ≤ R.locals) {P : Int32 → XS → Prop} (hret : RetI g.1 (xw g) (xty g) A p l e R s m args below meth c 0 0 Q cX6_firstLayer P) : ∀ (n : Nat) (σ : XS) (x1 : Int32) (H : Heap) (locs : List Loc) (ls : Array Slot), WI g.1 (xw g) (xty g) A s σ H locs → lv_has ls 2 [(0, .ref (g.2.1 17)), (1, .int x1)] → qX6_firstLayer_L2 g  P n σ x1 → W p l e R s m args below meth c H locs 0 0 Q (F0 m 2 ls []) := by
  have hx := C.1
  have hb := C.2.1
  intro n
  induction n with
  | zero =>
    intro σ x1 H locs ls hW hl hq
    rw [qX6_firstLayer_L2] at hq
    exact hq.elim
  | succ n ih =>
    intro σ x1 H locs ls hW hl hq
    rw [qX6_firstLayer_L2] at hq
    refine lv_iload_n hx hb dX6_firstLayer_2 rfl (lv_at hl 1 rfl) ?_
    refine lv_iconst (v := 4) hx hb dX6_firstLayer_3 (by decide) ?_
    refine lv_icmp_ge (tgt := 22) hx hb dX6_firstLayer_4 (by decide) (fun h => ?_) (fun h => ?_)
    · replace hq := br_pos h hq
      refine lv_iload_n hx hb dX6_firstLayer_22 rfl (lv_at hl 1 rfl) ?_
      exact hret _ _ _ _ _ _ dX6_firstLayer_23 hW hq
    · replace hq := br_neg h hq
      refine lv_aload_n hx hb dX6_firstLayer_7 rfl (lv_at hl 0 rfl) ?_
      refine xg_X6_9 C hW dX6_firstLayer_8 ?_
      refine lv_iload_n hx hb dX6_firstLayer_11 rfl (lv_at hl 1 rfl) ?_
      obtain ⟨hin1, hq⟩ := hq
      refine xa_A1 C hW hin1 dX6_firstLayer_12 ?_
      refine lv_if_ne (tgt := 22) hx hb dX6_firstLayer_13 (by decide) (fun h => ?_) (fun h => ?_)
      · replace hq := br_neg h hq
        refine lv_iload_n hx hb dX6_firstLayer_22 rfl (lv_at hl 1 rfl) ?_
        exact hret _ _ _ _ _ _ dX6_firstLayer_23 hW hq
      · replace hq := br_pos h hq
        obtain ⟨x1_2, ex1_2⟩ : ∃ y : Int32, y = x1 + 1 := ⟨_, rfl⟩
        replace hq := hq _ ex1_2
        refine lv_iinc (v := x1_2) (lv' := [(1, .int x1_2), (0, .ref (g.2.1 17))]) hx hb dX6_firstLayer_16 hl (k := 1) rfl (by rw [ex1_2]; rfl) (by decide) rfl (fun ls hl => ?_)
        refine lv_goto (tgt := 2) hx hb dX6_firstLayer_19 (by decide) ?_
        exact ih _ _ _ _ _ hW (lv_sub hl [1, 0] rfl) hq
set_option maxHeartbeats 4000000 in
set_option maxRecDepth 100000 in
theorem wX6_firstLayer (C : CallFix p m c cX6_firstLayer 2 s args lwg RX6) (hRf : 0 ≤ R.frames) (hRl : 0 ≤ R.locals) {P : Int32 → XS → Prop} (hret : RetI g.1 (xw g) (xty g) A p l e R s m args below meth c 0 0 Q cX6_firstLayer P) {σ : XS} {H : Heap} {locs : List Loc} {ls : Array Slot} (hW : WI g.1 (xw g) (xty g) A s σ H locs) (hl : lv_has ls 2 [(0, .ref (g.2.1 17))]) (hq : qX6_firstLayer g σ  P) : W p l e R s m args below meth c H locs 0 0 Q (F0 m 0 ls []) := by
  have hx := C.1
  have hb := C.2.1
  unfold qX6_firstLayer at hq
  refine lv_iconst (v := 0) hx hb dX6_firstLayer_0 (by decide) ?_
  refine lv_istore_n (lv' := [(1, .int 0), (0, .ref (g.2.1 17))]) hx hb dX6_firstLayer_1 rfl hl (by decide) rfl (fun ls hl => ?_)
  obtain ⟨f2, hq⟩ := hq
  exact wX6_firstLayer_L2 C hRf hRl hret f2 _ _ _ _ _ hW (lv_sub hl [1, 0] rfl) hq
set_option maxHeartbeats 4000000 in
set_option maxRecDepth 100000 in
theorem mX6_firstLayer {l : Launch} {g : XG} {σ : XS} {P : Int32 → XS → Prop} (hq : qX6_firstLayer g σ  P) (sz : Nat) : Met l yX6_firstLayer (cws yX6_firstLayer cX6_firstLayer 2 (some .int)) ({ frames := 0, cells := 0, slots := 0, locals := 0 } : Room) (va_Pc [.ref (g.2.1 17)] (WP g.1 (xw g) (xty g) σ sz)) (va_Qi P (WB g.1 (xw g) (xty g) σ sz) (va_A (xw g σ) sz)) 0 0 (va_A (xw g σ) sz) :=
  w_enter (by decide) (Nat.le_of_ble_eq_true rfl) (fun p e s m args below meth c ls C hr hk hn hs hW hl => wX6_firstLayer C (Nat.le_refl _) (Nat.le_refl _) (fun pc ls v σ H locs hd hW hq => w_iret C hs hr hk hW hd hq) hW hl hq)
set_option maxHeartbeats 4000000 in
set_option maxRecDepth 100000 in
theorem kX6_firstLayer_X6_185 (C : CallFix p m c cc nL s args lwg RX6) {σ : XS} (hW : WI g.1 (xw g) (xty g) A s σ H locs) (hRf : 1 ≤ R.frames) (hRl : 21 ≤ R.locals) (hls : ls.size = nL) (hro : (rest.map fun v => v.category).sum ≤ 8) (hd : decode cc pc = .ok (.invokevirtual 185, 3)) {P : Int32 → XS → Prop} (hq : qX6_firstLayer g σ  P) (kk : ∀ (r : Int32) (σ1 : XS) (H : Heap) (locs : List Loc), P r σ1 → WI g.1 (xw g) (xty g) A s σ1 H locs → W p l e R s m args below meth c H locs 0 0 Q (F0 m (pc + 3) ls (.int r :: rest))) : W p l e R s m args below meth c H locs 0 0 Q (F0 m pc ls (.ref (g.2.1 17) :: rest)) :=
  w_calli hW (w_runV C hW (mX6_firstLayer hq _) ⟨(lwg_at 730 (by decide +kernel) rfl), (lwg_at 72 (by decide +kernel) rfl), (lwg_at 727 (by decide +kernel) rfl)⟩ (lwg_at 729 (by decide +kernel) rfl) (lwg_at 16 (by decide +kernel) rfl) (np := 0) (by decide +kernel) ⟨rfl, rfl⟩ ⟨hRf, hRl⟩ (ci := 7) rfl rfl (q0 := 17) rfl rfl hls rfl hro hd ⟨Nat.zero_le _, Nat.zero_le _⟩) kk
-- X6_worthOf
set_option maxHeartbeats 4000000 in
set_option maxRecDepth 100000 in
theorem wX6_worthOf_J37 (C : CallFix p m c cX6_worthOf 5 s args lwg RX6) (hRf : 3 ≤ R.frames) (hRl : 64 ≤ R.locals) {P : Int32 → XS → Prop} (hret : RetI g.1 (xw g) (xty g) A p l e R s m args below meth c 0 0 Q cX6_worthOf P) {σ : XS} {x1 : Int32} {x2 : Int32} {H : Heap} {locs : List Loc} {ls : Array Slot} (hW : WI g.1 (xw g) (xty g) A s σ H locs) (hl : lv_has ls 5 [(0, .ref (g.2.1 17)), (1, .int x1), (2, .int x2)]) (hq : qX6_worthOf_J37 g  P σ x1 x2) : W p l e R s m args below meth c H locs 0 0 Q (F0 m 37 ls []) := by
  have hx := C.1
  have hb := C.2.1
  unfold qX6_worthOf_J37 at hq
  refine lv_iload_n hx hb dX6_worthOf_37 rfl (lv_at hl 1 rfl) ?_
  refine lv_iconst (v := 1) hx hb dX6_worthOf_38 (by decide) ?_
  refine lv_iload_n hx hb dX6_worthOf_39 rfl (lv_at hl 2 rfl) ?_
  refine lv_iadd hx hb dX6_worthOf_40 ?_
  refine lv_imul hx hb dX6_worthOf_41 ?_
  refine lv_topi (fun x4_1 ex4_1 => ?_)
  replace hq := hq _ ex4_1
  refine lv_istore (lv' := [(4, .int x4_1), (0, .ref (g.2.1 17)), (1, .int x1), (2, .int x2)]) hx hb dX6_worthOf_42 hl (by decide) rfl (fun ls hl => ?_)
  refine lv_aload_n hx hb dX6_worthOf_44 rfl (lv_at hl 1 rfl) ?_
  refine xg_X6_44 C hW dX6_worthOf_45 ?_
  refine lv_bipush (v := 20) hx hb dX6_worthOf_48 (by decide) ?_
  refine lv_icmp_ge (tgt := 60) hx hb dX6_worthOf_50 (by decide) (fun h => ?_) (fun h => ?_)
  · replace hq := br_pos h hq
    refine lv_iload hx hb dX6_worthOf_60 (lv_at hl 0 rfl) ?_
    exact hret _ _ _ _ _ _ dX6_worthOf_62 hW hq
  · replace hq := br_neg h hq
    refine lv_iload hx hb dX6_worthOf_53 (lv_at hl 0 rfl) ?_
    refine lv_iconst (v := 2) hx hb dX6_worthOf_55 (by decide) ?_
    refine lv_idiv hx hb dX6_worthOf_56 (by decide) ?_
    refine lv_goto (tgt := 62) hx hb dX6_worthOf_57 (by decide) ?_
    exact hret _ _ _ _ _ _ dX6_worthOf_62 hW hq
set_option maxHeartbeats 4000000 in
set_option maxRecDepth 100000 in
theorem wX6_worthOf (C : CallFix p m c cX6_worthOf 5 s args lwg RX6) (hRf : 3 ≤ R.frames) (hRl : 64 ≤ R.locals) {P : Int32 → XS → Prop} (hret : RetI g.1 (xw g) (xty g) A p l e R s m args below meth c 0 0 Q cX6_worthOf P) {σ : XS} {x1 : Int32} {x2 : Int32} {x3 : Int32} {H : Heap} {locs : List Loc} {ls : Array Slot} (hW : WI g.1 (xw g) (xty g) A s σ H locs) (hl : lv_has ls 5 [(0, .ref (g.2.1 17)), (1, .int x1), (2, .int x2), (3, .int x3)]) (hq : qX6_worthOf g σ x1 x2 x3 P) : W p l e R s m args below meth c H locs 0 0 Q (F0 m 0 ls []) := by
  have hx := C.1
  have hb := C.2.1
  unfold qX6_worthOf at hq
  refine lv_aload_n hx hb dX6_worthOf_0 rfl (lv_at hl 0 rfl) ?_
  refine xg_X6_27 C hW dX6_worthOf_1 ?_
  refine xg_X6_202 C hW dX6_worthOf_4 ?_
  refine lv_if_eq (tgt := 37) hx hb dX6_worthOf_7 (by decide) (fun h => ?_) (fun h => ?_)
  · replace hq := br_pos h hq
    exact wX6_worthOf_J37 C hRf hRl hret  hW (lv_sub hl [0, 1, 2] rfl) hq
  · replace hq := br_neg h hq
    refine lv_iload_n hx hb dX6_worthOf_10 rfl (lv_at hl 2 rfl) ?_
    refine lv_iconst (v := 4) hx hb dX6_worthOf_11 (by decide) ?_
    refine lv_icmp_ne (tgt := 37) hx hb dX6_worthOf_12 (by decide) (fun h => ?_) (fun h => ?_)
    · replace hq := br_neg h hq
      exact wX6_worthOf_J37 C hRf hRl hret  hW (lv_sub hl [0, 1, 2] rfl) hq
    · replace hq := br_pos h hq
      refine lv_aload_n hx hb dX6_worthOf_15 rfl (lv_at hl 0 rfl) ?_
      refine xg_X6_27 C hW dX6_worthOf_16 ?_
      refine xg_X6_119 C hW dX6_worthOf_19 ?_
      refine lv_iload_n hx hb dX6_worthOf_22 rfl (lv_at hl 3 rfl) ?_
      obtain ⟨hin2, hq⟩ := hq
      refine xget_H_X6_134 C hW (Nat.le_trans (by decide) hRf) (Nat.le_trans (by decide) hRl) hl.1 (Nat.le_of_ble_eq_true rfl) hin2 dX6_worthOf_23 (fun j_1 H locs hj_1 hW => ?_)
      replace hq := hq j_1 hj_1
      refine xc_X6_104 C hW dX6_worthOf_26 ?_
      refine xg_X6_205 C hW dX6_worthOf_29 ?_
      refine lv_if_ne (tgt := 37) hx hb dX6_worthOf_32 (by decide) (fun h => ?_) (fun h => ?_)
      · replace hq := br_neg h hq
        exact wX6_worthOf_J37 C hRf hRl hret  hW (lv_sub hl [0, 1, 2] rfl) hq
      · replace hq := br_pos h hq
        refine lv_iconst (v := 0) hx hb dX6_worthOf_35 (by decide) ?_
        exact hret _ _ _ _ _ _ dX6_worthOf_36 hW hq
set_option maxHeartbeats 4000000 in
set_option maxRecDepth 100000 in
theorem mX6_worthOf {l : Launch} {g : XG} {σ : XS} {x1 : Int32} {x2 : Int32} {x3 : Int32} {P : Int32 → XS → Prop} (hq : qX6_worthOf g σ x1 x2 x3 P) (sz : Nat) : Met l yX6_worthOf (cws yX6_worthOf cX6_worthOf 5 (some .int)) ({ frames := 3, cells := 0, slots := 0, locals := 64 } : Room) (va_Pc [.ref (g.2.1 17), .int x1, .int x2, .int x3] (WP g.1 (xw g) (xty g) σ sz)) (va_Qi P (WB g.1 (xw g) (xty g) σ sz) (va_A (xw g σ) sz)) 0 0 (va_A (xw g σ) sz) :=
  w_enter (by decide) (Nat.le_of_ble_eq_true rfl) (fun p e s m args below meth c ls C hr hk hn hs hW hl => wX6_worthOf C (Nat.le_refl _) (Nat.le_refl _) (fun pc ls v σ H locs hd hW hq => w_iret C hs hr hk hW hd hq) hW hl hq)
set_option maxHeartbeats 4000000 in
set_option maxRecDepth 100000 in
theorem kX6_worthOf_X6_194 (C : CallFix p m c cc nL s args lwg RX6) {σ : XS} (hW : WI g.1 (xw g) (xty g) A s σ H locs) (hRf : 4 ≤ R.frames) (hRl : 88 ≤ R.locals) (hls : ls.size = nL) (hro : (rest.map fun v => v.category).sum ≤ 8) {x1 : Int32} {x2 : Int32} {x3 : Int32} (hd : decode cc pc = .ok (.invokevirtual 194, 3)) {P : Int32 → XS → Prop} (hq : qX6_worthOf g σ x1 x2 x3 P) (kk : ∀ (r : Int32) (σ1 : XS) (H : Heap) (locs : List Loc), P r σ1 → WI g.1 (xw g) (xty g) A s σ1 H locs → W p l e R s m args below meth c H locs 0 0 Q (F0 m (pc + 3) ls (.int r :: rest))) : W p l e R s m args below meth c H locs 0 0 Q (F0 m pc ls (.int x3 :: .int x2 :: .int x1 :: .ref (g.2.1 17) :: rest)) :=
  w_calli hW (w_runV C hW (mX6_worthOf hq _) ⟨(lwg_at 735 (by decide +kernel) rfl), (lwg_at 72 (by decide +kernel) rfl), (lwg_at 732 (by decide +kernel) rfl)⟩ (lwg_at 734 (by decide +kernel) rfl) (lwg_at 17 (by decide +kernel) rfl) (np := 3) (by decide +kernel) ⟨rfl, rfl⟩ ⟨hRf, hRl⟩ (ci := 7) rfl rfl (q0 := 17) rfl rfl hls rfl hro hd ⟨Nat.zero_le _, Nat.zero_le _⟩) kk
-- X6_look
set_option maxHeartbeats 4000000 in
set_option maxRecDepth 100000 in
theorem wX6_look (C : CallFix p m c cX6_look 6 s args lwg RX6) (hRf : 0 ≤ R.frames) (hRl : 0 ≤ R.locals) {P : XS → Prop} (hret : RetV g.1 (xw g) (xty g) A p l e R s m args below meth c 0 0 Q cX6_look P) {σ : XS} {x1 : Int32} {x2 : Int32} {x3 : Int32} {x4 : Int32} {x5 : Int32} {H : Heap} {locs : List Loc} {ls : Array Slot} (hW : WI g.1 (xw g) (xty g) A s σ H locs) (hl : lv_has ls 6 [(0, .ref (g.2.1 17)), (1, .int x1), (2, .int x2), (3, .int x3), (4, .int x4), (5, .int x5)]) (hq : qX6_look g σ x1 x2 x3 x4 x5 P) : W p l e R s m args below meth c H locs 0 0 Q (F0 m 0 ls []) := by
  have hx := C.1
  have hb := C.2.1
  unfold qX6_look at hq
  refine lv_aload_n hx hb dX6_look_0 rfl (lv_at hl 0 rfl) ?_
  refine xg_X6_24 C hW dX6_look_1 ?_
  refine lv_iconst (v := 0) hx hb dX6_look_4 (by decide) ?_
  refine lv_iload_n hx hb dX6_look_5 rfl (lv_at hl 1 rfl) ?_
  refine xs_A13 C hW (by unfold vp_in; decide) dX6_look_6 (fun σ_1 H locs eσ_1 hW => ?_)
  replace hq := hq _ eσ_1
  refine lv_aload_n hx hb dX6_look_7 rfl (lv_at hl 0 rfl) ?_
  refine xg_X6_24 C hW dX6_look_8 ?_
  refine lv_iconst (v := 1) hx hb dX6_look_11 (by decide) ?_
  refine lv_iload_n hx hb dX6_look_12 rfl (lv_at hl 2 rfl) ?_
  refine xs_A13 C hW (by unfold vp_in; decide) dX6_look_13 (fun σ_2 H locs eσ_2 hW => ?_)
  replace hq := hq _ eσ_2
  refine lv_aload_n hx hb dX6_look_14 rfl (lv_at hl 0 rfl) ?_
  refine xg_X6_24 C hW dX6_look_15 ?_
  refine lv_iconst (v := 2) hx hb dX6_look_18 (by decide) ?_
  refine lv_iload_n hx hb dX6_look_19 rfl (lv_at hl 3 rfl) ?_
  refine xs_A13 C hW (by unfold vp_in; decide) dX6_look_20 (fun σ_3 H locs eσ_3 hW => ?_)
  replace hq := hq _ eσ_3
  refine lv_aload_n hx hb dX6_look_21 rfl (lv_at hl 0 rfl) ?_
  refine xg_X6_24 C hW dX6_look_22 ?_
  refine lv_iconst (v := 3) hx hb dX6_look_25 (by decide) ?_
  refine lv_iload hx hb dX6_look_26 (lv_at hl 4 rfl) ?_
  refine xs_A13 C hW (by unfold vp_in; decide) dX6_look_28 (fun σ_4 H locs eσ_4 hW => ?_)
  replace hq := hq _ eσ_4
  refine lv_aload_n hx hb dX6_look_29 rfl (lv_at hl 0 rfl) ?_
  refine xg_X6_24 C hW dX6_look_30 ?_
  refine lv_iconst (v := 4) hx hb dX6_look_33 (by decide) ?_
  refine lv_iload hx hb dX6_look_34 (lv_at hl 5 rfl) ?_
  refine xs_A13 C hW (by unfold vp_in; decide) dX6_look_36 (fun σ_5 H locs eσ_5 hW => ?_)
  replace hq := hq _ eσ_5
  exact hret _ _ _ _ _ dX6_look_37 hW hq
set_option maxHeartbeats 4000000 in
set_option maxRecDepth 100000 in
theorem mX6_look {l : Launch} {g : XG} {σ : XS} {x1 : Int32} {x2 : Int32} {x3 : Int32} {x4 : Int32} {x5 : Int32} {P : XS → Prop} (hq : qX6_look g σ x1 x2 x3 x4 x5 P) (sz : Nat) : Met l yX6_look (cws yX6_look cX6_look 6 none) ({ frames := 0, cells := 0, slots := 0, locals := 0 } : Room) (va_Pc [.ref (g.2.1 17), .int x1, .int x2, .int x3, .int x4, .int x5] (WP g.1 (xw g) (xty g) σ sz)) (va_Qv P (WB g.1 (xw g) (xty g) σ sz) (va_A (xw g σ) sz)) 0 0 (va_A (xw g σ) sz) :=
  w_enter (by decide) (Nat.le_of_ble_eq_true rfl) (fun p e s m args below meth c ls C hr hk hn hs hW hl => wX6_look C (Nat.le_refl _) (Nat.le_refl _) (fun pc ls σ H locs hd hW hq => w_vret C hs hr hk hW hd hq) hW hl hq)
set_option maxHeartbeats 4000000 in
set_option maxRecDepth 100000 in
theorem kX6_look_X6_198 (C : CallFix p m c cc nL s args lwg RX6) {σ : XS} (hW : WI g.1 (xw g) (xty g) A s σ H locs) (hRf : 1 ≤ R.frames) (hRl : 25 ≤ R.locals) (hls : ls.size = nL) (hro : (rest.map fun v => v.category).sum ≤ 8) {x1 : Int32} {x2 : Int32} {x3 : Int32} {x4 : Int32} {x5 : Int32} (hd : decode cc pc = .ok (.invokevirtual 198, 3)) {P : XS → Prop} (hq : qX6_look g σ x1 x2 x3 x4 x5 P) (kk : ∀ (σ1 : XS) (H : Heap) (locs : List Loc), P σ1 → WI g.1 (xw g) (xty g) A s σ1 H locs → W p l e R s m args below meth c H locs 0 0 Q (F0 m (pc + 3) ls rest)) : W p l e R s m args below meth c H locs 0 0 Q (F0 m pc ls (.int x5 :: .int x4 :: .int x3 :: .int x2 :: .int x1 :: .ref (g.2.1 17) :: rest)) :=
  w_callv hW (w_runV C hW (mX6_look hq _) ⟨(lwg_at 739 (by decide +kernel) rfl), (lwg_at 72 (by decide +kernel) rfl), (lwg_at 736 (by decide +kernel) rfl)⟩ (lwg_at 738 (by decide +kernel) rfl) (lwg_at 18 (by decide +kernel) rfl) (np := 5) (by decide +kernel) ⟨rfl, rfl⟩ ⟨hRf, hRl⟩ (ci := 7) rfl rfl (q0 := 17) rfl rfl hls rfl hro hd ⟨Nat.zero_le _, Nat.zero_le _⟩) kk
-- X6_takeBite
set_option maxHeartbeats 4000000 in
set_option maxRecDepth 100000 in
theorem wX6_takeBite_J158 (C : CallFix p m c cX6_takeBite 8 s args lwg RX6) (hRf : 4 ≤ R.frames) (hRl : 88 ≤ R.locals) {P : XS → Prop} (hret : RetV g.1 (xw g) (xty g) A p l e R s m args below meth c 0 0 Q cX6_takeBite P) {σ : XS} {H : Heap} {locs : List Loc} {ls : Array Slot} (hW : WI g.1 (xw g) (xty g) A s σ H locs) (hl : lv_has ls 8 [(0, .ref (g.2.1 17))]) (hq : qX6_takeBite_J158 g  P σ ) : W p l e R s m args below meth c H locs 0 0 Q (F0 m 158 ls []) := by
  have hx := C.1
  have hb := C.2.1
  unfold qX6_takeBite_J158 at hq
  refine lv_aload_n hx hb dX6_takeBite_158 rfl (lv_at hl 0 rfl) ?_
  refine lv_dup hx hb dX6_takeBite_159 rfl ?_
  refine xg_X6_58 C hW dX6_takeBite_160 ?_
  refine lv_iconst (v := 1) hx hb dX6_takeBite_163 (by decide) ?_
  refine lv_iadd hx hb dX6_takeBite_164 ?_
  refine xp_X6_58 C hW dX6_takeBite_165 (fun σ_1 H locs eσ_1 hW => ?_)
  replace hq := hq _ eσ_1
  exact hret _ _ _ _ _ dX6_takeBite_168 hW hq
set_option maxHeartbeats 4000000 in
set_option maxRecDepth 100000 in
theorem wX6_takeBite_J52 (C : CallFix p m c cX6_takeBite 8 s args lwg RX6) (hRf : 4 ≤ R.frames) (hRl : 88 ≤ R.locals) {P : XS → Prop} (hret : RetV g.1 (xw g) (xty g) A p l e R s m args below meth c 0 0 Q cX6_takeBite P) {σ : XS} {x1 : Int32} {x3 : Fin (nH g)} {y0 : Int32} {H : Heap} {locs : List Loc} {ls : Array Slot} (hW : WI g.1 (xw g) (xty g) A s σ H locs) (hl : lv_has ls 8 [(0, .ref (g.2.1 17)), (1, .int x1), (3, .ref (hA g x3))]) (hq : qX6_takeBite_J52 g  P σ x1 x3 y0) : W p l e R s m args below meth c H locs 0 0 Q (F0 m 52 ls [.int y0]) := by
  have hx := C.1
  have hb := C.2.1
  unfold qX6_takeBite_J52 at hq
  refine lv_istore (lv' := [(4, .int y0), (0, .ref (g.2.1 17)), (1, .int x1), (3, .ref (hA g x3))]) hx hb dX6_takeBite_52 hl (by decide) rfl (fun ls hl => ?_)
  refine lv_aload_n hx hb dX6_takeBite_54 rfl (lv_at hl 1 rfl) ?_
  refine kX6_firstLayer_X6_185 C hW (Nat.le_trans (by decide) hRf) (Nat.le_trans (by decide) hRl) hl.1 (Nat.le_of_ble_eq_true rfl) dX6_takeBite_55 hq (fun r_2 σ_1 H locs hq hW => ?_)
  refine lv_istore (lv' := [(5, .int r_2), (4, .int y0), (0, .ref (g.2.1 17)), (1, .int x1), (3, .ref (hA g x3))]) hx hb dX6_takeBite_58 hl (by decide) rfl (fun ls hl => ?_)
  refine lv_aload_n hx hb dX6_takeBite_60 rfl (lv_at hl 4 rfl) ?_
  refine xg_X6_188 C hW dX6_takeBite_61 ?_
  refine lv_aload_n hx hb dX6_takeBite_64 rfl (lv_at hl 2 rfl) ?_
  refine xg_X6_9 C hW dX6_takeBite_65 ?_
  refine lv_iload hx hb dX6_takeBite_68 (lv_at hl 0 rfl) ?_
  obtain ⟨hin3, hq⟩ := hq
  refine xa_A1 C hW hin3 dX6_takeBite_70 ?_
  refine xm_X6_191 C (Nat.le_trans (by decide) hRf) (Nat.le_trans (by decide) hRl) hl.1 (Nat.le_of_ble_eq_true rfl) dX6_takeBite_71 ?_
  refine lv_topi (fun v_4 ev_4 => ?_)
  replace hq := hq _ ev_4
  refine lv_istore (lv' := [(6, .int v_4), (5, .int r_2), (4, .int y0), (0, .ref (g.2.1 17)), (1, .int x1), (3, .ref (hA g x3))]) hx hb dX6_takeBite_74 hl (by decide) rfl (fun ls hl => ?_)
  refine lv_aload_n hx hb dX6_takeBite_76 rfl (lv_at hl 3 rfl) ?_
  refine lv_iload hx hb dX6_takeBite_77 (lv_at hl 0 rfl) ?_
  refine lv_iload hx hb dX6_takeBite_79 (lv_at hl 1 rfl) ?_
  refine lv_iload hx hb dX6_takeBite_81 (lv_at hl 2 rfl) ?_
  refine kX6_worthOf_X6_194 C hW (Nat.le_trans (by decide) hRf) (Nat.le_trans (by decide) hRl) hl.1 (Nat.le_of_ble_eq_true rfl) dX6_takeBite_83 hq (fun r_6 σ_5 H locs hq hW => ?_)
  refine lv_istore (lv' := [(7, .int r_6), (6, .int v_4), (5, .int r_2), (4, .int y0), (0, .ref (g.2.1 17)), (1, .int x1), (3, .ref (hA g x3))]) hx hb dX6_takeBite_86 hl (by decide) rfl (fun ls hl => ?_)
  refine lv_aload_n hx hb dX6_takeBite_88 rfl (lv_at hl 4 rfl) ?_
  refine xg_X6_9 C hW dX6_takeBite_89 ?_
  refine lv_iload hx hb dX6_takeBite_92 (lv_at hl 2 rfl) ?_
  refine lv_dup2_11 hx hb dX6_takeBite_94 rfl rfl ?_
  refine xa_A1 C hW hin3 dX6_takeBite_95 ?_
  refine lv_iload hx hb dX6_takeBite_96 (lv_at hl 1 rfl) ?_
  refine lv_isub hx hb dX6_takeBite_98 ?_
  refine xs_A1 C hW hin3 dX6_takeBite_99 (fun σ_7 H locs eσ_7 hW => ?_)
  replace hq := hq _ eσ_7
  refine lv_aload_n hx hb dX6_takeBite_100 rfl (lv_at hl 4 rfl) ?_
  refine lv_dup hx hb dX6_takeBite_101 rfl ?_
  refine xg_X6_49 C hW dX6_takeBite_102 ?_
  refine lv_iload hx hb dX6_takeBite_105 (lv_at hl 1 rfl) ?_
  refine lv_isub hx hb dX6_takeBite_107 ?_
  refine xp_X6_49 C hW dX6_takeBite_108 (fun σ_8 H locs eσ_8 hW => ?_)
  replace hq := hq _ eσ_8
  refine lv_aload_n hx hb dX6_takeBite_111 rfl (lv_at hl 4 rfl) ?_
  refine xg_X6_15 C hW dX6_takeBite_112 ?_
  refine lv_iload hx hb dX6_takeBite_115 (lv_at hl 3 rfl) ?_
  refine lv_dup2_11 hx hb dX6_takeBite_117 rfl rfl ?_
  obtain ⟨hin9, hq⟩ := hq
  refine xa_R C hW hin9 dX6_takeBite_118 ?_
  refine lv_iload hx hb dX6_takeBite_119 (lv_at hl 0 rfl) ?_
  refine lv_iadd hx hb dX6_takeBite_121 ?_
  refine xs_R C hW hin9 dX6_takeBite_122 (fun σ_10 H locs eσ_10 hW => ?_)
  replace hq := hq _ eσ_10
  refine lv_aload_n hx hb dX6_takeBite_123 rfl (lv_at hl 4 rfl) ?_
  refine lv_dup hx hb dX6_takeBite_124 rfl ?_
  refine xg_X6_61 C hW dX6_takeBite_125 ?_
  refine lv_iload hx hb dX6_takeBite_128 (lv_at hl 0 rfl) ?_
  refine lv_iadd hx hb dX6_takeBite_130 ?_
  refine xp_X6_61 C hW dX6_takeBite_131 (fun σ_11 H locs eσ_11 hW => ?_)
  replace hq := hq _ eσ_11
  refine lv_aload_n hx hb dX6_takeBite_134 rfl (lv_at hl 4 rfl) ?_
  refine xg_X6_58 C hW dX6_takeBite_135 ?_
  refine lv_aload_n hx hb dX6_takeBite_138 rfl (lv_at hl 4 rfl) ?_
  refine xg_X6_67 C hW dX6_takeBite_139 ?_
  refine lv_icmp_ne (tgt := 158) hx hb dX6_takeBite_142 (by decide) (fun h => ?_) (fun h => ?_)
  · replace hq := br_neg h hq
    exact wX6_takeBite_J158 C hRf hRl hret  hW (lv_sub hl [4] rfl) hq
  · replace hq := br_pos h hq
    refine lv_aload_n hx hb dX6_takeBite_145 rfl (lv_at hl 4 rfl) ?_
    refine lv_iload_n hx hb dX6_takeBite_146 rfl (lv_at hl 5 rfl) ?_
    refine lv_iload hx hb dX6_takeBite_147 (lv_at hl 3 rfl) ?_
    refine lv_iload hx hb dX6_takeBite_149 (lv_at hl 2 rfl) ?_
    refine lv_iload hx hb dX6_takeBite_151 (lv_at hl 1 rfl) ?_
    refine lv_iload hx hb dX6_takeBite_153 (lv_at hl 0 rfl) ?_
    refine kX6_look_X6_198 C hW (Nat.le_trans (by decide) hRf) (Nat.le_trans (by decide) hRl) hl.1 (Nat.le_of_ble_eq_true rfl) dX6_takeBite_155 hq (fun σ_12 H locs hq hW => ?_)
    exact wX6_takeBite_J158 C hRf hRl hret  hW (lv_sub hl [4] rfl) hq
set_option maxHeartbeats 4000000 in
set_option maxRecDepth 100000 in
theorem wX6_takeBite (C : CallFix p m c cX6_takeBite 8 s args lwg RX6) (hRf : 4 ≤ R.frames) (hRl : 88 ≤ R.locals) {P : XS → Prop} (hret : RetV g.1 (xw g) (xty g) A p l e R s m args below meth c 0 0 Q cX6_takeBite P) {σ : XS} {x1 : Int32} {x2 : Int32} {H : Heap} {locs : List Loc} {ls : Array Slot} (hW : WI g.1 (xw g) (xty g) A s σ H locs) (hl : lv_has ls 8 [(0, .ref (g.2.1 17)), (1, .int x1), (2, .int x2)]) (hq : qX6_takeBite g σ x1 x2 P) : W p l e R s m args below meth c H locs 0 0 Q (F0 m 0 ls []) := by
  have hx := C.1
  have hb := C.2.1
  unfold qX6_takeBite at hq
  refine lv_aload_n hx hb dX6_takeBite_0 rfl (lv_at hl 0 rfl) ?_
  refine xg_X6_27 C hW dX6_takeBite_1 ?_
  refine lv_iload_n hx hb dX6_takeBite_4 rfl (lv_at hl 2 rfl) ?_
  refine kX8_hermitIn_X6_99 C hW (Nat.le_trans (by decide) hRf) (Nat.le_trans (by decide) hRl) hl.1 (Nat.le_of_ble_eq_true rfl) dX6_takeBite_5 hq (fun r_2 σ_1 H locs hq hW => ?_)
  refine lv_astore_n (lv' := [(3, .ref (hA g r_2)), (0, .ref (g.2.1 17)), (1, .int x1), (2, .int x2)]) hx hb dX6_takeBite_8 rfl hl (by decide) rfl (fun ls hl => ?_)
  refine lv_aload_n hx hb dX6_takeBite_9 rfl (lv_at hl 1 rfl) ?_
  refine xg_X6_18 C hW dX6_takeBite_10 ?_
  refine lv_iload_n hx hb dX6_takeBite_13 rfl (lv_at hl 2 rfl) ?_
  refine lv_dup2_11 hx hb dX6_takeBite_14 rfl rfl ?_
  obtain ⟨hin3, hq⟩ := hq
  refine xa_A9 C hW hin3 dX6_takeBite_15 ?_
  refine lv_iconst (v := 1) hx hb dX6_takeBite_16 (by decide) ?_
  refine lv_iadd hx hb dX6_takeBite_17 ?_
  refine xs_A9 C hW hin3 dX6_takeBite_18 (fun σ_4 H locs eσ_4 hW => ?_)
  replace hq := hq _ eσ_4
  refine lv_aload_n hx hb dX6_takeBite_19 rfl (lv_at hl 0 rfl) ?_
  refine lv_aload_n hx hb dX6_takeBite_20 rfl (lv_at hl 1 rfl) ?_
  refine xg_X6_18 C hW dX6_takeBite_21 ?_
  refine lv_iload_n hx hb dX6_takeBite_24 rfl (lv_at hl 2 rfl) ?_
  refine xa_A9 C hW hin3 dX6_takeBite_25 ?_
  refine kV_givesAway_X6_179 C hW (Nat.le_trans (by decide) hRf) (Nat.le_trans (by decide) hRl) hl.1 (Nat.le_of_ble_eq_true rfl) dX6_takeBite_26 hq (fun r_6 σ_5 H locs hq hW => ?_)
  refine lv_if_eq (tgt := 51) hx hb dX6_takeBite_29 (by decide) (fun h => ?_) (fun h => ?_)
  · replace hq := br_pos h hq
    refine lv_iload_n hx hb dX6_takeBite_51 rfl (lv_at hl 2 rfl) ?_
    exact wX6_takeBite_J52 C hRf hRl hret  hW (lv_sub hl [1, 2, 0] rfl) hq
  · replace hq := br_neg h hq
    refine lv_aload_n hx hb dX6_takeBite_32 rfl (lv_at hl 1 rfl) ?_
    refine xg_X6_27 C hW dX6_takeBite_33 ?_
    refine xg_X6_145 C hW dX6_takeBite_36 ?_
    refine lv_aload_n hx hb dX6_takeBite_39 rfl (lv_at hl 1 rfl) ?_
    refine xg_X6_27 C hW dX6_takeBite_40 ?_
    refine lv_iload_n hx hb dX6_takeBite_43 rfl (lv_at hl 3 rfl) ?_
    refine kX8_seatNext_X6_182 C hW (Nat.le_trans (by decide) hRf) (Nat.le_trans (by decide) hRl) hl.1 (Nat.le_of_ble_eq_true rfl) dX6_takeBite_44 hq (fun r_8 σ_7 H locs hq hW => ?_)
    obtain ⟨hin9, hq⟩ := hq
    refine xa_T1 C hW hin9 dX6_takeBite_47 ?_
    refine lv_goto (tgt := 52) hx hb dX6_takeBite_48 (by decide) ?_
    exact wX6_takeBite_J52 C hRf hRl hret  hW (lv_sub hl [1, 2, 0] rfl) hq
set_option maxHeartbeats 4000000 in
set_option maxRecDepth 100000 in
theorem mX6_takeBite {l : Launch} {g : XG} {σ : XS} {x1 : Int32} {x2 : Int32} {P : XS → Prop} (hq : qX6_takeBite g σ x1 x2 P) (sz : Nat) : Met l yX6_takeBite (cws yX6_takeBite cX6_takeBite 8 none) ({ frames := 4, cells := 0, slots := 0, locals := 88 } : Room) (va_Pc [.ref (g.2.1 17), .int x1, .int x2] (WP g.1 (xw g) (xty g) σ sz)) (va_Qv P (WB g.1 (xw g) (xty g) σ sz) (va_A (xw g σ) sz)) 0 0 (va_A (xw g σ) sz) :=
  w_enter (by decide) (Nat.le_of_ble_eq_true rfl) (fun p e s m args below meth c ls C hr hk hn hs hW hl => wX6_takeBite C (Nat.le_refl _) (Nat.le_refl _) (fun pc ls σ H locs hd hW hq => w_vret C hs hr hk hW hd hq) hW hl hq)
set_option maxHeartbeats 4000000 in
set_option maxRecDepth 100000 in
theorem kX6_takeBite_X6_175 (C : CallFix p m c cc nL s args lwg RX6) {σ : XS} (hW : WI g.1 (xw g) (xty g) A s σ H locs) (hRf : 5 ≤ R.frames) (hRl : 115 ≤ R.locals) (hls : ls.size = nL) (hro : (rest.map fun v => v.category).sum ≤ 8) {x1 : Int32} {x2 : Int32} (hd : decode cc pc = .ok (.invokevirtual 175, 3)) {P : XS → Prop} (hq : qX6_takeBite g σ x1 x2 P) (kk : ∀ (σ1 : XS) (H : Heap) (locs : List Loc), P σ1 → WI g.1 (xw g) (xty g) A s σ1 H locs → W p l e R s m args below meth c H locs 0 0 Q (F0 m (pc + 3) ls rest)) : W p l e R s m args below meth c H locs 0 0 Q (F0 m pc ls (.int x2 :: .int x1 :: .ref (g.2.1 17) :: rest)) :=
  w_callv hW (w_runV C hW (mX6_takeBite hq _) ⟨(lwg_at 711 (by decide +kernel) rfl), (lwg_at 72 (by decide +kernel) rfl), (lwg_at 708 (by decide +kernel) rfl)⟩ (lwg_at 710 (by decide +kernel) rfl) (lwg_at 15 (by decide +kernel) rfl) (np := 2) (by decide +kernel) ⟨rfl, rfl⟩ ⟨hRf, hRl⟩ (ci := 7) rfl rfl (q0 := 17) rfl rfl hls rfl hro hd ⟨Nat.zero_le _, Nat.zero_le _⟩) kk
-- X6_eat
set_option maxHeartbeats 4000000 in
set_option maxRecDepth 100000 in
theorem wX6_eat_L58 (C : CallFix p m c cX6_eat 5 s args lwg RX6) (hRf : 5 ≤ R.frames) (hRl : 115 ≤ R.locals) {P : XS → Prop} (hret : RetV g.1 (xw g) (xty g) A p l e R s m args below meth c 0 0 Q cX6_eat P) : ∀ (n : Nat) (σ : XS) (x1 : Int32) (x2 : Int32) (x3 : Int32) (x4 : Int32) (H : Heap) (locs : List Loc) (ls : Array Slot), WI g.1 (xw g) (xty g) A s σ H locs → lv_has ls 5 [(0, .ref (g.2.1 17)), (1, .int x1), (2, .int x2), (3, .int x3), (4, .int x4)] → qX6_eat_L58 g  P n σ x1 x2 x3 x4 → W p l e R s m args below meth c H locs 0 0 Q (F0 m 58 ls []) := by
  have hx := C.1
  have hb := C.2.1
  intro n
  induction n with
  | zero =>
    intro σ x1 x2 x3 x4 H locs ls hW hl hq
    rw [qX6_eat_L58] at hq
    exact hq.elim
  | succ n ih =>
    intro σ x1 x2 x3 x4 H locs ls hW hl hq
    rw [qX6_eat_L58] at hq
    refine lv_iload hx hb dX6_eat_58 (lv_at hl 4 rfl) ?_
    refine lv_iload_n hx hb dX6_eat_60 rfl (lv_at hl 3 rfl) ?_
    refine lv_icmp_ge (tgt := 83) hx hb dX6_eat_61 (by decide) (fun h => ?_) (fun h => ?_)
    · replace hq := br_pos h hq
      exact hret _ _ _ _ _ dX6_eat_83 hW hq
    · replace hq := br_neg h hq
      refine lv_aload_n hx hb dX6_eat_64 rfl (lv_at hl 0 rfl) ?_
      refine xg_X6_49 C hW dX6_eat_65 ?_
      refine lv_if_le (tgt := 83) hx hb dX6_eat_68 (by decide) (fun h => ?_) (fun h => ?_)
      · replace hq := br_pos h hq
        exact hret _ _ _ _ _ dX6_eat_83 hW hq
      · replace hq := br_neg h hq
        refine lv_aload_n hx hb dX6_eat_71 rfl (lv_at hl 0 rfl) ?_
        refine lv_iload_n hx hb dX6_eat_72 rfl (lv_at hl 2 rfl) ?_
        refine lv_iload_n hx hb dX6_eat_73 rfl (lv_at hl 1 rfl) ?_
        refine kX6_takeBite_X6_175 C hW (Nat.le_trans (by decide) hRf) (Nat.le_trans (by decide) hRl) hl.1 (Nat.le_of_ble_eq_true rfl) dX6_eat_74 hq (fun σ_1 H locs hq hW => ?_)
        obtain ⟨x4_2, ex4_2⟩ : ∃ y : Int32, y = x4 + 1 := ⟨_, rfl⟩
        replace hq := hq _ ex4_2
        refine lv_iinc (v := x4_2) (lv' := [(4, .int x4_2), (0, .ref (g.2.1 17)), (1, .int x1), (2, .int x2), (3, .int x3)]) hx hb dX6_eat_77 hl (k := 4) rfl (by rw [ex4_2]; rfl) (by decide) rfl (fun ls hl => ?_)
        refine lv_goto (tgt := 58) hx hb dX6_eat_80 (by decide) ?_
        exact ih _ _ _ _ _ _ _ _ hW (lv_sub hl [1, 2, 3, 4, 0] rfl) hq
set_option maxHeartbeats 4000000 in
set_option maxRecDepth 100000 in
theorem wX6_eat (C : CallFix p m c cX6_eat 5 s args lwg RX6) (hRf : 5 ≤ R.frames) (hRl : 115 ≤ R.locals) {P : XS → Prop} (hret : RetV g.1 (xw g) (xty g) A p l e R s m args below meth c 0 0 Q cX6_eat P) {σ : XS} {x1 : Int32} {H : Heap} {locs : List Loc} {ls : Array Slot} (hW : WI g.1 (xw g) (xty g) A s σ H locs) (hl : lv_has ls 5 [(0, .ref (g.2.1 17)), (1, .int x1)]) (hq : qX6_eat g σ x1 P) : W p l e R s m args below meth c H locs 0 0 Q (F0 m 0 ls []) := by
  have hx := C.1
  have hb := C.2.1
  unfold qX6_eat at hq
  refine lv_aload_n hx hb dX6_eat_0 rfl (lv_at hl 0 rfl) ?_
  refine xg_X6_27 C hW dX6_eat_1 ?_
  refine xg_X6_145 C hW dX6_eat_4 ?_
  refine lv_iload_n hx hb dX6_eat_7 rfl (lv_at hl 1 rfl) ?_
  obtain ⟨hin1, hq⟩ := hq
  refine xa_T1 C hW hin1 dX6_eat_8 ?_
  refine lv_topi (fun x2_2 ex2_2 => ?_)
  replace hq := hq _ ex2_2
  refine lv_istore_n (lv' := [(2, .int x2_2), (0, .ref (g.2.1 17)), (1, .int x1)]) hx hb dX6_eat_9 rfl hl (by decide) rfl (fun ls hl => ?_)
  refine lv_aload_n hx hb dX6_eat_10 rfl (lv_at hl 1 rfl) ?_
  refine xg_X6_21 C hW dX6_eat_11 ?_
  refine lv_iload_n hx hb dX6_eat_14 rfl (lv_at hl 0 rfl) ?_
  refine lv_dup2_11 hx hb dX6_eat_15 rfl rfl ?_
  obtain ⟨hin3, hq⟩ := hq
  refine xa_A10 C hW hin3 dX6_eat_16 ?_
  refine lv_iconst (v := 1) hx hb dX6_eat_17 (by decide) ?_
  refine lv_iadd hx hb dX6_eat_18 ?_
  refine xs_A10 C hW hin3 dX6_eat_19 (fun σ_4 H locs eσ_4 hW => ?_)
  replace hq := hq _ eσ_4
  refine lv_aload_n hx hb dX6_eat_20 rfl (lv_at hl 1 rfl) ?_
  refine xg_X6_27 C hW dX6_eat_21 ?_
  refine lv_iload_n hx hb dX6_eat_24 rfl (lv_at hl 2 rfl) ?_
  refine kX8_hermitIn_X6_99 C hW (Nat.le_trans (by decide) hRf) (Nat.le_trans (by decide) hRl) hl.1 (Nat.le_of_ble_eq_true rfl) dX6_eat_25 hq (fun r_6 σ_5 H locs hq hW => ?_)
  refine lv_aload_n hx hb dX6_eat_28 rfl (lv_at hl 1 rfl) ?_
  refine xg_X6_21 C hW dX6_eat_29 ?_
  refine lv_iload_n hx hb dX6_eat_32 rfl (lv_at hl 0 rfl) ?_
  refine xa_A10 C hW hin3 dX6_eat_33 ?_
  refine kV_bitesInTurn_X6_171 C hW (Nat.le_trans (by decide) hRf) (Nat.le_trans (by decide) hRl) hl.1 (Nat.le_of_ble_eq_true rfl) dX6_eat_34 hq (fun r_8 σ_7 H locs hq hW => ?_)
  refine lv_iload_n hx hb dX6_eat_37 rfl (lv_at hl 0 rfl) ?_
  refine lv_aload_n hx hb dX6_eat_38 rfl (lv_at hl 1 rfl) ?_
  refine xg_X6_64 C hW dX6_eat_39 ?_
  refine (fun (K : ∀ v_9 : Int32, v_9 = ((if x2_2 = (xSI σ_7 11) then 1 else 0) : Int32) → W p l e R s m args below meth c H locs 0 0 Q (F0 m 50 ls (.int v_9 :: [.int r_8]))) => ?_) ?_
  · refine lv_icmp_ne (tgt := 49) hx hb dX6_eat_42 (by decide) (fun h42 => ?_) (fun h42 => ?_)
    · refine lv_iconst (v := 0) hx hb dX6_eat_49 (by decide) ?_
      exact K _ (by rw [if_neg h42])
    · refine lv_iconst (v := 1) hx hb dX6_eat_45 (by decide) ?_
      refine lv_goto (tgt := 50) hx hb dX6_eat_46 (by decide) ?_
      exact K _ (by rw [if_pos h42])
  intro v_9 ev_9
  replace hq := hq _ ev_9
  refine kX10_asNumber_X6_161 C hW (Nat.le_trans (by decide) hRf) (Nat.le_trans (by decide) hRl) hl.1 (Nat.le_of_ble_eq_true rfl) dX6_eat_50 hq (fun r_11 σ_10 H locs hq hW => ?_)
  refine lv_iadd hx hb dX6_eat_53 ?_
  refine lv_topi (fun x3_12 ex3_12 => ?_)
  replace hq := hq _ ex3_12
  refine lv_istore_n (lv' := [(3, .int x3_12), (2, .int x2_2), (0, .ref (g.2.1 17)), (1, .int x1)]) hx hb dX6_eat_54 rfl hl (by decide) rfl (fun ls hl => ?_)
  refine lv_iconst (v := 0) hx hb dX6_eat_55 (by decide) ?_
  refine lv_istore (lv' := [(4, .int 0), (3, .int x3_12), (2, .int x2_2), (0, .ref (g.2.1 17)), (1, .int x1)]) hx hb dX6_eat_56 hl (by decide) rfl (fun ls hl => ?_)
  obtain ⟨f58, hq⟩ := hq
  exact wX6_eat_L58 C hRf hRl hret f58 _ _ _ _ _ _ _ _ hW (lv_sub hl [3, 4, 2, 1, 0] rfl) hq
set_option maxHeartbeats 4000000 in
set_option maxRecDepth 100000 in
theorem mX6_eat {l : Launch} {g : XG} {σ : XS} {x1 : Int32} {P : XS → Prop} (hq : qX6_eat g σ x1 P) (sz : Nat) : Met l yX6_eat (cws yX6_eat cX6_eat 5 none) ({ frames := 5, cells := 0, slots := 0, locals := 115 } : Room) (va_Pc [.ref (g.2.1 17), .int x1] (WP g.1 (xw g) (xty g) σ sz)) (va_Qv P (WB g.1 (xw g) (xty g) σ sz) (va_A (xw g σ) sz)) 0 0 (va_A (xw g σ) sz) :=
  w_enter (by decide) (Nat.le_of_ble_eq_true rfl) (fun p e s m args below meth c ls C hr hk hn hs hW hl => wX6_eat C (Nat.le_refl _) (Nat.le_refl _) (fun pc ls σ H locs hd hW hq => w_vret C hs hr hk hW hd hq) hW hl hq)
set_option maxHeartbeats 4000000 in
set_option maxRecDepth 100000 in
theorem kX6_eat_X6_95 (C : CallFix p m c cc nL s args lwg RX6) {σ : XS} (hW : WI g.1 (xw g) (xty g) A s σ H locs) (hRf : 6 ≤ R.frames) (hRl : 139 ≤ R.locals) (hls : ls.size = nL) (hro : (rest.map fun v => v.category).sum ≤ 8) {x1 : Int32} (hd : decode cc pc = .ok (.invokevirtual 95, 3)) {P : XS → Prop} (hq : qX6_eat g σ x1 P) (kk : ∀ (σ1 : XS) (H : Heap) (locs : List Loc), P σ1 → WI g.1 (xw g) (xty g) A s σ1 H locs → W p l e R s m args below meth c H locs 0 0 Q (F0 m (pc + 3) ls rest)) : W p l e R s m args below meth c H locs 0 0 Q (F0 m pc ls (.int x1 :: .ref (g.2.1 17) :: rest)) :=
  w_callv hW (w_runV C hW (mX6_eat hq _) ⟨(lwg_at 684 (by decide +kernel) rfl), (lwg_at 72 (by decide +kernel) rfl), (lwg_at 681 (by decide +kernel) rfl)⟩ (lwg_at 683 (by decide +kernel) rfl) (lwg_at 14 (by decide +kernel) rfl) (np := 1) (by decide +kernel) ⟨rfl, rfl⟩ ⟨hRf, hRl⟩ (ci := 7) rfl rfl (q0 := 17) rfl rfl hls rfl hro hd ⟨Nat.zero_le _, Nat.zero_le _⟩) kk
-- X4_beatsOfTurn
set_option maxHeartbeats 4000000 in
set_option maxRecDepth 100000 in
theorem wX4_beatsOfTurn (C : CallFix p m c cX4_beatsOfTurn 1 s args lwg RX4) (hRf : 0 ≤ R.frames) (hRl : 0 ≤ R.locals) {P : Int32 → XS → Prop} (hret : RetI g.1 (xw g) (xty g) A p l e R s m args below meth c 0 0 Q cX4_beatsOfTurn P) {σ : XS} {x0 : Fin (nH g)} {H : Heap} {locs : List Loc} {ls : Array Slot} (hW : WI g.1 (xw g) (xty g) A s σ H locs) (hl : lv_has ls 1 [(0, .ref (hA g x0))]) (hq : qX4_beatsOfTurn g σ x0 P) : W p l e R s m args below meth c H locs 0 0 Q (F0 m 0 ls []) := by
  have hx := C.1
  have hb := C.2.1
  unfold qX4_beatsOfTurn at hq
  refine lv_iconst (v := 1) hx hb dX4_beatsOfTurn_0 (by decide) ?_
  exact hret _ _ _ _ _ _ dX4_beatsOfTurn_1 hW hq
set_option maxHeartbeats 4000000 in
set_option maxRecDepth 100000 in
theorem mX4_beatsOfTurn {l : Launch} {g : XG} {σ : XS} {x0 : Fin (nH g)} {P : Int32 → XS → Prop} (hq : qX4_beatsOfTurn g σ x0 P) (sz : Nat) : Met l yX4_beatsOfTurn (cws yX4_beatsOfTurn cX4_beatsOfTurn 1 (some .int)) ({ frames := 0, cells := 0, slots := 0, locals := 0 } : Room) (va_Pc [.ref (hA g x0)] (WP g.1 (xw g) (xty g) σ sz)) (va_Qi P (WB g.1 (xw g) (xty g) σ sz) (va_A (xw g σ) sz)) 0 0 (va_A (xw g σ) sz) :=
  w_enter (by decide) (Nat.le_of_ble_eq_true rfl) (fun p e s m args below meth c ls C hr hk hn hs hW hl => wX4_beatsOfTurn C (Nat.le_refl _) (Nat.le_refl _) (fun pc ls v σ H locs hd hW hq => w_iret C hs hr hk hW hd hq) hW hl hq)
-- X7_beatsOfTurn
set_option maxHeartbeats 4000000 in
set_option maxRecDepth 100000 in
theorem wX7_beatsOfTurn (C : CallFix p m c cX7_beatsOfTurn 1 s args lwg RX7) (hRf : 0 ≤ R.frames) (hRl : 0 ≤ R.locals) {P : Int32 → XS → Prop} (hret : RetI g.1 (xw g) (xty g) A p l e R s m args below meth c 0 0 Q cX7_beatsOfTurn P) {σ : XS} {x0 : Fin (nH g)} {H : Heap} {locs : List Loc} {ls : Array Slot} (hW : WI g.1 (xw g) (xty g) A s σ H locs) (hl : lv_has ls 1 [(0, .ref (hA g x0))]) (hq : qX7_beatsOfTurn g σ x0 P) : W p l e R s m args below meth c H locs 0 0 Q (F0 m 0 ls []) := by
  have hx := C.1
  have hb := C.2.1
  unfold qX7_beatsOfTurn at hq
  refine lv_aload_n hx hb dX7_beatsOfTurn_0 rfl (lv_at hl 0 rfl) ?_
  refine xg_X7_9 C hW dX7_beatsOfTurn_1 ?_
  exact hret _ _ _ _ _ _ dX7_beatsOfTurn_4 hW hq
set_option maxHeartbeats 4000000 in
set_option maxRecDepth 100000 in
theorem mX7_beatsOfTurn {l : Launch} {g : XG} {σ : XS} {x0 : Fin (nH g)} {P : Int32 → XS → Prop} (hq : qX7_beatsOfTurn g σ x0 P) (sz : Nat) : Met l yX7_beatsOfTurn (cws yX7_beatsOfTurn cX7_beatsOfTurn 1 (some .int)) ({ frames := 0, cells := 0, slots := 0, locals := 0 } : Room) (va_Pc [.ref (hA g x0)] (WP g.1 (xw g) (xty g) σ sz)) (va_Qi P (WB g.1 (xw g) (xty g) σ sz) (va_A (xw g σ) sz)) 0 0 (va_A (xw g σ) sz) :=
  w_enter (by decide) (Nat.le_of_ble_eq_true rfl) (fun p e s m args below meth c ls C hr hk hn hs hW hl => wX7_beatsOfTurn C (Nat.le_refl _) (Nat.le_refl _) (fun pc ls v σ H locs hd hW hq => w_iret C hs hr hk hW hd hq) hW hl hq)
-- V_beatsOfTurn
set_option maxHeartbeats 4000000 in
set_option maxRecDepth 100000 in
theorem kV_beatsOfTurn_X6_103 (C : CallFix p m c cc nL s args lwg RX6) {σ : XS} (hW : WI g.1 (xw g) (xty g) A s σ H locs) (hRf : 1 ≤ R.frames) (hRl : 20 ≤ R.locals) (hls : ls.size = nL) (hro : (rest.map fun v => v.category).sum ≤ 8) {x0 : Fin (nH g)} (hd : decode cc pc = .ok (.invokevirtual 103, 3)) {P : Int32 → XS → Prop} (hq : qV_beatsOfTurn g σ x0 P) (kk : ∀ (r : Int32) (σ1 : XS) (H : Heap) (locs : List Loc), P r σ1 → WI g.1 (xw g) (xty g) A s σ1 H locs → W p l e R s m args below meth c H locs 0 0 Q (F0 m (pc + 3) ls (.int r :: rest))) : W p l e R s m args below meth c H locs 0 0 Q (F0 m pc ls (.ref (hA g x0) :: rest)) :=
  fin5 (P := fun kd => hK g x0 = kd → W p l e R s m args below meth c H locs 0 0 Q (F0 m pc ls (.ref (hA g x0) :: rest))) (hK g x0)
    (fun hk => w_calli hW (w_runU C hW (Cn := "HermitsSpoon$Hermit") (mX4_beatsOfTurn (hq.1 hk) _) (va_cwU (owner := "HermitsSpoon$Hermit") (x := ⟨"HermitsSpoon$Hermit", "beatsOfTurn", "()I"⟩) 0 C.2.2.2.2 (goodU (lwg_at 740 (by decide +kernel) rfl) (lwg_at 743 (by decide +kernel) rfl) (lwg_at 742 (by decide +kernel) rfl) (lwg_at 741 (by decide +kernel) rfl) (lwg_at 82 (by decide +kernel) rfl) (lwg_at 750 (by decide +kernel) rfl)) rfl rfl rfl rfl (by decide +kernel) ⟨Nat.le_trans (by decide) hRf, Nat.le_trans (by decide) hRl⟩) (ci := kc 0) rfl rfl (q0 := 36 + x0.val) (by rw [← hk]; exact xw_H g σ x0) rfl hls rfl hro hd ⟨Nat.zero_le _, Nat.zero_le _⟩) kk)
    (fun hk => w_calli hW (w_runU C hW (Cn := "HermitsSpoon$Slow") (mX7_beatsOfTurn (hq.2.1 hk) _) (va_cwO (owner := "HermitsSpoon$Hermit") (x := ⟨"HermitsSpoon$Hermit", "beatsOfTurn", "()I"⟩) 0 C.2.2.2.2 (goodO (lwg_at 740 (by decide +kernel) rfl) (lwg_at 743 (by decide +kernel) rfl) (lwg_at 741 (by decide +kernel) rfl) (lwg_at 749 (by decide +kernel) rfl) (lwg_at 746 (by decide +kernel) rfl) (lwg_at 83 (by decide +kernel) rfl) (lwg_at 747 (by decide +kernel) rfl)) rfl rfl rfl (b0 := cX4_beatsOfTurn) (m0 := 1) (r0 := (some .int)) (lwg_at 750 (by decide +kernel) rfl) (by decide +kernel) ⟨Nat.le_trans (by decide) hRf, Nat.le_trans (by decide) hRl⟩) (ci := kc 1) rfl rfl (q0 := 36 + x0.val) (by rw [← hk]; exact xw_H g σ x0) rfl hls rfl hro hd ⟨Nat.zero_le _, Nat.zero_le _⟩) kk)
    (fun hk => w_calli hW (w_runU C hW (Cn := "HermitsSpoon$Deaf") (mX4_beatsOfTurn (hq.2.2.1 hk) _) (va_cwU (owner := "HermitsSpoon$Hermit") (x := ⟨"HermitsSpoon$Hermit", "beatsOfTurn", "()I"⟩) 0 C.2.2.2.2 (goodU (lwg_at 740 (by decide +kernel) rfl) (lwg_at 743 (by decide +kernel) rfl) (lwg_at 744 (by decide +kernel) rfl) (lwg_at 741 (by decide +kernel) rfl) (lwg_at 82 (by decide +kernel) rfl) (lwg_at 750 (by decide +kernel) rfl)) rfl rfl rfl rfl (by decide +kernel) ⟨Nat.le_trans (by decide) hRf, Nat.le_trans (by decide) hRl⟩) (ci := kc 2) rfl rfl (q0 := 36 + x0.val) (by rw [← hk]; exact xw_H g σ x0) rfl hls rfl hro hd ⟨Nat.zero_le _, Nat.zero_le _⟩) kk)
    (fun hk => w_calli hW (w_runU C hW (Cn := "HermitsSpoon$Greedy") (mX4_beatsOfTurn (hq.2.2.2.1 hk) _) (va_cwU (owner := "HermitsSpoon$Hermit") (x := ⟨"HermitsSpoon$Hermit", "beatsOfTurn", "()I"⟩) 0 C.2.2.2.2 (goodU (lwg_at 740 (by decide +kernel) rfl) (lwg_at 743 (by decide +kernel) rfl) (lwg_at 748 (by decide +kernel) rfl) (lwg_at 741 (by decide +kernel) rfl) (lwg_at 82 (by decide +kernel) rfl) (lwg_at 750 (by decide +kernel) rfl)) rfl rfl rfl rfl (by decide +kernel) ⟨Nat.le_trans (by decide) hRf, Nat.le_trans (by decide) hRl⟩) (ci := kc 3) rfl rfl (q0 := 36 + x0.val) (by rw [← hk]; exact xw_H g σ x0) rfl hls rfl hro hd ⟨Nat.zero_le _, Nat.zero_le _⟩) kk)
    (fun hk => w_calli hW (w_runU C hW (Cn := "HermitsSpoon$Feeder") (mX7_beatsOfTurn (hq.2.2.2.2 hk) _) (va_cwO (owner := "HermitsSpoon$Hermit") (x := ⟨"HermitsSpoon$Hermit", "beatsOfTurn", "()I"⟩) 0 C.2.2.2.2 (goodO (lwg_at 740 (by decide +kernel) rfl) (lwg_at 743 (by decide +kernel) rfl) (lwg_at 741 (by decide +kernel) rfl) (lwg_at 745 (by decide +kernel) rfl) (lwg_at 746 (by decide +kernel) rfl) (lwg_at 83 (by decide +kernel) rfl) (lwg_at 747 (by decide +kernel) rfl)) rfl rfl rfl (b0 := cX4_beatsOfTurn) (m0 := 1) (r0 := (some .int)) (lwg_at 750 (by decide +kernel) rfl) (by decide +kernel) ⟨Nat.le_trans (by decide) hRf, Nat.le_trans (by decide) hRl⟩) (ci := kc 4) rfl rfl (q0 := 36 + x0.val) (by rw [← hk]; exact xw_H g σ x0) rfl hls rfl hro hd ⟨Nat.zero_le _, Nat.zero_le _⟩) kk)
    rfl
-- X6_passTime
set_option maxHeartbeats 4000000 in
set_option maxRecDepth 100000 in
theorem wX6_passTime (C : CallFix p m c cX6_passTime 2 s args lwg RX6) (hRf : 1 ≤ R.frames) (hRl : 21 ≤ R.locals) {P : XS → Prop} (hret : RetV g.1 (xw g) (xty g) A p l e R s m args below meth c 0 0 Q cX6_passTime P) {σ : XS} {x1 : Int32} {H : Heap} {locs : List Loc} {ls : Array Slot} (hW : WI g.1 (xw g) (xty g) A s σ H locs) (hl : lv_has ls 2 [(0, .ref (g.2.1 17)), (1, .int x1)]) (hq : qX6_passTime g σ x1 P) : W p l e R s m args below meth c H locs 0 0 Q (F0 m 0 ls []) := by
  have hx := C.1
  have hb := C.2.1
  unfold qX6_passTime at hq
  refine lv_aload_n hx hb dX6_passTime_0 rfl (lv_at hl 0 rfl) ?_
  refine lv_dup hx hb dX6_passTime_1 rfl ?_
  refine xg_X6_55 C hW dX6_passTime_2 ?_
  refine lv_iload_n hx hb dX6_passTime_5 rfl (lv_at hl 1 rfl) ?_
  refine lv_iadd hx hb dX6_passTime_6 ?_
  refine xp_X6_55 C hW dX6_passTime_7 (fun σ_1 H locs eσ_1 hW => ?_)
  replace hq := hq _ eσ_1
  refine lv_aload_n hx hb dX6_passTime_10 rfl (lv_at hl 0 rfl) ?_
  refine lv_aload_n hx hb dX6_passTime_11 rfl (lv_at hl 0 rfl) ?_
  refine xg_X6_44 C hW dX6_passTime_12 ?_
  refine lv_iload_n hx hb dX6_passTime_15 rfl (lv_at hl 1 rfl) ?_
  refine lv_isub hx hb dX6_passTime_16 ?_
  refine lv_iconst (v := 0) hx hb dX6_passTime_17 (by decide) ?_
  refine xm_X6_165 C (Nat.le_trans (by decide) hRf) (Nat.le_trans (by decide) hRl) hl.1 (Nat.le_of_ble_eq_true rfl) dX6_passTime_18 ?_
  refine lv_topi (fun v_2 ev_2 => ?_)
  replace hq := hq _ ev_2
  refine xp_X6_44 C hW dX6_passTime_21 (fun σ_3 H locs eσ_3 hW => ?_)
  replace hq := hq _ eσ_3
  exact hret _ _ _ _ _ dX6_passTime_24 hW hq
set_option maxHeartbeats 4000000 in
set_option maxRecDepth 100000 in
theorem mX6_passTime {l : Launch} {g : XG} {σ : XS} {x1 : Int32} {P : XS → Prop} (hq : qX6_passTime g σ x1 P) (sz : Nat) : Met l yX6_passTime (cws yX6_passTime cX6_passTime 2 none) ({ frames := 1, cells := 0, slots := 0, locals := 21 } : Room) (va_Pc [.ref (g.2.1 17), .int x1] (WP g.1 (xw g) (xty g) σ sz)) (va_Qv P (WB g.1 (xw g) (xty g) σ sz) (va_A (xw g σ) sz)) 0 0 (va_A (xw g σ) sz) :=
  w_enter (by decide) (Nat.le_of_ble_eq_true rfl) (fun p e s m args below meth c ls C hr hk hn hs hW hl => wX6_passTime C (Nat.le_refl _) (Nat.le_refl _) (fun pc ls σ H locs hd hW hq => w_vret C hs hr hk hW hd hq) hW hl hq)
set_option maxHeartbeats 4000000 in
set_option maxRecDepth 100000 in
theorem kX6_passTime_X6_108 (C : CallFix p m c cc nL s args lwg RX6) {σ : XS} (hW : WI g.1 (xw g) (xty g) A s σ H locs) (hRf : 2 ≤ R.frames) (hRl : 42 ≤ R.locals) (hls : ls.size = nL) (hro : (rest.map fun v => v.category).sum ≤ 8) {x1 : Int32} (hd : decode cc pc = .ok (.invokevirtual 108, 3)) {P : XS → Prop} (hq : qX6_passTime g σ x1 P) (kk : ∀ (σ1 : XS) (H : Heap) (locs : List Loc), P σ1 → WI g.1 (xw g) (xty g) A s σ1 H locs → W p l e R s m args below meth c H locs 0 0 Q (F0 m (pc + 3) ls rest)) : W p l e R s m args below meth c H locs 0 0 Q (F0 m pc ls (.int x1 :: .ref (g.2.1 17) :: rest)) :=
  w_callv hW (w_runV C hW (mX6_passTime hq _) ⟨(lwg_at 754 (by decide +kernel) rfl), (lwg_at 72 (by decide +kernel) rfl), (lwg_at 751 (by decide +kernel) rfl)⟩ (lwg_at 753 (by decide +kernel) rfl) (lwg_at 19 (by decide +kernel) rfl) (np := 1) (by decide +kernel) ⟨rfl, rfl⟩ ⟨hRf, hRl⟩ (ci := 7) rfl rfl (q0 := 17) rfl rfl hls rfl hro hd ⟨Nat.zero_le _, Nat.zero_le _⟩) kk
-- X6_goRound
set_option maxHeartbeats 4000000 in
set_option maxRecDepth 100000 in
theorem wX6_goRound_J73 (C : CallFix p m c cX6_goRound 7 s args lwg RX6) (hRf : 6 ≤ R.frames) (hRl : 139 ≤ R.locals) {P : XS → Prop} (hret : RetV g.1 (xw g) (xty g) A p l e R s m args below meth c 0 0 Q cX6_goRound P) {k3 : XS → Fin (nV g) → Int32 → Int32 → Int32 → Int32 → Prop} (hk3 : ∀ (σ : XS) (x1 : Fin (nV g)) (x2 : Int32) (x4 : Int32) (x5 : Int32) (x6 : Int32) (H : Heap) (locs : List Loc) (ls : Array Slot), WI g.1 (xw g) (xty g) A s σ H locs → lv_has ls 7 [(0, .ref (g.2.1 17)), (1, .ref (vA g x1)), (2, .int x2), (4, .int x4), (5, .int x5), (6, .int x6)] → k3 σ x1 x2 x4 x5 x6 → W p l e R s m args below meth c H locs 0 0 Q (F0 m 3 ls [])) {σ : XS} {x1 : Fin (nV g)} {x2 : Int32} {x4 : Int32} {x5 : Int32} {x6 : Int32} {H : Heap} {locs : List Loc} {ls : Array Slot} (hW : WI g.1 (xw g) (xty g) A s σ H locs) (hl : lv_has ls 7 [(0, .ref (g.2.1 17)), (1, .ref (vA g x1)), (2, .int x2), (4, .int x4), (5, .int x5), (6, .int x6)]) (hq : qX6_goRound_J73 g k3 P σ x1 x2 x4 x5 x6) : W p l e R s m args below meth c H locs 0 0 Q (F0 m 73 ls []) := by
  have hx := C.1
  have hb := C.2.1
  unfold qX6_goRound_J73 at hq
  refine lv_aload_n hx hb dX6_goRound_73 rfl (lv_at hl 0 rfl) ?_
  refine lv_aload_n hx hb dX6_goRound_74 rfl (lv_at hl 0 rfl) ?_
  refine xg_X6_27 C hW dX6_goRound_75 ?_
  refine lv_iload hx hb dX6_goRound_78 (lv_at hl 5 rfl) ?_
  refine kX8_hermitIn_X6_99 C hW (Nat.le_trans (by decide) hRf) (Nat.le_trans (by decide) hRl) hl.1 (Nat.le_of_ble_eq_true rfl) dX6_goRound_80 hq (fun r_2 σ_1 H locs hq hW => ?_)
  refine kV_beatsOfTurn_X6_103 C hW (Nat.le_trans (by decide) hRf) (Nat.le_trans (by decide) hRl) hl.1 (Nat.le_of_ble_eq_true rfl) dX6_goRound_83 hq (fun r_4 σ_3 H locs hq hW => ?_)
  refine kX6_passTime_X6_108 C hW (Nat.le_trans (by decide) hRf) (Nat.le_trans (by decide) hRl) hl.1 (Nat.le_of_ble_eq_true rfl) dX6_goRound_86 hq (fun σ_5 H locs hq hW => ?_)
  refine lv_aload_n hx hb dX6_goRound_89 rfl (lv_at hl 0 rfl) ?_
  refine xg_X6_27 C hW dX6_goRound_90 ?_
  refine lv_iload hx hb dX6_goRound_93 (lv_at hl 5 rfl) ?_
  refine lv_aload_n hx hb dX6_goRound_95 rfl (lv_at hl 1 rfl) ?_
  refine xg_X6_111 C hW dX6_goRound_96 ?_
  refine kX8_seatBeside_X6_115 C hW (Nat.le_trans (by decide) hRf) (Nat.le_trans (by decide) hRl) hl.1 (Nat.le_of_ble_eq_true rfl) dX6_goRound_99 hq (fun r_7 σ_6 H locs hq hW => ?_)
  refine lv_istore (lv' := [(6, .int r_7), (0, .ref (g.2.1 17)), (1, .ref (vA g x1)), (2, .int x2), (4, .int x4), (5, .int x5)]) hx hb dX6_goRound_102 hl (by decide) rfl (fun ls hl => ?_)
  refine lv_goto (tgt := 3) hx hb dX6_goRound_104 (by decide) ?_
  exact hk3 _ _ _ _ _ _ _ _ _ hW (lv_sub hl [1, 2, 3, 4, 5, 0] rfl) hq
set_option maxHeartbeats 4000000 in
set_option maxRecDepth 100000 in
theorem wX6_goRound_J67 (C : CallFix p m c cX6_goRound 7 s args lwg RX6) (hRf : 6 ≤ R.frames) (hRl : 139 ≤ R.locals) {P : XS → Prop} (hret : RetV g.1 (xw g) (xty g) A p l e R s m args below meth c 0 0 Q cX6_goRound P) {k3 : XS → Fin (nV g) → Int32 → Int32 → Int32 → Int32 → Prop} (hk3 : ∀ (σ : XS) (x1 : Fin (nV g)) (x2 : Int32) (x4 : Int32) (x5 : Int32) (x6 : Int32) (H : Heap) (locs : List Loc) (ls : Array Slot), WI g.1 (xw g) (xty g) A s σ H locs → lv_has ls 7 [(0, .ref (g.2.1 17)), (1, .ref (vA g x1)), (2, .int x2), (4, .int x4), (5, .int x5), (6, .int x6)] → k3 σ x1 x2 x4 x5 x6 → W p l e R s m args below meth c H locs 0 0 Q (F0 m 3 ls [])) {σ : XS} {x1 : Fin (nV g)} {x2 : Int32} {x4 : Int32} {x5 : Int32} {x6 : Int32} {H : Heap} {locs : List Loc} {ls : Array Slot} (hW : WI g.1 (xw g) (xty g) A s σ H locs) (hl : lv_has ls 7 [(0, .ref (g.2.1 17)), (1, .ref (vA g x1)), (2, .int x2), (4, .int x4), (5, .int x5), (6, .int x6)]) (hq : qX6_goRound_J67 g k3 P σ x1 x2 x4 x5 x6) : W p l e R s m args below meth c H locs 0 0 Q (F0 m 67 ls []) := by
  have hx := C.1
  have hb := C.2.1
  unfold qX6_goRound_J67 at hq
  refine lv_aload_n hx hb dX6_goRound_67 rfl (lv_at hl 0 rfl) ?_
  refine lv_iload hx hb dX6_goRound_68 (lv_at hl 5 rfl) ?_
  refine kX6_eat_X6_95 C hW (Nat.le_trans (by decide) hRf) (Nat.le_trans (by decide) hRl) hl.1 (Nat.le_of_ble_eq_true rfl) dX6_goRound_70 hq (fun σ_1 H locs hq hW => ?_)
  exact wX6_goRound_J73 C hRf hRl hret hk3 hW hl hq
set_option maxHeartbeats 4000000 in
set_option maxRecDepth 100000 in
theorem wX6_goRound_L3 (C : CallFix p m c cX6_goRound 7 s args lwg RX6) (hRf : 6 ≤ R.frames) (hRl : 139 ≤ R.locals) {P : XS → Prop} (hret : RetV g.1 (xw g) (xty g) A p l e R s m args below meth c 0 0 Q cX6_goRound P) : ∀ (n : Nat) (σ : XS) (x1 : Fin (nV g)) (x2 : Int32) (x4 : Int32) (x5 : Int32) (x6 : Int32) (H : Heap) (locs : List Loc) (ls : Array Slot), WI g.1 (xw g) (xty g) A s σ H locs → lv_has ls 7 [(0, .ref (g.2.1 17)), (1, .ref (vA g x1)), (2, .int x2), (4, .int x4), (5, .int x5), (6, .int x6)] → qX6_goRound_L3 g  P n σ x1 x2 x4 x5 x6 → W p l e R s m args below meth c H locs 0 0 Q (F0 m 3 ls []) := by
  have hx := C.1
  have hb := C.2.1
  intro n
  induction n with
  | zero =>
    intro σ x1 x2 x4 x5 x6 H locs ls hW hl hq
    rw [qX6_goRound_L3] at hq
    exact hq.elim
  | succ n ih =>
    intro σ x1 x2 x4 x5 x6 H locs ls hW hl hq
    rw [qX6_goRound_L3] at hq
    refine lv_aload_n hx hb dX6_goRound_3 rfl (lv_at hl 0 rfl) ?_
    refine xg_X6_52 C hW dX6_goRound_4 ?_
    refine lv_iload hx hb dX6_goRound_7 (lv_at hl 4 rfl) ?_
    refine lv_icmp_ge (tgt := 107) hx hb dX6_goRound_9 (by decide) (fun h => ?_) (fun h => ?_)
    · replace hq := br_pos h hq
      exact hret _ _ _ _ _ dX6_goRound_107 hW hq
    · replace hq := br_neg h hq
      refine lv_aload_n hx hb dX6_goRound_12 rfl (lv_at hl 0 rfl) ?_
      refine kX6_isOver_X6_84 C hW (Nat.le_trans (by decide) hRf) (Nat.le_trans (by decide) hRl) hl.1 (Nat.le_of_ble_eq_true rfl) dX6_goRound_13 hq (fun r_2 σ_1 H locs hq hW => ?_)
      refine lv_if_ne (tgt := 107) hx hb dX6_goRound_16 (by decide) (fun h => ?_) (fun h => ?_)
      · replace hq := br_neg h hq
        exact hret _ _ _ _ _ dX6_goRound_107 hW hq
      · replace hq := br_pos h hq
        refine lv_aload_n hx hb dX6_goRound_19 rfl (lv_at hl 0 rfl) ?_
        refine lv_aload_n hx hb dX6_goRound_20 rfl (lv_at hl 1 rfl) ?_
        refine lv_iload hx hb dX6_goRound_21 (lv_at hl 5 rfl) ?_
        refine lv_iload hx hb dX6_goRound_23 (lv_at hl 3 rfl) ?_
        refine kX6_seatServed_X6_88 C hW (Nat.le_trans (by decide) hRf) (Nat.le_trans (by decide) hRl) hl.1 (Nat.le_of_ble_eq_true rfl) dX6_goRound_25 hq (fun r_4 σ_3 H locs hq hW => ?_)
        refine lv_istore (lv' := [(6, .int r_4), (0, .ref (g.2.1 17)), (1, .ref (vA g x1)), (2, .int x2), (4, .int x4), (5, .int x5)]) hx hb dX6_goRound_28 hl (by decide) rfl (fun ls hl => ?_)
        refine lv_iload hx hb dX6_goRound_30 (lv_at hl 0 rfl) ?_
        refine lv_iconst (v := (-1)) hx hb dX6_goRound_32 (by decide) ?_
        refine lv_icmp_ne (tgt := 37) hx hb dX6_goRound_33 (by decide) (fun h => ?_) (fun h => ?_)
        · replace hq := br_neg h hq
          refine lv_aload_n hx hb dX6_goRound_37 rfl (lv_at hl 1 rfl) ?_
          refine lv_dup hx hb dX6_goRound_38 rfl ?_
          refine xg_X6_52 C hW dX6_goRound_39 ?_
          refine lv_iconst (v := 1) hx hb dX6_goRound_42 (by decide) ?_
          refine lv_iadd hx hb dX6_goRound_43 ?_
          refine xp_X6_52 C hW dX6_goRound_44 (fun σ_5 H locs eσ_5 hW => ?_)
          replace hq := hq _ eσ_5
          refine lv_iload_n hx hb dX6_goRound_47 rfl (lv_at hl 3 rfl) ?_
          refine lv_if_le (tgt := 67) hx hb dX6_goRound_48 (by decide) (fun h => ?_) (fun h => ?_)
          · replace hq := br_pos h hq
            exact wX6_goRound_J67 C hRf hRl hret ih hW (lv_sub hl [1, 2, 3, 4, 5, 0] rfl) hq
          · replace hq := br_neg h hq
            refine lv_aload_n hx hb dX6_goRound_51 rfl (lv_at hl 1 rfl) ?_
            refine xg_X6_52 C hW dX6_goRound_52 ?_
            refine lv_iload_n hx hb dX6_goRound_55 rfl (lv_at hl 3 rfl) ?_
            obtain ⟨hne, hq⟩ := hq
            refine w_irem hx hb dX6_goRound_56 hne ?_
            refine lv_if_ne (tgt := 67) hx hb dX6_goRound_57 (by decide) (fun h => ?_) (fun h => ?_)
            · replace hq := br_neg h hq
              exact wX6_goRound_J67 C hRf hRl hret ih hW (lv_sub hl [1, 2, 3, 4, 5, 0] rfl) hq
            · replace hq := br_pos h hq
              refine lv_aload_n hx hb dX6_goRound_60 rfl (lv_at hl 1 rfl) ?_
              refine kX6_stir_X6_92 C hW (Nat.le_trans (by decide) hRf) (Nat.le_trans (by decide) hRl) hl.1 (Nat.le_of_ble_eq_true rfl) dX6_goRound_61 hq (fun σ_6 H locs hq hW => ?_)
              refine lv_goto (tgt := 73) hx hb dX6_goRound_64 (by decide) ?_
              exact wX6_goRound_J73 C hRf hRl hret ih hW (lv_sub hl [1, 2, 3, 4, 5, 0] rfl) hq
        · replace hq := br_pos h hq
          exact hret _ _ _ _ _ dX6_goRound_36 hW hq
set_option maxHeartbeats 4000000 in
set_option maxRecDepth 100000 in
theorem wX6_goRound (C : CallFix p m c cX6_goRound 7 s args lwg RX6) (hRf : 6 ≤ R.frames) (hRl : 139 ≤ R.locals) {P : XS → Prop} (hret : RetV g.1 (xw g) (xty g) A p l e R s m args below meth c 0 0 Q cX6_goRound P) {σ : XS} {x1 : Fin (nV g)} {x2 : Int32} {x3 : Int32} {x4 : Int32} {x5 : Int32} {H : Heap} {locs : List Loc} {ls : Array Slot} (hW : WI g.1 (xw g) (xty g) A s σ H locs) (hl : lv_has ls 7 [(0, .ref (g.2.1 17)), (1, .ref (vA g x1)), (2, .int x2), (3, .int x3), (4, .int x4), (5, .int x5)]) (hq : qX6_goRound g σ x1 x2 x3 x4 x5 P) : W p l e R s m args below meth c H locs 0 0 Q (F0 m 0 ls []) := by
  have hx := C.1
  have hb := C.2.1
  unfold qX6_goRound at hq
  refine lv_iload_n hx hb dX6_goRound_0 rfl (lv_at hl 3 rfl) ?_
  refine lv_istore (lv' := [(6, .int x3), (0, .ref (g.2.1 17)), (1, .ref (vA g x1)), (2, .int x2), (3, .int x3), (4, .int x4), (5, .int x5)]) hx hb dX6_goRound_1 hl (by decide) rfl (fun ls hl => ?_)
  obtain ⟨f3, hq⟩ := hq
  exact wX6_goRound_L3 C hRf hRl hret f3 _ _ _ _ _ _ _ _ _ hW (lv_sub hl [1, 2, 3, 5, 6, 0] rfl) hq
set_option maxHeartbeats 4000000 in
set_option maxRecDepth 100000 in
theorem mX6_goRound {l : Launch} {g : XG} {σ : XS} {x1 : Fin (nV g)} {x2 : Int32} {x3 : Int32} {x4 : Int32} {x5 : Int32} {P : XS → Prop} (hq : qX6_goRound g σ x1 x2 x3 x4 x5 P) (sz : Nat) : Met l yX6_goRound (cws yX6_goRound cX6_goRound 7 none) ({ frames := 6, cells := 0, slots := 0, locals := 139 } : Room) (va_Pc [.ref (g.2.1 17), .ref (vA g x1), .int x2, .int x3, .int x4, .int x5] (WP g.1 (xw g) (xty g) σ sz)) (va_Qv P (WB g.1 (xw g) (xty g) σ sz) (va_A (xw g σ) sz)) 0 0 (va_A (xw g σ) sz) :=
  w_enter (by decide) (Nat.le_of_ble_eq_true rfl) (fun p e s m args below meth c ls C hr hk hn hs hW hl => wX6_goRound C (Nat.le_refl _) (Nat.le_refl _) (fun pc ls σ H locs hd hW hq => w_vret C hs hr hk hW hd hq) hW hl hq)
set_option maxHeartbeats 4000000 in
set_option maxRecDepth 100000 in
theorem kX6_goRound_X10_180 (C : CallFix p m c cc nL s args lwg RX10) {σ : XS} (hW : WI g.1 (xw g) (xty g) A s σ H locs) (hRf : 7 ≤ R.frames) (hRl : 165 ≤ R.locals) (hls : ls.size = nL) (hro : (rest.map fun v => v.category).sum ≤ 8) {x1 : Fin (nV g)} {x2 : Int32} {x3 : Int32} {x4 : Int32} {x5 : Int32} (hd : decode cc pc = .ok (.invokevirtual 180, 3)) {P : XS → Prop} (hq : qX6_goRound g σ x1 x2 x3 x4 x5 P) (kk : ∀ (σ1 : XS) (H : Heap) (locs : List Loc), P σ1 → WI g.1 (xw g) (xty g) A s σ1 H locs → W p l e R s m args below meth c H locs 0 0 Q (F0 m (pc + 3) ls rest)) : W p l e R s m args below meth c H locs 0 0 Q (F0 m pc ls (.int x5 :: .int x4 :: .int x3 :: .int x2 :: .ref (vA g x1) :: .ref (g.2.1 17) :: rest)) :=
  w_callv hW (w_runV C hW (mX6_goRound hq _) ⟨(lwg_at 646 (by decide +kernel) rfl), (lwg_at 72 (by decide +kernel) rfl), (lwg_at 769 (by decide +kernel) rfl)⟩ (lwg_at 644 (by decide +kernel) rfl) (lwg_at 645 (by decide +kernel) rfl) (np := 5) (by decide +kernel) ⟨rfl, rfl⟩ ⟨hRf, hRl⟩ (ci := 7) rfl rfl (q0 := 17) rfl rfl hls rfl hro hd ⟨Nat.zero_le _, Nat.zero_le _⟩) kk
set_option maxHeartbeats 4000000 in
set_option maxRecDepth 100000 in
theorem kX6_goRound_X6_77 (C : CallFix p m c cc nL s args lwg RX6) {σ : XS} (hW : WI g.1 (xw g) (xty g) A s σ H locs) (hRf : 7 ≤ R.frames) (hRl : 165 ≤ R.locals) (hls : ls.size = nL) (hro : (rest.map fun v => v.category).sum ≤ 8) {x1 : Fin (nV g)} {x2 : Int32} {x3 : Int32} {x4 : Int32} {x5 : Int32} (hd : decode cc pc = .ok (.invokevirtual 77, 3)) {P : XS → Prop} (hq : qX6_goRound g σ x1 x2 x3 x4 x5 P) (kk : ∀ (σ1 : XS) (H : Heap) (locs : List Loc), P σ1 → WI g.1 (xw g) (xty g) A s σ1 H locs → W p l e R s m args below meth c H locs 0 0 Q (F0 m (pc + 3) ls rest)) : W p l e R s m args below meth c H locs 0 0 Q (F0 m pc ls (.int x5 :: .int x4 :: .int x3 :: .int x2 :: .ref (vA g x1) :: .ref (g.2.1 17) :: rest)) :=
  w_callv hW (w_runV C hW (mX6_goRound hq _) ⟨(lwg_at 646 (by decide +kernel) rfl), (lwg_at 72 (by decide +kernel) rfl), (lwg_at 643 (by decide +kernel) rfl)⟩ (lwg_at 644 (by decide +kernel) rfl) (lwg_at 645 (by decide +kernel) rfl) (np := 5) (by decide +kernel) ⟨rfl, rfl⟩ ⟨hRf, hRl⟩ (ci := 7) rfl rfl (q0 := 17) rfl rfl hls rfl hro hd ⟨Nat.zero_le _, Nat.zero_le _⟩) kk
-- X6_leastSurplus
set_option maxHeartbeats 4000000 in
set_option maxRecDepth 100000 in
theorem wX6_leastSurplus_J72 (C : CallFix p m c cX6_leastSurplus 5 s args lwg RX6) (hRf : 3 ≤ R.frames) (hRl : 64 ≤ R.locals) {P : Int32 → XS → Prop} (hret : RetI g.1 (xw g) (xty g) A p l e R s m args below meth c 0 0 Q cX6_leastSurplus P) {k6 : XS → Int32 → Int32 → Int32 → Prop} (hk6 : ∀ (σ : XS) (x1 : Int32) (x2 : Int32) (x3 : Int32) (H : Heap) (locs : List Loc) (ls : Array Slot), WI g.1 (xw g) (xty g) A s σ H locs → lv_has ls 5 [(0, .ref (g.2.1 17)), (1, .int x1), (2, .int x2), (3, .int x3)] → k6 σ x1 x2 x3 → W p l e R s m args below meth c H locs 0 0 Q (F0 m 6 ls [])) {σ : XS} {x1 : Int32} {x2 : Int32} {x3 : Int32} {H : Heap} {locs : List Loc} {ls : Array Slot} (hW : WI g.1 (xw g) (xty g) A s σ H locs) (hl : lv_has ls 5 [(0, .ref (g.2.1 17)), (1, .int x1), (2, .int x2), (3, .int x3)]) (hq : qX6_leastSurplus_J72 g k6 P σ x1 x2 x3) : W p l e R s m args below meth c H locs 0 0 Q (F0 m 72 ls []) := by
  have hx := C.1
  have hb := C.2.1
  unfold qX6_leastSurplus_J72 at hq
  obtain ⟨x3_1, ex3_1⟩ : ∃ y : Int32, y = x3 + 1 := ⟨_, rfl⟩
  replace hq := hq _ ex3_1
  refine lv_iinc (v := x3_1) (lv' := [(3, .int x3_1), (0, .ref (g.2.1 17)), (1, .int x1), (2, .int x2)]) hx hb dX6_leastSurplus_72 hl (k := 3) rfl (by rw [ex3_1]; rfl) (by decide) rfl (fun ls hl => ?_)
  refine lv_goto (tgt := 6) hx hb dX6_leastSurplus_75 (by decide) ?_
  exact hk6 _ _ _ _ _ _ _ hW (lv_sub hl [1, 2, 3, 0] rfl) hq
set_option maxHeartbeats 4000000 in
set_option maxRecDepth 100000 in
theorem wX6_leastSurplus_J67 (C : CallFix p m c cX6_leastSurplus 5 s args lwg RX6) (hRf : 3 ≤ R.frames) (hRl : 64 ≤ R.locals) {P : Int32 → XS → Prop} (hret : RetI g.1 (xw g) (xty g) A p l e R s m args below meth c 0 0 Q cX6_leastSurplus P) {k6 : XS → Int32 → Int32 → Int32 → Prop} (hk6 : ∀ (σ : XS) (x1 : Int32) (x2 : Int32) (x3 : Int32) (H : Heap) (locs : List Loc) (ls : Array Slot), WI g.1 (xw g) (xty g) A s σ H locs → lv_has ls 5 [(0, .ref (g.2.1 17)), (1, .int x1), (2, .int x2), (3, .int x3)] → k6 σ x1 x2 x3 → W p l e R s m args below meth c H locs 0 0 Q (F0 m 6 ls [])) {σ : XS} {x3 : Int32} {x4 : Int32} {H : Heap} {locs : List Loc} {ls : Array Slot} (hW : WI g.1 (xw g) (xty g) A s σ H locs) (hl : lv_has ls 5 [(0, .ref (g.2.1 17)), (3, .int x3), (4, .int x4)]) (hq : qX6_leastSurplus_J67 g k6 P σ x3 x4) : W p l e R s m args below meth c H locs 0 0 Q (F0 m 67 ls []) := by
  have hx := C.1
  have hb := C.2.1
  unfold qX6_leastSurplus_J67 at hq
  refine lv_iconst (v := 1) hx hb dX6_leastSurplus_67 (by decide) ?_
  refine lv_istore_n (lv' := [(1, .int 1), (0, .ref (g.2.1 17)), (3, .int x3), (4, .int x4)]) hx hb dX6_leastSurplus_68 rfl hl (by decide) rfl (fun ls hl => ?_)
  refine lv_iload hx hb dX6_leastSurplus_69 (lv_at hl 3 rfl) ?_
  refine lv_istore_n (lv' := [(2, .int x4), (1, .int 1), (0, .ref (g.2.1 17)), (3, .int x3), (4, .int x4)]) hx hb dX6_leastSurplus_71 rfl hl (by decide) rfl (fun ls hl => ?_)
  exact wX6_leastSurplus_J72 C hRf hRl hret hk6 hW (lv_sub hl [2, 1, 0, 3] rfl) hq
set_option maxHeartbeats 4000000 in
set_option maxRecDepth 100000 in
theorem wX6_leastSurplus_L6 (C : CallFix p m c cX6_leastSurplus 5 s args lwg RX6) (hRf : 3 ≤ R.frames) (hRl : 64 ≤ R.locals) {P : Int32 → XS → Prop} (hret : RetI g.1 (xw g) (xty g) A p l e R s m args below meth c 0 0 Q cX6_leastSurplus P) : ∀ (n : Nat) (σ : XS) (x1 : Int32) (x2 : Int32) (x3 : Int32) (H : Heap) (locs : List Loc) (ls : Array Slot), WI g.1 (xw g) (xty g) A s σ H locs → lv_has ls 5 [(0, .ref (g.2.1 17)), (1, .int x1), (2, .int x2), (3, .int x3)] → qX6_leastSurplus_L6 g  P n σ x1 x2 x3 → W p l e R s m args below meth c H locs 0 0 Q (F0 m 6 ls []) := by
  have hx := C.1
  have hb := C.2.1
  intro n
  induction n with
  | zero =>
    intro σ x1 x2 x3 H locs ls hW hl hq
    rw [qX6_leastSurplus_L6] at hq
    exact hq.elim
  | succ n ih =>
    intro σ x1 x2 x3 H locs ls hW hl hq
    rw [qX6_leastSurplus_L6] at hq
    refine lv_iload_n hx hb dX6_leastSurplus_6 rfl (lv_at hl 3 rfl) ?_
    refine lv_aload_n hx hb dX6_leastSurplus_7 rfl (lv_at hl 0 rfl) ?_
    refine xg_X6_27 C hW dX6_leastSurplus_8 ?_
    refine xg_X6_119 C hW dX6_leastSurplus_11 ?_
    refine xsiz_H_X6_123 C hW (Nat.le_trans (by decide) hRf) (Nat.le_trans (by decide) hRl) hl.1 (Nat.le_of_ble_eq_true rfl) dX6_leastSurplus_14 (fun H locs hW => ?_)
    refine lv_icmp_ge (tgt := 78) hx hb dX6_leastSurplus_17 (by decide) (fun h => ?_) (fun h => ?_)
    · replace hq := br_pos h hq
      refine lv_iload_n hx hb dX6_leastSurplus_78 rfl (lv_at hl 2 rfl) ?_
      exact hret _ _ _ _ _ _ dX6_leastSurplus_79 hW hq
    · replace hq := br_neg h hq
      refine lv_aload_n hx hb dX6_leastSurplus_20 rfl (lv_at hl 0 rfl) ?_
      refine xg_X6_15 C hW dX6_leastSurplus_21 ?_
      refine lv_iload_n hx hb dX6_leastSurplus_24 rfl (lv_at hl 3 rfl) ?_
      obtain ⟨hin1, hq⟩ := hq
      refine xa_R C hW hin1 dX6_leastSurplus_25 ?_
      refine lv_aload_n hx hb dX6_leastSurplus_26 rfl (lv_at hl 0 rfl) ?_
      refine xg_X6_27 C hW dX6_leastSurplus_27 ?_
      refine xg_X6_119 C hW dX6_leastSurplus_30 ?_
      refine lv_iload_n hx hb dX6_leastSurplus_33 rfl (lv_at hl 3 rfl) ?_
      obtain ⟨hin3, hq⟩ := hq
      refine xget_H_X6_134 C hW (Nat.le_trans (by decide) hRf) (Nat.le_trans (by decide) hRl) hl.1 (Nat.le_of_ble_eq_true rfl) hin3 dX6_leastSurplus_34 (fun j_2 H locs hj_2 hW => ?_)
      replace hq := hq j_2 hj_2
      refine xc_X6_104 C hW dX6_leastSurplus_37 ?_
      refine xg_X6_138 C hW dX6_leastSurplus_40 ?_
      refine lv_isub hx hb dX6_leastSurplus_43 ?_
      refine lv_topi (fun x4_4 ex4_4 => ?_)
      replace hq := hq _ ex4_4
      refine lv_istore (lv' := [(4, .int x4_4), (0, .ref (g.2.1 17)), (1, .int x1), (2, .int x2), (3, .int x3)]) hx hb dX6_leastSurplus_44 hl (by decide) rfl (fun ls hl => ?_)
      refine lv_aload_n hx hb dX6_leastSurplus_46 rfl (lv_at hl 1 rfl) ?_
      refine xg_X6_27 C hW dX6_leastSurplus_47 ?_
      refine lv_iload_n hx hb dX6_leastSurplus_50 rfl (lv_at hl 4 rfl) ?_
      refine kX8_isStarved_X6_141 C hW (Nat.le_trans (by decide) hRf) (Nat.le_trans (by decide) hRl) hl.1 (Nat.le_of_ble_eq_true rfl) dX6_leastSurplus_51 hq (fun r_6 σ_5 H locs hq hW => ?_)
      refine lv_if_ne (tgt := 72) hx hb dX6_leastSurplus_54 (by decide) (fun h => ?_) (fun h => ?_)
      · replace hq := br_neg h hq
        exact wX6_leastSurplus_J72 C hRf hRl hret ih hW (lv_sub hl [1, 2, 3, 4] rfl) hq
      · replace hq := br_pos h hq
        refine lv_iload_n hx hb dX6_leastSurplus_57 rfl (lv_at hl 2 rfl) ?_
        refine lv_if_eq (tgt := 67) hx hb dX6_leastSurplus_58 (by decide) (fun h => ?_) (fun h => ?_)
        · replace hq := br_pos h hq
          exact wX6_leastSurplus_J67 C hRf hRl hret ih hW (lv_sub hl [1, 4, 0] rfl) hq
        · replace hq := br_neg h hq
          refine lv_iload hx hb dX6_leastSurplus_61 (lv_at hl 0 rfl) ?_
          refine lv_iload_n hx hb dX6_leastSurplus_63 rfl (lv_at hl 3 rfl) ?_
          refine lv_icmp_ge (tgt := 72) hx hb dX6_leastSurplus_64 (by decide) (fun h => ?_) (fun h => ?_)
          · replace hq := br_pos h hq
            exact wX6_leastSurplus_J72 C hRf hRl hret ih hW (lv_sub hl [1, 2, 3, 4] rfl) hq
          · replace hq := br_neg h hq
            exact wX6_leastSurplus_J67 C hRf hRl hret ih hW (lv_sub hl [1, 4, 0] rfl) hq
set_option maxHeartbeats 4000000 in
set_option maxRecDepth 100000 in
theorem wX6_leastSurplus (C : CallFix p m c cX6_leastSurplus 5 s args lwg RX6) (hRf : 3 ≤ R.frames) (hRl : 64 ≤ R.locals) {P : Int32 → XS → Prop} (hret : RetI g.1 (xw g) (xty g) A p l e R s m args below meth c 0 0 Q cX6_leastSurplus P) {σ : XS} {H : Heap} {locs : List Loc} {ls : Array Slot} (hW : WI g.1 (xw g) (xty g) A s σ H locs) (hl : lv_has ls 5 [(0, .ref (g.2.1 17))]) (hq : qX6_leastSurplus g σ  P) : W p l e R s m args below meth c H locs 0 0 Q (F0 m 0 ls []) := by
  have hx := C.1
  have hb := C.2.1
  unfold qX6_leastSurplus at hq
  refine lv_iconst (v := 0) hx hb dX6_leastSurplus_0 (by decide) ?_
  refine lv_istore_n (lv' := [(1, .int 0), (0, .ref (g.2.1 17))]) hx hb dX6_leastSurplus_1 rfl hl (by decide) rfl (fun ls hl => ?_)
  refine lv_iconst (v := 0) hx hb dX6_leastSurplus_2 (by decide) ?_
  refine lv_istore_n (lv' := [(2, .int 0), (1, .int 0), (0, .ref (g.2.1 17))]) hx hb dX6_leastSurplus_3 rfl hl (by decide) rfl (fun ls hl => ?_)
  refine lv_iconst (v := 0) hx hb dX6_leastSurplus_4 (by decide) ?_
  refine lv_istore_n (lv' := [(3, .int 0), (2, .int 0), (1, .int 0), (0, .ref (g.2.1 17))]) hx hb dX6_leastSurplus_5 rfl hl (by decide) rfl (fun ls hl => ?_)
  obtain ⟨f6, hq⟩ := hq
  exact wX6_leastSurplus_L6 C hRf hRl hret f6 _ _ _ _ _ _ _ hW (lv_sub hl [3, 2, 1, 0] rfl) hq
set_option maxHeartbeats 4000000 in
set_option maxRecDepth 100000 in
theorem mX6_leastSurplus {l : Launch} {g : XG} {σ : XS} {P : Int32 → XS → Prop} (hq : qX6_leastSurplus g σ  P) (sz : Nat) : Met l yX6_leastSurplus (cws yX6_leastSurplus cX6_leastSurplus 5 (some .int)) ({ frames := 3, cells := 0, slots := 0, locals := 64 } : Room) (va_Pc [.ref (g.2.1 17)] (WP g.1 (xw g) (xty g) σ sz)) (va_Qi P (WB g.1 (xw g) (xty g) σ sz) (va_A (xw g σ) sz)) 0 0 (va_A (xw g σ) sz) :=
  w_enter (by decide) (Nat.le_of_ble_eq_true rfl) (fun p e s m args below meth c ls C hr hk hn hs hW hl => wX6_leastSurplus C (Nat.le_refl _) (Nat.le_refl _) (fun pc ls v σ H locs hd hW hq => w_iret C hs hr hk hW hd hq) hW hl hq)
set_option maxHeartbeats 4000000 in
set_option maxRecDepth 100000 in
theorem kX6_leastSurplus_X10_294 (C : CallFix p m c cc nL s args lwg RX10) {σ : XS} (hW : WI g.1 (xw g) (xty g) A s σ H locs) (hRf : 4 ≤ R.frames) (hRl : 88 ≤ R.locals) (hls : ls.size = nL) (hro : (rest.map fun v => v.category).sum ≤ 8) (hd : decode cc pc = .ok (.invokevirtual 294, 3)) {P : Int32 → XS → Prop} (hq : qX6_leastSurplus g σ  P) (kk : ∀ (r : Int32) (σ1 : XS) (H : Heap) (locs : List Loc), P r σ1 → WI g.1 (xw g) (xty g) A s σ1 H locs → W p l e R s m args below meth c H locs 0 0 Q (F0 m (pc + 3) ls (.int r :: rest))) : W p l e R s m args below meth c H locs 0 0 Q (F0 m pc ls (.ref (g.2.1 17) :: rest)) :=
  w_calli hW (w_runV C hW (mX6_leastSurplus hq _) ⟨(lwg_at 781 (by decide +kernel) rfl), (lwg_at 72 (by decide +kernel) rfl), (lwg_at 903 (by decide +kernel) rfl)⟩ (lwg_at 779 (by decide +kernel) rfl) (lwg_at 780 (by decide +kernel) rfl) (np := 0) (by decide +kernel) ⟨rfl, rfl⟩ ⟨hRf, hRl⟩ (ci := 7) rfl rfl (q0 := 17) rfl rfl hls rfl hro hd ⟨Nat.zero_le _, Nat.zero_le _⟩) kk
set_option maxHeartbeats 4000000 in
set_option maxRecDepth 100000 in
theorem kX6_leastSurplus_X6_81 (C : CallFix p m c cc nL s args lwg RX6) {σ : XS} (hW : WI g.1 (xw g) (xty g) A s σ H locs) (hRf : 4 ≤ R.frames) (hRl : 88 ≤ R.locals) (hls : ls.size = nL) (hro : (rest.map fun v => v.category).sum ≤ 8) (hd : decode cc pc = .ok (.invokevirtual 81, 3)) {P : Int32 → XS → Prop} (hq : qX6_leastSurplus g σ  P) (kk : ∀ (r : Int32) (σ1 : XS) (H : Heap) (locs : List Loc), P r σ1 → WI g.1 (xw g) (xty g) A s σ1 H locs → W p l e R s m args below meth c H locs 0 0 Q (F0 m (pc + 3) ls (.int r :: rest))) : W p l e R s m args below meth c H locs 0 0 Q (F0 m pc ls (.ref (g.2.1 17) :: rest)) :=
  w_calli hW (w_runV C hW (mX6_leastSurplus hq _) ⟨(lwg_at 781 (by decide +kernel) rfl), (lwg_at 72 (by decide +kernel) rfl), (lwg_at 778 (by decide +kernel) rfl)⟩ (lwg_at 779 (by decide +kernel) rfl) (lwg_at 780 (by decide +kernel) rfl) (np := 0) (by decide +kernel) ⟨rfl, rfl⟩ ⟨hRf, hRl⟩ (ci := 7) rfl rfl (q0 := 17) rfl rfl hls rfl hro hd ⟨Nat.zero_le _, Nat.zero_le _⟩) kk
-- X6_leastOf
set_option maxHeartbeats 4000000 in
set_option maxRecDepth 100000 in
theorem wX6_leastOf (C : CallFix p m c cX6_leastOf 5 s args lwg RX6) (hRf : 7 ≤ R.frames) (hRl : 165 ≤ R.locals) {P : Int32 → XS → Prop} (hret : RetI g.1 (xw g) (xty g) A p l e R s m args below meth c 0 0 Q cX6_leastOf P) {σ : XS} {x1 : Fin 3} {x2 : Fin (nV g)} {x3 : Int32} {x4 : Int32} {H : Heap} {locs : List Loc} {ls : Array Slot} (hW : WI g.1 (xw g) (xty g) A s σ H locs) (hl : lv_has ls 5 [(0, .ref (g.2.1 17)), (1, .ref (tA g x1)), (2, .ref (vA g x2)), (3, .int x3), (4, .int x4)]) (hq : qX6_leastOf g σ x1 x2 x3 x4 P) : W p l e R s m args below meth c H locs 0 0 Q (F0 m 0 ls []) := by
  have hx := C.1
  have hb := C.2.1
  unfold qX6_leastOf at hq
  refine lv_aload_n hx hb dX6_leastOf_0 rfl (lv_at hl 0 rfl) ?_
  refine lv_aload_n hx hb dX6_leastOf_1 rfl (lv_at hl 1 rfl) ?_
  refine kX6_begin_X6_70 C hW (Nat.le_trans (by decide) hRf) (Nat.le_trans (by decide) hRl) hl.1 (Nat.le_of_ble_eq_true rfl) dX6_leastOf_2 hq (fun σ_1 H locs hq hW => ?_)
  refine lv_aload_n hx hb dX6_leastOf_5 rfl (lv_at hl 0 rfl) ?_
  refine lv_aload_n hx hb dX6_leastOf_6 rfl (lv_at hl 2 rfl) ?_
  refine lv_iload_n hx hb dX6_leastOf_7 rfl (lv_at hl 3 rfl) ?_
  refine lv_iload hx hb dX6_leastOf_8 (lv_at hl 4 rfl) ?_
  refine lv_iconst (v := 0) hx hb dX6_leastOf_10 (by decide) ?_
  refine lv_sipush (v := 300) hx hb dX6_leastOf_11 (by decide) ?_
  refine kX6_goRound_X6_77 C hW (Nat.le_trans (by decide) hRf) (Nat.le_trans (by decide) hRl) hl.1 (Nat.le_of_ble_eq_true rfl) dX6_leastOf_14 hq (fun σ_2 H locs hq hW => ?_)
  refine lv_aload_n hx hb dX6_leastOf_17 rfl (lv_at hl 0 rfl) ?_
  refine kX6_leastSurplus_X6_81 C hW (Nat.le_trans (by decide) hRf) (Nat.le_trans (by decide) hRl) hl.1 (Nat.le_of_ble_eq_true rfl) dX6_leastOf_18 hq (fun r_4 σ_3 H locs hq hW => ?_)
  exact hret _ _ _ _ _ _ dX6_leastOf_21 hW hq
set_option maxHeartbeats 4000000 in
set_option maxRecDepth 100000 in
theorem mX6_leastOf {l : Launch} {g : XG} {σ : XS} {x1 : Fin 3} {x2 : Fin (nV g)} {x3 : Int32} {x4 : Int32} {P : Int32 → XS → Prop} (hq : qX6_leastOf g σ x1 x2 x3 x4 P) (sz : Nat) : Met l yX6_leastOf (cws yX6_leastOf cX6_leastOf 5 (some .int)) ({ frames := 7, cells := 0, slots := 0, locals := 165 } : Room) (va_Pc [.ref (g.2.1 17), .ref (tA g x1), .ref (vA g x2), .int x3, .int x4] (WP g.1 (xw g) (xty g) σ sz)) (va_Qi P (WB g.1 (xw g) (xty g) σ sz) (va_A (xw g σ) sz)) 0 0 (va_A (xw g σ) sz) :=
  w_enter (by decide) (Nat.le_of_ble_eq_true rfl) (fun p e s m args below meth c ls C hr hk hn hs hW hl => wX6_leastOf C (Nat.le_refl _) (Nat.le_refl _) (fun pc ls v σ H locs hd hW hq => w_iret C hs hr hk hW hd hq) hW hl hq)
set_option maxHeartbeats 4000000 in
set_option maxRecDepth 100000 in
theorem kX6_leastOf_X10_190 (C : CallFix p m c cc nL s args lwg RX10) {σ : XS} (hW : WI g.1 (xw g) (xty g) A s σ H locs) (hRf : 8 ≤ R.frames) (hRl : 189 ≤ R.locals) (hls : ls.size = nL) (hro : (rest.map fun v => v.category).sum ≤ 8) {x1 : Fin 3} {x2 : Fin (nV g)} {x3 : Int32} {x4 : Int32} (hd : decode cc pc = .ok (.invokevirtual 190, 3)) {P : Int32 → XS → Prop} (hq : qX6_leastOf g σ x1 x2 x3 x4 P) (kk : ∀ (r : Int32) (σ1 : XS) (H : Heap) (locs : List Loc), P r σ1 → WI g.1 (xw g) (xty g) A s σ1 H locs → W p l e R s m args below meth c H locs 0 0 Q (F0 m (pc + 3) ls (.int r :: rest))) : W p l e R s m args below meth c H locs 0 0 Q (F0 m pc ls (.int x4 :: .int x3 :: .ref (vA g x2) :: .ref (tA g x1) :: .ref (g.2.1 17) :: rest)) :=
  w_calli hW (w_runV C hW (mX6_leastOf hq _) ⟨(lwg_at 777 (by decide +kernel) rfl), (lwg_at 72 (by decide +kernel) rfl), (lwg_at 774 (by decide +kernel) rfl)⟩ (lwg_at 775 (by decide +kernel) rfl) (lwg_at 776 (by decide +kernel) rfl) (np := 4) (by decide +kernel) ⟨rfl, rfl⟩ ⟨hRf, hRl⟩ (ci := 7) rfl rfl (q0 := 17) rfl rfl hls rfl hro hd ⟨Nat.zero_le _, Nat.zero_le _⟩) kk
set_option maxHeartbeats 4000000 in
set_option maxRecDepth 100000 in
theorem kX6_leastOf_X0_30 (C : CallFix p m c cc nL s args lwg RX0) {σ : XS} (hW : WI g.1 (xw g) (xty g) A s σ H locs) (hRf : 8 ≤ R.frames) (hRl : 189 ≤ R.locals) (hls : ls.size = nL) (hro : (rest.map fun v => v.category).sum ≤ 8) {x1 : Fin 3} {x2 : Fin (nV g)} {x3 : Int32} {x4 : Int32} (hd : decode cc pc = .ok (.invokevirtual 30, 3)) {P : Int32 → XS → Prop} (hq : qX6_leastOf g σ x1 x2 x3 x4 P) (kk : ∀ (r : Int32) (σ1 : XS) (H : Heap) (locs : List Loc), P r σ1 → WI g.1 (xw g) (xty g) A s σ1 H locs → W p l e R s m args below meth c H locs 0 0 Q (F0 m (pc + 3) ls (.int r :: rest))) : W p l e R s m args below meth c H locs 0 0 Q (F0 m pc ls (.int x4 :: .int x3 :: .ref (vA g x2) :: .ref (tA g x1) :: .ref (g.2.1 17) :: rest)) :=
  w_calli hW (w_runV C hW (mX6_leastOf hq _) ⟨(lwg_at 777 (by decide +kernel) rfl), (lwg_at 72 (by decide +kernel) rfl), (lwg_at 794 (by decide +kernel) rfl)⟩ (lwg_at 775 (by decide +kernel) rfl) (lwg_at 776 (by decide +kernel) rfl) (np := 4) (by decide +kernel) ⟨rfl, rfl⟩ ⟨hRf, hRl⟩ (ci := 7) rfl rfl (q0 := 17) rfl rfl hls rfl hro hd ⟨Nat.zero_le _, Nat.zero_le _⟩) kk
-- X0_startAdvised
set_option maxHeartbeats 4000000 in
set_option maxRecDepth 100000 in
theorem wX0_startAdvised_J64 (C : CallFix p m c cX0_startAdvised 7 s args lwg RX0) (hRf : 8 ≤ R.frames) (hRl : 189 ≤ R.locals) {P : Int32 → XS → Prop} (hret : RetI g.1 (xw g) (xty g) A p l e R s m args below meth c 0 0 Q cX0_startAdvised P) {k21 : XS → Fin 3 → Fin (nV g) → Int32 → Int32 → Int32 → Prop} (hk21 : ∀ (σ : XS) (x1 : Fin 3) (x2 : Fin (nV g)) (x3 : Int32) (x4 : Int32) (x5 : Int32) (H : Heap) (locs : List Loc) (ls : Array Slot), WI g.1 (xw g) (xty g) A s σ H locs → lv_has ls 7 [(0, .ref (g.2.1 23)), (1, .ref (tA g x1)), (2, .ref (vA g x2)), (3, .int x3), (4, .int x4), (5, .int x5)] → k21 σ x1 x2 x3 x4 x5 → W p l e R s m args below meth c H locs 0 0 Q (F0 m 21 ls [])) {σ : XS} {x1 : Fin 3} {x2 : Fin (nV g)} {x3 : Int32} {x4 : Int32} {x5 : Int32} {H : Heap} {locs : List Loc} {ls : Array Slot} (hW : WI g.1 (xw g) (xty g) A s σ H locs) (hl : lv_has ls 7 [(0, .ref (g.2.1 23)), (1, .ref (tA g x1)), (2, .ref (vA g x2)), (3, .int x3), (4, .int x4), (5, .int x5)]) (hq : qX0_startAdvised_J64 g k21 P σ x1 x2 x3 x4 x5) : W p l e R s m args below meth c H locs 0 0 Q (F0 m 64 ls []) := by
  have hx := C.1
  have hb := C.2.1
  unfold qX0_startAdvised_J64 at hq
  obtain ⟨x5_1, ex5_1⟩ : ∃ y : Int32, y = x5 + 1 := ⟨_, rfl⟩
  replace hq := hq _ ex5_1
  refine lv_iinc (v := x5_1) (lv' := [(5, .int x5_1), (0, .ref (g.2.1 23)), (1, .ref (tA g x1)), (2, .ref (vA g x2)), (3, .int x3), (4, .int x4)]) hx hb dX0_startAdvised_64 hl (k := 5) rfl (by rw [ex5_1]; rfl) (by decide) rfl (fun ls hl => ?_)
  refine lv_goto (tgt := 21) hx hb dX0_startAdvised_67 (by decide) ?_
  exact hk21 _ _ _ _ _ _ _ _ _ hW (lv_sub hl [1, 2, 3, 4, 5, 0] rfl) hq
set_option maxHeartbeats 4000000 in
set_option maxRecDepth 100000 in
theorem wX0_startAdvised_L21 (C : CallFix p m c cX0_startAdvised 7 s args lwg RX0) (hRf : 8 ≤ R.frames) (hRl : 189 ≤ R.locals) {P : Int32 → XS → Prop} (hret : RetI g.1 (xw g) (xty g) A p l e R s m args below meth c 0 0 Q cX0_startAdvised P) : ∀ (n : Nat) (σ : XS) (x1 : Fin 3) (x2 : Fin (nV g)) (x3 : Int32) (x4 : Int32) (x5 : Int32) (H : Heap) (locs : List Loc) (ls : Array Slot), WI g.1 (xw g) (xty g) A s σ H locs → lv_has ls 7 [(0, .ref (g.2.1 23)), (1, .ref (tA g x1)), (2, .ref (vA g x2)), (3, .int x3), (4, .int x4), (5, .int x5)] → qX0_startAdvised_L21 g  P n σ x1 x2 x3 x4 x5 → W p l e R s m args below meth c H locs 0 0 Q (F0 m 21 ls []) := by
  have hx := C.1
  have hb := C.2.1
  intro n
  induction n with
  | zero =>
    intro σ x1 x2 x3 x4 x5 H locs ls hW hl hq
    rw [qX0_startAdvised_L21] at hq
    exact hq.elim
  | succ n ih =>
    intro σ x1 x2 x3 x4 x5 H locs ls hW hl hq
    rw [qX0_startAdvised_L21] at hq
    refine lv_iload hx hb dX0_startAdvised_21 (lv_at hl 5 rfl) ?_
    refine lv_aload_n hx hb dX0_startAdvised_23 rfl (lv_at hl 1 rfl) ?_
    refine xg_X0_36 C hW dX0_startAdvised_24 ?_
    refine xsiz_H_X0_42 C hW (Nat.le_trans (by decide) hRf) (Nat.le_trans (by decide) hRl) hl.1 (Nat.le_of_ble_eq_true rfl) dX0_startAdvised_27 (fun H locs hW => ?_)
    refine lv_icmp_ge (tgt := 70) hx hb dX0_startAdvised_30 (by decide) (fun h => ?_) (fun h => ?_)
    · replace hq := br_pos h hq
      refine lv_iload_n hx hb dX0_startAdvised_70 rfl (lv_at hl 3 rfl) ?_
      exact hret _ _ _ _ _ _ dX0_startAdvised_71 hW hq
    · replace hq := br_neg h hq
      refine lv_aload_n hx hb dX0_startAdvised_33 rfl (lv_at hl 0 rfl) ?_
      refine xg_X0_16 C hW dX0_startAdvised_34 ?_
      refine lv_aload_n hx hb dX0_startAdvised_37 rfl (lv_at hl 1 rfl) ?_
      refine lv_aload_n hx hb dX0_startAdvised_38 rfl (lv_at hl 2 rfl) ?_
      refine lv_aload_n hx hb dX0_startAdvised_39 rfl (lv_at hl 2 rfl) ?_
      refine xg_X0_24 C hW dX0_startAdvised_40 ?_
      refine lv_iload hx hb dX0_startAdvised_43 (lv_at hl 5 rfl) ?_
      refine kX6_leastOf_X0_30 C hW (Nat.le_trans (by decide) hRf) (Nat.le_trans (by decide) hRl) hl.1 (Nat.le_of_ble_eq_true rfl) dX0_startAdvised_45 hq (fun r_2 σ_1 H locs hq hW => ?_)
      refine lv_istore (lv' := [(6, .int r_2), (0, .ref (g.2.1 23)), (1, .ref (tA g x1)), (2, .ref (vA g x2)), (3, .int x3), (4, .int x4), (5, .int x5)]) hx hb dX0_startAdvised_48 hl (by decide) rfl (fun ls hl => ?_)
      refine lv_iload hx hb dX0_startAdvised_50 (lv_at hl 0 rfl) ?_
      refine lv_iload hx hb dX0_startAdvised_52 (lv_at hl 5 rfl) ?_
      refine lv_icmp_le (tgt := 64) hx hb dX0_startAdvised_54 (by decide) (fun h => ?_) (fun h => ?_)
      · replace hq := br_pos h hq
        exact wX0_startAdvised_J64 C hRf hRl hret ih hW (lv_sub hl [1, 2, 3, 4, 5, 6] rfl) hq
      · replace hq := br_neg h hq
        refine lv_iload hx hb dX0_startAdvised_57 (lv_at hl 0 rfl) ?_
        refine lv_istore (lv' := [(4, .int r_2), (6, .int r_2), (0, .ref (g.2.1 23)), (1, .ref (tA g x1)), (2, .ref (vA g x2)), (3, .int x3), (5, .int x5)]) hx hb dX0_startAdvised_59 hl (by decide) rfl (fun ls hl => ?_)
        refine lv_iload hx hb dX0_startAdvised_61 (lv_at hl 6 rfl) ?_
        refine lv_istore_n (lv' := [(3, .int x5), (4, .int r_2), (6, .int r_2), (0, .ref (g.2.1 23)), (1, .ref (tA g x1)), (2, .ref (vA g x2)), (5, .int x5)]) hx hb dX0_startAdvised_63 rfl hl (by decide) rfl (fun ls hl => ?_)
        exact wX0_startAdvised_J64 C hRf hRl hret ih hW (lv_sub hl [3, 4, 5, 0, 1, 6] rfl) hq
set_option maxHeartbeats 4000000 in
set_option maxRecDepth 100000 in
theorem wX0_startAdvised (C : CallFix p m c cX0_startAdvised 7 s args lwg RX0) (hRf : 8 ≤ R.frames) (hRl : 189 ≤ R.locals) {P : Int32 → XS → Prop} (hret : RetI g.1 (xw g) (xty g) A p l e R s m args below meth c 0 0 Q cX0_startAdvised P) {σ : XS} {x1 : Fin 3} {x2 : Fin (nV g)} {H : Heap} {locs : List Loc} {ls : Array Slot} (hW : WI g.1 (xw g) (xty g) A s σ H locs) (hl : lv_has ls 7 [(0, .ref (g.2.1 23)), (1, .ref (tA g x1)), (2, .ref (vA g x2))]) (hq : qX0_startAdvised g σ x1 x2 P) : W p l e R s m args below meth c H locs 0 0 Q (F0 m 0 ls []) := by
  have hx := C.1
  have hb := C.2.1
  unfold qX0_startAdvised at hq
  refine lv_iconst (v := 0) hx hb dX0_startAdvised_0 (by decide) ?_
  refine lv_istore_n (lv' := [(3, .int 0), (0, .ref (g.2.1 23)), (1, .ref (tA g x1)), (2, .ref (vA g x2))]) hx hb dX0_startAdvised_1 rfl hl (by decide) rfl (fun ls hl => ?_)
  refine lv_aload_n hx hb dX0_startAdvised_2 rfl (lv_at hl 1 rfl) ?_
  refine xg_X0_16 C hW dX0_startAdvised_3 ?_
  refine lv_aload_n hx hb dX0_startAdvised_6 rfl (lv_at hl 2 rfl) ?_
  refine lv_aload_n hx hb dX0_startAdvised_7 rfl (lv_at hl 3 rfl) ?_
  refine lv_aload_n hx hb dX0_startAdvised_8 rfl (lv_at hl 3 rfl) ?_
  refine xg_X0_24 C hW dX0_startAdvised_9 ?_
  refine lv_iconst (v := 0) hx hb dX0_startAdvised_12 (by decide) ?_
  refine kX6_leastOf_X0_30 C hW (Nat.le_trans (by decide) hRf) (Nat.le_trans (by decide) hRl) hl.1 (Nat.le_of_ble_eq_true rfl) dX0_startAdvised_13 hq (fun r_2 σ_1 H locs hq hW => ?_)
  refine lv_istore (lv' := [(4, .int r_2), (3, .int 0), (0, .ref (g.2.1 23)), (1, .ref (tA g x1)), (2, .ref (vA g x2))]) hx hb dX0_startAdvised_16 hl (by decide) rfl (fun ls hl => ?_)
  refine lv_iconst (v := 1) hx hb dX0_startAdvised_18 (by decide) ?_
  refine lv_istore (lv' := [(5, .int 1), (4, .int r_2), (3, .int 0), (0, .ref (g.2.1 23)), (1, .ref (tA g x1)), (2, .ref (vA g x2))]) hx hb dX0_startAdvised_19 hl (by decide) rfl (fun ls hl => ?_)
  obtain ⟨f21, hq⟩ := hq
  exact wX0_startAdvised_L21 C hRf hRl hret f21 _ _ _ _ _ _ _ _ _ hW (lv_sub hl [3, 4, 5, 2, 1, 0] rfl) hq
set_option maxHeartbeats 4000000 in
set_option maxRecDepth 100000 in
theorem mX0_startAdvised {l : Launch} {g : XG} {σ : XS} {x1 : Fin 3} {x2 : Fin (nV g)} {P : Int32 → XS → Prop} (hq : qX0_startAdvised g σ x1 x2 P) (sz : Nat) : Met l yX0_startAdvised (cws yX0_startAdvised cX0_startAdvised 7 (some .int)) ({ frames := 8, cells := 0, slots := 0, locals := 189 } : Room) (va_Pc [.ref (g.2.1 23), .ref (tA g x1), .ref (vA g x2)] (WP g.1 (xw g) (xty g) σ sz)) (va_Qi P (WB g.1 (xw g) (xty g) σ sz) (va_A (xw g σ) sz)) 0 0 (va_A (xw g σ) sz) :=
  w_enter (by decide) (Nat.le_of_ble_eq_true rfl) (fun p e s m args below meth c ls C hr hk hn hs hW hl => wX0_startAdvised C (Nat.le_refl _) (Nat.le_refl _) (fun pc ls v σ H locs hd hW hq => w_iret C hs hr hk hW hd hq) hW hl hq)
set_option maxHeartbeats 4000000 in
set_option maxRecDepth 100000 in
theorem kX0_startAdvised_X10_198 (C : CallFix p m c cc nL s args lwg RX10) {σ : XS} (hW : WI g.1 (xw g) (xty g) A s σ H locs) (hRf : 9 ≤ R.frames) (hRl : 215 ≤ R.locals) (hls : ls.size = nL) (hro : (rest.map fun v => v.category).sum ≤ 8) {x1 : Fin 3} {x2 : Fin (nV g)} (hd : decode cc pc = .ok (.invokevirtual 198, 3)) {P : Int32 → XS → Prop} (hq : qX0_startAdvised g σ x1 x2 P) (kk : ∀ (r : Int32) (σ1 : XS) (H : Heap) (locs : List Loc), P r σ1 → WI g.1 (xw g) (xty g) A s σ1 H locs → W p l e R s m args below meth c H locs 0 0 Q (F0 m (pc + 3) ls (.int r :: rest))) : W p l e R s m args below meth c H locs 0 0 Q (F0 m pc ls (.ref (vA g x2) :: .ref (tA g x1) :: .ref (g.2.1 23) :: rest)) :=
  w_calli hW (w_runV C hW (mX0_startAdvised hq _) ⟨(lwg_at 793 (by decide +kernel) rfl), (lwg_at 73 (by decide +kernel) rfl), (lwg_at 790 (by decide +kernel) rfl)⟩ (lwg_at 791 (by decide +kernel) rfl) (lwg_at 792 (by decide +kernel) rfl) (np := 2) (by decide +kernel) ⟨rfl, rfl⟩ ⟨hRf, hRl⟩ (ci := 1) rfl rfl (q0 := 23) rfl rfl hls rfl hro hd ⟨Nat.zero_le _, Nat.zero_le _⟩) kk
end
