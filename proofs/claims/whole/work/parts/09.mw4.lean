section
variable {p : Program} {l : Launch} {e : Env} {R : Room} {s : State} {m : MethodId} {args : Array Value} {below : List Frame} {meth : Method} {c : Code} {H : Heap} {locs : List Loc} {cells slots : Nat} {Q : State → Prop}
variable {cc : ByteArray} {pc : Nat} {ls : Array Slot} {rest : List Value} {own : String} {nL : Nat}
variable {g : MG} {A : Nat → Prop}
-- X11_goDay
set_option maxHeartbeats 4000000 in
set_option maxRecDepth 100000 in
theorem wX11_goDay_J82 (C : CallFix p m c cX11_goDay 5 s args lwg RX11) (hRf : 4 ≤ R.frames) (hRl : 85 ≤ R.locals) {P : MS → Prop} (hret : RetV g.1 (mw g) (mty g) A p l e R s m args below meth c 0 0 Q cX11_goDay P) {k6 : MS → Int32 → Int32 → Prop} (hk6 : ∀ (σ : MS) (x2 : Int32) (x3 : Int32) (H : Heap) (locs : List Loc) (ls : Array Slot), WI g.1 (mw g) (mty g) A s σ H locs → lv_has ls 5 [(0, .ref g.2.1), (2, .int x2), (3, .int x3)] → k6 σ x2 x3 → W p l e R s m args below meth c H locs 0 0 Q (F0 m 6 ls [])) {σ : MS} {x2 : Int32} {x3 : Int32} {H : Heap} {locs : List Loc} {ls : Array Slot} (hW : WI g.1 (mw g) (mty g) A s σ H locs) (hl : lv_has ls 5 [(0, .ref g.2.1), (2, .int x2), (3, .int x3)]) (hq : qX11_goDay_J82 k6 P σ x2 x3) : W p l e R s m args below meth c H locs 0 0 Q (F0 m 82 ls []) := by
  have hx := C.1
  have hb := C.2.1
  unfold qX11_goDay_J82 at hq
  refine lv_aload_n hx hb dX11_goDay_82 rfl (lv_at hl 0 rfl) ?_
  refine lv_iload_n hx hb dX11_goDay_83 rfl (lv_at hl 2 rfl) ?_
  refine lv_aload_n hx hb dX11_goDay_84 rfl (lv_at hl 0 rfl) ?_
  refine mg_32 C hW dX11_goDay_85 ?_
  refine kX11_onward C hW (Nat.le_trans (by decide) hRf) (Nat.le_trans (by decide) hRl) hl.1 (Nat.le_of_ble_eq_true rfl) dX11_goDay_88 hq (fun r_2 σ_1 H locs hq hW => ?_)
  refine lv_istore_n (lv' := [(3, .int r_2), (0, .ref g.2.1), (2, .int x2)]) hx hb dX11_goDay_91 rfl hl (by decide) rfl (fun ls hl => ?_)
  refine lv_goto (tgt := 6) hx hb dX11_goDay_92 (by decide) ?_
  exact hk6 _ _ _ _ _ _ hW (lv_sub hl [1, 2, 0] rfl) hq
set_option maxHeartbeats 4000000 in
set_option maxRecDepth 100000 in
theorem wX11_goDay_J72 (C : CallFix p m c cX11_goDay 5 s args lwg RX11) (hRf : 4 ≤ R.frames) (hRl : 85 ≤ R.locals) {P : MS → Prop} (hret : RetV g.1 (mw g) (mty g) A p l e R s m args below meth c 0 0 Q cX11_goDay P) {k6 : MS → Int32 → Int32 → Prop} (hk6 : ∀ (σ : MS) (x2 : Int32) (x3 : Int32) (H : Heap) (locs : List Loc) (ls : Array Slot), WI g.1 (mw g) (mty g) A s σ H locs → lv_has ls 5 [(0, .ref g.2.1), (2, .int x2), (3, .int x3)] → k6 σ x2 x3 → W p l e R s m args below meth c H locs 0 0 Q (F0 m 6 ls [])) {σ : MS} {x2 : Int32} {x3 : Int32} {x4 : Int32} {H : Heap} {locs : List Loc} {ls : Array Slot} (hW : WI g.1 (mw g) (mty g) A s σ H locs) (hl : lv_has ls 5 [(0, .ref g.2.1), (2, .int x2), (3, .int x3), (4, .int x4)]) (hq : qX11_goDay_J72 k6 P σ x2 x3 x4) : W p l e R s m args below meth c H locs 0 0 Q (F0 m 72 ls []) := by
  have hx := C.1
  have hb := C.2.1
  unfold qX11_goDay_J72 at hq
  refine lv_aload_n hx hb dX11_goDay_72 rfl (lv_at hl 0 rfl) ?_
  refine lv_aload_n hx hb dX11_goDay_73 rfl (lv_at hl 0 rfl) ?_
  refine lv_iload hx hb dX11_goDay_74 (lv_at hl 3 rfl) ?_
  refine kX11_beatsOf C hW (Nat.le_trans (by decide) hRf) (Nat.le_trans (by decide) hRl) hl.1 (Nat.le_of_ble_eq_true rfl) dX11_goDay_76 hq (fun r_2 σ_1 H locs hq hW => ?_)
  refine kX11_takeBeats C hW (Nat.le_trans (by decide) hRf) (Nat.le_trans (by decide) hRl) hl.1 (Nat.le_of_ble_eq_true rfl) dX11_goDay_79 hq (fun σ_3 H locs hq hW => ?_)
  exact wX11_goDay_J82 C hRf hRl hret hk6 hW (lv_sub hl [0, 1, 2] rfl) hq
set_option maxHeartbeats 4000000 in
set_option maxRecDepth 100000 in
theorem wX11_goDay_J66 (C : CallFix p m c cX11_goDay 5 s args lwg RX11) (hRf : 4 ≤ R.frames) (hRl : 85 ≤ R.locals) {P : MS → Prop} (hret : RetV g.1 (mw g) (mty g) A p l e R s m args below meth c 0 0 Q cX11_goDay P) {k6 : MS → Int32 → Int32 → Prop} (hk6 : ∀ (σ : MS) (x2 : Int32) (x3 : Int32) (H : Heap) (locs : List Loc) (ls : Array Slot), WI g.1 (mw g) (mty g) A s σ H locs → lv_has ls 5 [(0, .ref g.2.1), (2, .int x2), (3, .int x3)] → k6 σ x2 x3 → W p l e R s m args below meth c H locs 0 0 Q (F0 m 6 ls [])) {σ : MS} {x2 : Int32} {x3 : Int32} {x4 : Int32} {H : Heap} {locs : List Loc} {ls : Array Slot} (hW : WI g.1 (mw g) (mty g) A s σ H locs) (hl : lv_has ls 5 [(0, .ref g.2.1), (2, .int x2), (3, .int x3), (4, .int x4)]) (hq : qX11_goDay_J66 k6 P σ x2 x3 x4) : W p l e R s m args below meth c H locs 0 0 Q (F0 m 66 ls []) := by
  have hx := C.1
  have hb := C.2.1
  unfold qX11_goDay_J66 at hq
  refine lv_aload_n hx hb dX11_goDay_66 rfl (lv_at hl 0 rfl) ?_
  refine lv_iload hx hb dX11_goDay_67 (lv_at hl 3 rfl) ?_
  refine kX11_biteTurn C hW (Nat.le_trans (by decide) hRf) (Nat.le_trans (by decide) hRl) hl.1 (Nat.le_of_ble_eq_true rfl) dX11_goDay_69 hq (fun σ_1 H locs hq hW => ?_)
  exact wX11_goDay_J72 C hRf hRl hret hk6 hW hl hq
set_option maxHeartbeats 4000000 in
set_option maxRecDepth 100000 in
theorem wX11_goDay_L6 (C : CallFix p m c cX11_goDay 5 s args lwg RX11) (hRf : 4 ≤ R.frames) (hRl : 85 ≤ R.locals) {P : MS → Prop} (hret : RetV g.1 (mw g) (mty g) A p l e R s m args below meth c 0 0 Q cX11_goDay P) : ∀ (n : Nat) (σ : MS) (x2 : Int32) (x3 : Int32) (H : Heap) (locs : List Loc) (ls : Array Slot), WI g.1 (mw g) (mty g) A s σ H locs → lv_has ls 5 [(0, .ref g.2.1), (2, .int x2), (3, .int x3)] → qX11_goDay_L6  P n σ x2 x3 → W p l e R s m args below meth c H locs 0 0 Q (F0 m 6 ls []) := by
  have hx := C.1
  have hb := C.2.1
  intro n
  induction n with
  | zero =>
    intro σ x2 x3 H locs ls hW hl hq
    rw [qX11_goDay_L6] at hq
    exact hq.elim
  | succ n ih =>
    intro σ x2 x3 H locs ls hW hl hq
    rw [qX11_goDay_L6] at hq
    refine lv_aload_n hx hb dX11_goDay_6 rfl (lv_at hl 0 rfl) ?_
    refine mg_41 C hW dX11_goDay_7 ?_
    refine lv_iload_n hx hb dX11_goDay_10 rfl (lv_at hl 1 rfl) ?_
    refine lv_icmp_ge (tgt := 95) hx hb dX11_goDay_11 (by decide) (fun h => ?_) (fun h => ?_)
    · replace hq := br_pos h hq
      exact hret _ _ _ _ _ dX11_goDay_95 hW hq
    · replace hq := br_neg h hq
      refine lv_aload_n hx hb dX11_goDay_14 rfl (lv_at hl 0 rfl) ?_
      refine kX11_isOver C hW (Nat.le_trans (by decide) hRf) (Nat.le_trans (by decide) hRl) hl.1 (Nat.le_of_ble_eq_true rfl) dX11_goDay_15 hq (fun r_2 σ_1 H locs hq hW => ?_)
      refine lv_if_ne (tgt := 95) hx hb dX11_goDay_18 (by decide) (fun h => ?_) (fun h => ?_)
      · replace hq := br_neg h hq
        exact hret _ _ _ _ _ dX11_goDay_95 hW hq
      · replace hq := br_pos h hq
        refine lv_aload_n hx hb dX11_goDay_21 rfl (lv_at hl 0 rfl) ?_
        refine mg_8 C hW dX11_goDay_22 ?_
        refine lv_iload_n hx hb dX11_goDay_25 rfl (lv_at hl 2 rfl) ?_
        obtain ⟨hin3, hq⟩ := hq
        refine ma_8 C hW hin3 dX11_goDay_26 ?_
        refine lv_topi (fun x4_4 ex4_4 => ?_)
        replace hq := hq _ ex4_4
        refine lv_istore (lv' := [(4, .int x4_4), (0, .ref g.2.1), (2, .int x2), (3, .int x3)]) hx hb dX11_goDay_27 hl (by decide) rfl (fun ls hl => ?_)
        refine lv_aload_n hx hb dX11_goDay_29 rfl (lv_at hl 1 rfl) ?_
        refine lv_iload hx hb dX11_goDay_30 (lv_at hl 0 rfl) ?_
        refine kX11_isSkipped C hW (Nat.le_trans (by decide) hRf) (Nat.le_trans (by decide) hRl) hl.1 (Nat.le_of_ble_eq_true rfl) dX11_goDay_32 hq (fun r_6 σ_5 H locs hq hW => ?_)
        refine lv_if_ne (tgt := 82) hx hb dX11_goDay_35 (by decide) (fun h => ?_) (fun h => ?_)
        · replace hq := br_neg h hq
          exact wX11_goDay_J82 C hRf hRl hret ih hW (lv_sub hl [1, 2, 3] rfl) hq
        · replace hq := br_pos h hq
          refine lv_aload_n hx hb dX11_goDay_38 rfl (lv_at hl 1 rfl) ?_
          refine mg_33 C hW dX11_goDay_39 ?_
          refine lv_if_le (tgt := 66) hx hb dX11_goDay_42 (by decide) (fun h => ?_) (fun h => ?_)
          · replace hq := br_pos h hq
            exact wX11_goDay_J66 C hRf hRl hret ih hW (lv_sub hl [1, 2, 3, 0] rfl) hq
          · replace hq := br_neg h hq
            refine lv_aload_n hx hb dX11_goDay_45 rfl (lv_at hl 1 rfl) ?_
            refine mg_41 C hW dX11_goDay_46 ?_
            refine lv_iconst (v := 1) hx hb dX11_goDay_49 (by decide) ?_
            refine lv_iadd hx hb dX11_goDay_50 ?_
            refine lv_aload_n hx hb dX11_goDay_51 rfl (lv_at hl 1 rfl) ?_
            refine mg_33 C hW dX11_goDay_52 ?_
            obtain ⟨hne, hq⟩ := hq
            refine w_irem hx hb dX11_goDay_55 hne ?_
            refine lv_if_ne (tgt := 66) hx hb dX11_goDay_56 (by decide) (fun h => ?_) (fun h => ?_)
            · replace hq := br_neg h hq
              exact wX11_goDay_J66 C hRf hRl hret ih hW (lv_sub hl [1, 2, 3, 0] rfl) hq
            · replace hq := br_pos h hq
              refine lv_aload_n hx hb dX11_goDay_59 rfl (lv_at hl 1 rfl) ?_
              refine kX11_stir C hW (Nat.le_trans (by decide) hRf) (Nat.le_trans (by decide) hRl) hl.1 (Nat.le_of_ble_eq_true rfl) dX11_goDay_60 hq (fun σ_7 H locs hq hW => ?_)
              refine lv_goto (tgt := 72) hx hb dX11_goDay_63 (by decide) ?_
              exact wX11_goDay_J72 C hRf hRl hret ih hW (lv_sub hl [1, 2, 3, 0] rfl) hq
set_option maxHeartbeats 4000000 in
set_option maxRecDepth 100000 in
theorem wX11_goDay (C : CallFix p m c cX11_goDay 5 s args lwg RX11) (hRf : 4 ≤ R.frames) (hRl : 85 ≤ R.locals) {P : MS → Prop} (hret : RetV g.1 (mw g) (mty g) A p l e R s m args below meth c 0 0 Q cX11_goDay P) {σ : MS} {x1 : Int32} {x2 : Int32} {H : Heap} {locs : List Loc} {ls : Array Slot} (hW : WI g.1 (mw g) (mty g) A s σ H locs) (hl : lv_has ls 5 [(0, .ref g.2.1), (1, .int x1), (2, .int x2)]) (hq : qX11_goDay σ x1 x2 P) : W p l e R s m args below meth c H locs 0 0 Q (F0 m 0 ls []) := by
  have hx := C.1
  have hb := C.2.1
  unfold qX11_goDay at hq
  refine lv_aload_n hx hb dX11_goDay_0 rfl (lv_at hl 0 rfl) ?_
  refine kX11_beginDay C hW (Nat.le_trans (by decide) hRf) (Nat.le_trans (by decide) hRl) hl.1 (Nat.le_of_ble_eq_true rfl) dX11_goDay_1 hq (fun σ_1 H locs hq hW => ?_)
  refine lv_iload_n hx hb dX11_goDay_4 rfl (lv_at hl 1 rfl) ?_
  refine lv_istore_n (lv' := [(3, .int x1), (0, .ref g.2.1), (1, .int x1), (2, .int x2)]) hx hb dX11_goDay_5 rfl hl (by decide) rfl (fun ls hl => ?_)
  obtain ⟨f6, hq⟩ := hq
  exact wX11_goDay_L6 C hRf hRl hret f6 _ _ _ _ _ _ hW (lv_sub hl [1, 3, 0] rfl) hq
set_option maxHeartbeats 4000000 in
set_option maxRecDepth 100000 in
theorem mX11_goDay {l : Launch} {g : MG} {σ : MS} {x1 : Int32} {x2 : Int32} {P : MS → Prop} (hq : qX11_goDay σ x1 x2 P) (sz : Nat) : Met l yX11_goDay (cws yX11_goDay cX11_goDay 5 none) ({ frames := 4, cells := 0, slots := 0, locals := 85 } : Room) (va_Pc [.ref g.2.1, .int x1, .int x2] (WP g.1 (mw g) (mty g) σ sz)) (va_Qv P (WB g.1 (mw g) (mty g) σ sz) (va_A (mw g σ) sz)) 0 0 (va_A (mw g σ) sz) :=
  w_enter (by decide) (Nat.le_of_ble_eq_true rfl) (fun p e s m args below meth c ls C hr hk hn hs hW hl => wX11_goDay C (Nat.le_refl _) (Nat.le_refl _) (fun pc ls σ H locs hd hW hq => w_vret C hs hr hk hW hd hq) hW hl hq)
set_option maxHeartbeats 4000000 in
set_option maxRecDepth 100000 in
theorem kX11_goDay (C : CallFix p m c cc nL s args lwg RX11) {σ : MS} (hW : WI g.1 (mw g) (mty g) A s σ H locs) (hRf : 5 ≤ R.frames) (hRl : 109 ≤ R.locals) (hls : ls.size = nL) (hro : (rest.map fun v => v.category).sum ≤ 8) {x1 : Int32} {x2 : Int32} (hd : decode cc pc = .ok (.invokevirtual 237, 3)) {P : MS → Prop} (hq : qX11_goDay σ x1 x2 P) (kk : ∀ (σ1 : MS) (H : Heap) (locs : List Loc), P σ1 → WI g.1 (mw g) (mty g) A s σ1 H locs → W p l e R s m args below meth c H locs 0 0 Q (F0 m (pc + 3) ls rest)) : W p l e R s m args below meth c H locs 0 0 Q (F0 m pc ls (.int x2 :: .int x1 :: .ref g.2.1 :: rest)) :=
  w_callv hW (w_runV C hW (mX11_goDay hq _) ⟨lwg_at 1186 (by decide +kernel) rfl, lwg_at 74 (by decide +kernel) rfl, lwg_at 1183 (by decide +kernel) rfl⟩ (lwg_at 1185 (by decide +kernel) rfl) (lwg_at 39 (by decide +kernel) rfl) (np := 2) (by decide +kernel) ⟨rfl, rfl⟩ ⟨hRf, hRl⟩ (ci := 12) rfl rfl (q0 := 0) rfl rfl hls rfl hro hd ⟨Nat.zero_le _, Nat.zero_le _⟩) kk
-- X11_isDay
set_option maxHeartbeats 4000000 in
set_option maxRecDepth 100000 in
theorem wX11_isDay (C : CallFix p m c cX11_isDay 3 s args lwg RX11) (hRf : 2 ≤ R.frames) (hRl : 43 ≤ R.locals) {P : Int32 → MS → Prop} (hret : RetZ g.1 (mw g) (mty g) A p l e R s m args below meth c 0 0 Q cX11_isDay P) {σ : MS} {x1 : Int32} {x2 : Int32} {H : Heap} {locs : List Loc} {ls : Array Slot} (hW : WI g.1 (mw g) (mty g) A s σ H locs) (hl : lv_has ls 3 [(0, .ref g.2.1), (1, .int x1), (2, .int x2)]) (hq : qX11_isDay σ x1 x2 P) : W p l e R s m args below meth c H locs 0 0 Q (F0 m 0 ls []) := by
  have hx := C.1
  have hb := C.2.1
  unfold qX11_isDay at hq
  refine lv_aload_n hx hb dX11_isDay_0 rfl (lv_at hl 0 rfl) ?_
  refine lv_iload_n hx hb dX11_isDay_1 rfl (lv_at hl 1 rfl) ?_
  refine kX11_isVow C hW (Nat.le_trans (by decide) hRf) (Nat.le_trans (by decide) hRl) hl.1 (Nat.le_of_ble_eq_true rfl) dX11_isDay_2 hq (fun r_2 σ_1 H locs hq hW => ?_)
  refine lv_if_eq (tgt := 20) hx hb dX11_isDay_5 (by decide) (fun h => ?_) (fun h => ?_)
  · replace hq := br_pos h hq
    refine lv_iconst (v := 0) hx hb dX11_isDay_20 (by decide) ?_
    exact hret _ _ _ _ _ _ dX11_isDay_21 hW isB_0 hq
  · replace hq := br_neg h hq
    refine lv_aload_n hx hb dX11_isDay_8 rfl (lv_at hl 0 rfl) ?_
    refine lv_iload_n hx hb dX11_isDay_9 rfl (lv_at hl 2 rfl) ?_
    refine kX11_isSeat C hW (Nat.le_trans (by decide) hRf) (Nat.le_trans (by decide) hRl) hl.1 (Nat.le_of_ble_eq_true rfl) dX11_isDay_10 hq (fun r_4 σ_3 H locs hq hW => ?_)
    refine lv_if_eq (tgt := 20) hx hb dX11_isDay_13 (by decide) (fun h => ?_) (fun h => ?_)
    · replace hq := br_pos h hq
      refine lv_iconst (v := 0) hx hb dX11_isDay_20 (by decide) ?_
      exact hret _ _ _ _ _ _ dX11_isDay_21 hW isB_0 hq
    · replace hq := br_neg h hq
      refine lv_iconst (v := 1) hx hb dX11_isDay_16 (by decide) ?_
      refine lv_goto (tgt := 21) hx hb dX11_isDay_17 (by decide) ?_
      exact hret _ _ _ _ _ _ dX11_isDay_21 hW isB_1 hq
set_option maxHeartbeats 4000000 in
set_option maxRecDepth 100000 in
theorem mX11_isDay {l : Launch} {g : MG} {σ : MS} {x1 : Int32} {x2 : Int32} {P : Int32 → MS → Prop} (hq : qX11_isDay σ x1 x2 P) (sz : Nat) : Met l yX11_isDay (cws yX11_isDay cX11_isDay 3 (some .boolean)) ({ frames := 2, cells := 0, slots := 0, locals := 43 } : Room) (va_Pc [.ref g.2.1, .int x1, .int x2] (WP g.1 (mw g) (mty g) σ sz)) (va_Qi P (WB g.1 (mw g) (mty g) σ sz) (va_A (mw g σ) sz)) 0 0 (va_A (mw g σ) sz) :=
  w_enter (by decide) (Nat.le_of_ble_eq_true rfl) (fun p e s m args below meth c ls C hr hk hn hs hW hl => wX11_isDay C (Nat.le_refl _) (Nat.le_refl _) (fun pc ls v σ H locs hd hW hv hq => w_zret C hs hr hk hW hd hv hq) hW hl hq)
set_option maxHeartbeats 4000000 in
set_option maxRecDepth 100000 in
theorem kX11_isDay (C : CallFix p m c cc nL s args lwg RX11) {σ : MS} (hW : WI g.1 (mw g) (mty g) A s σ H locs) (hRf : 3 ≤ R.frames) (hRl : 65 ≤ R.locals) (hls : ls.size = nL) (hro : (rest.map fun v => v.category).sum ≤ 8) {x1 : Int32} {x2 : Int32} (hd : decode cc pc = .ok (.invokevirtual 240, 3)) {P : Int32 → MS → Prop} (hq : qX11_isDay σ x1 x2 P) (kk : ∀ (r : Int32) (σ1 : MS) (H : Heap) (locs : List Loc), P r σ1 → WI g.1 (mw g) (mty g) A s σ1 H locs → W p l e R s m args below meth c H locs 0 0 Q (F0 m (pc + 3) ls (.int r :: rest))) : W p l e R s m args below meth c H locs 0 0 Q (F0 m pc ls (.int x2 :: .int x1 :: .ref g.2.1 :: rest)) :=
  w_calli hW (w_runV C hW (mX11_isDay hq _) ⟨lwg_at 1165 (by decide +kernel) rfl, lwg_at 74 (by decide +kernel) rfl, lwg_at 1162 (by decide +kernel) rfl⟩ (lwg_at 1164 (by decide +kernel) rfl) (lwg_at 34 (by decide +kernel) rfl) (np := 2) (by decide +kernel) ⟨rfl, rfl⟩ ⟨hRf, hRl⟩ (ci := 12) rfl rfl (q0 := 0) rfl rfl hls rfl hro hd ⟨Nat.zero_le _, Nat.zero_le _⟩) kk
-- X11_areFasts
set_option maxHeartbeats 4000000 in
set_option maxRecDepth 100000 in
theorem wX11_areFasts (C : CallFix p m c cX11_areFasts 2 s args lwg RX11) (hRf : 1 ≤ R.frames) (hRl : 22 ≤ R.locals) {P : Int32 → MS → Prop} (hret : RetZ g.1 (mw g) (mty g) A p l e R s m args below meth c 0 0 Q cX11_areFasts P) {σ : MS} {x1 : Int32} {H : Heap} {locs : List Loc} {ls : Array Slot} (hW : WI g.1 (mw g) (mty g) A s σ H locs) (hl : lv_has ls 2 [(0, .ref g.2.1), (1, .int x1)]) (hq : qX11_areFasts σ x1 P) : W p l e R s m args below meth c H locs 0 0 Q (F0 m 0 ls []) := by
  have hx := C.1
  have hb := C.2.1
  unfold qX11_areFasts at hq
  refine lv_iload_n hx hb dX11_areFasts_0 rfl (lv_at hl 1 rfl) ?_
  refine lv_iconst (v := 0) hx hb dX11_areFasts_1 (by decide) ?_
  refine lv_iconst (v := 1) hx hb dX11_areFasts_2 (by decide) ?_
  refine lv_aload_n hx hb dX11_areFasts_3 rfl (lv_at hl 0 rfl) ?_
  refine mg_0 C hW dX11_areFasts_4 ?_
  refine w_ishl hx hb dX11_areFasts_7 ?_
  refine lv_iconst (v := 1) hx hb dX11_areFasts_8 (by decide) ?_
  refine lv_isub hx hb dX11_areFasts_9 ?_
  refine kX11_within C hW (Nat.le_trans (by decide) hRf) (Nat.le_trans (by decide) hRl) hl.1 (Nat.le_of_ble_eq_true rfl) dX11_areFasts_10 hq (fun r_2 σ_1 H locs hq hW => ?_)
  obtain ⟨hib, hq⟩ := hq
  exact hret _ _ _ _ _ _ dX11_areFasts_13 hW hib hq
set_option maxHeartbeats 4000000 in
set_option maxRecDepth 100000 in
theorem mX11_areFasts {l : Launch} {g : MG} {σ : MS} {x1 : Int32} {P : Int32 → MS → Prop} (hq : qX11_areFasts σ x1 P) (sz : Nat) : Met l yX11_areFasts (cws yX11_areFasts cX11_areFasts 2 (some .boolean)) ({ frames := 1, cells := 0, slots := 0, locals := 22 } : Room) (va_Pc [.ref g.2.1, .int x1] (WP g.1 (mw g) (mty g) σ sz)) (va_Qi P (WB g.1 (mw g) (mty g) σ sz) (va_A (mw g σ) sz)) 0 0 (va_A (mw g σ) sz) :=
  w_enter (by decide) (Nat.le_of_ble_eq_true rfl) (fun p e s m args below meth c ls C hr hk hn hs hW hl => wX11_areFasts C (Nat.le_refl _) (Nat.le_refl _) (fun pc ls v σ H locs hd hW hv hq => w_zret C hs hr hk hW hd hv hq) hW hl hq)
set_option maxHeartbeats 4000000 in
set_option maxRecDepth 100000 in
theorem kX11_areFasts (C : CallFix p m c cc nL s args lwg RX11) {σ : MS} (hW : WI g.1 (mw g) (mty g) A s σ H locs) (hRf : 2 ≤ R.frames) (hRl : 43 ≤ R.locals) (hls : ls.size = nL) (hro : (rest.map fun v => v.category).sum ≤ 8) {x1 : Int32} (hd : decode cc pc = .ok (.invokevirtual 243, 3)) {P : Int32 → MS → Prop} (hq : qX11_areFasts σ x1 P) (kk : ∀ (r : Int32) (σ1 : MS) (H : Heap) (locs : List Loc), P r σ1 → WI g.1 (mw g) (mty g) A s σ1 H locs → W p l e R s m args below meth c H locs 0 0 Q (F0 m (pc + 3) ls (.int r :: rest))) : W p l e R s m args below meth c H locs 0 0 Q (F0 m pc ls (.int x1 :: .ref g.2.1 :: rest)) :=
  w_calli hW (w_runV C hW (mX11_areFasts hq _) ⟨lwg_at 1169 (by decide +kernel) rfl, lwg_at 74 (by decide +kernel) rfl, lwg_at 1166 (by decide +kernel) rfl⟩ (lwg_at 1168 (by decide +kernel) rfl) (lwg_at 35 (by decide +kernel) rfl) (np := 1) (by decide +kernel) ⟨rfl, rfl⟩ ⟨hRf, hRl⟩ (ci := 12) rfl rfl (q0 := 0) rfl rfl hls rfl hro hd ⟨Nat.zero_le _, Nat.zero_le _⟩) kk
-- X11_layDay
set_option maxHeartbeats 4000000 in
set_option maxRecDepth 100000 in
theorem wX11_layDay (C : CallFix p m c cX11_layDay 4 s args lwg RX11) (hRf : 5 ≤ R.frames) (hRl : 109 ≤ R.locals) {P : MS → Prop} (hret : RetV g.1 (mw g) (mty g) A p l e R s m args below meth c 0 0 Q cX11_layDay P) {σ : MS} {x1 : Int32} {x2 : Int32} {x3 : Int32} {H : Heap} {locs : List Loc} {ls : Array Slot} (hW : WI g.1 (mw g) (mty g) A s σ H locs) (hl : lv_has ls 4 [(0, .ref g.2.1), (1, .int x1), (2, .int x2), (3, .int x3)]) (hq : qX11_layDay σ x1 x2 x3 P) : W p l e R s m args below meth c H locs 0 0 Q (F0 m 0 ls []) := by
  have hx := C.1
  have hb := C.2.1
  unfold qX11_layDay at hq
  refine lv_aload_n hx hb dX11_layDay_0 rfl (lv_at hl 0 rfl) ?_
  refine lv_iload_n hx hb dX11_layDay_1 rfl (lv_at hl 1 rfl) ?_
  refine kX11_useVow C hW (Nat.le_trans (by decide) hRf) (Nat.le_trans (by decide) hRl) hl.1 (Nat.le_of_ble_eq_true rfl) dX11_layDay_2 hq (fun σ_1 H locs hq hW => ?_)
  refine lv_aload_n hx hb dX11_layDay_5 rfl (lv_at hl 0 rfl) ?_
  refine kX11_useStores C hW (Nat.le_trans (by decide) hRf) (Nat.le_trans (by decide) hRl) hl.1 (Nat.le_of_ble_eq_true rfl) dX11_layDay_6 hq (fun σ_2 H locs hq hW => ?_)
  refine lv_aload_n hx hb dX11_layDay_9 rfl (lv_at hl 0 rfl) ?_
  refine lv_iload_n hx hb dX11_layDay_10 rfl (lv_at hl 3 rfl) ?_
  refine mp_36 C hW dX11_layDay_11 (fun σ_3 H locs eσ_3 hW => ?_)
  replace hq := hq _ eσ_3
  refine lv_aload_n hx hb dX11_layDay_14 rfl (lv_at hl 0 rfl) ?_
  refine lv_iload_n hx hb dX11_layDay_15 rfl (lv_at hl 2 rfl) ?_
  refine lv_ldc (own := RX11) (v := 268435456) hx hb C.2.2.2.1 (C.2.2.2.2 _ (lwg_at 1182 (by decide +kernel) rfl)) dX11_layDay_16 ?_
  refine kX11_goDay C hW (Nat.le_trans (by decide) hRf) (Nat.le_trans (by decide) hRl) hl.1 (Nat.le_of_ble_eq_true rfl) dX11_layDay_18 hq (fun σ_4 H locs hq hW => ?_)
  exact hret _ _ _ _ _ dX11_layDay_21 hW hq
set_option maxHeartbeats 4000000 in
set_option maxRecDepth 100000 in
theorem mX11_layDay {l : Launch} {g : MG} {σ : MS} {x1 : Int32} {x2 : Int32} {x3 : Int32} {P : MS → Prop} (hq : qX11_layDay σ x1 x2 x3 P) (sz : Nat) : Met l yX11_layDay (cws yX11_layDay cX11_layDay 4 none) ({ frames := 5, cells := 0, slots := 0, locals := 109 } : Room) (va_Pc [.ref g.2.1, .int x1, .int x2, .int x3] (WP g.1 (mw g) (mty g) σ sz)) (va_Qv P (WB g.1 (mw g) (mty g) σ sz) (va_A (mw g σ) sz)) 0 0 (va_A (mw g σ) sz) :=
  w_enter (by decide) (Nat.le_of_ble_eq_true rfl) (fun p e s m args below meth c ls C hr hk hn hs hW hl => wX11_layDay C (Nat.le_refl _) (Nat.le_refl _) (fun pc ls σ H locs hd hW hq => w_vret C hs hr hk hW hd hq) hW hl hq)
set_option maxHeartbeats 4000000 in
set_option maxRecDepth 100000 in
theorem kX11_layDay (C : CallFix p m c cc nL s args lwg RX11) {σ : MS} (hW : WI g.1 (mw g) (mty g) A s σ H locs) (hRf : 6 ≤ R.frames) (hRl : 132 ≤ R.locals) (hls : ls.size = nL) (hro : (rest.map fun v => v.category).sum ≤ 8) {x1 : Int32} {x2 : Int32} {x3 : Int32} (hd : decode cc pc = .ok (.invokevirtual 246, 3)) {P : MS → Prop} (hq : qX11_layDay σ x1 x2 x3 P) (kk : ∀ (σ1 : MS) (H : Heap) (locs : List Loc), P σ1 → WI g.1 (mw g) (mty g) A s σ1 H locs → W p l e R s m args below meth c H locs 0 0 Q (F0 m (pc + 3) ls rest)) : W p l e R s m args below meth c H locs 0 0 Q (F0 m pc ls (.int x3 :: .int x2 :: .int x1 :: .ref g.2.1 :: rest)) :=
  w_callv hW (w_runV C hW (mX11_layDay hq _) ⟨lwg_at 1173 (by decide +kernel) rfl, lwg_at 74 (by decide +kernel) rfl, lwg_at 1170 (by decide +kernel) rfl⟩ (lwg_at 1172 (by decide +kernel) rfl) (lwg_at 36 (by decide +kernel) rfl) (np := 3) (by decide +kernel) ⟨rfl, rfl⟩ ⟨hRf, hRl⟩ (ci := 12) rfl rfl (q0 := 0) rfl rfl hls rfl hro hd ⟨Nat.zero_le _, Nat.zero_le _⟩) kk
-- X11_dayNow
set_option maxHeartbeats 4000000 in
set_option maxRecDepth 100000 in
theorem wX11_dayNow (C : CallFix p m c cX11_dayNow 2 s args lwg RX11) (hRf : 1 ≤ R.frames) (hRl : 22 ≤ R.locals) {P : Int32 → MS → Prop} (hret : RetI g.1 (mw g) (mty g) A p l e R s m args below meth c 0 0 Q cX11_dayNow P) {σ : MS} {x1 : Int32} {H : Heap} {locs : List Loc} {ls : Array Slot} (hW : WI g.1 (mw g) (mty g) A s σ H locs) (hl : lv_has ls 2 [(0, .ref g.2.1), (1, .int x1)]) (hq : qX11_dayNow σ x1 P) : W p l e R s m args below meth c H locs 0 0 Q (F0 m 0 ls []) := by
  have hx := C.1
  have hb := C.2.1
  unfold qX11_dayNow at hq
  refine lv_iload_n hx hb dX11_dayNow_0 rfl (lv_at hl 1 rfl) ?_
  by_cases h1_0 : x1 = 0
  · replace hq := br_pos h1_0 hq
    refine lv_tableIn (off := 35) (tgt := 36) hx hb dX11_dayNow_1 (by rw [h1_0]; decide) (by rw [h1_0]; decide) (by rw [h1_0]; decide) (by decide) ?_
    refine lv_aload_n hx hb dX11_dayNow_36 rfl (lv_at hl 0 rfl) ?_
    refine mg_41 C hW dX11_dayNow_37 ?_
    exact hret _ _ _ _ _ _ dX11_dayNow_40 hW hq
  · replace hq := br_neg h1_0 hq
    by_cases h1_1 : x1 = 1
    · replace hq := br_pos h1_1 hq
      refine lv_tableIn (off := 40) (tgt := 41) hx hb dX11_dayNow_1 (by rw [h1_1]; decide) (by rw [h1_1]; decide) (by rw [h1_1]; decide) (by decide) ?_
      refine lv_aload_n hx hb dX11_dayNow_41 rfl (lv_at hl 0 rfl) ?_
      refine mg_42 C hW dX11_dayNow_42 ?_
      exact hret _ _ _ _ _ _ dX11_dayNow_45 hW hq
    · replace hq := br_neg h1_1 hq
      by_cases h1_2 : x1 = 2
      · replace hq := br_pos h1_2 hq
        refine lv_tableIn (off := 45) (tgt := 46) hx hb dX11_dayNow_1 (by rw [h1_2]; decide) (by rw [h1_2]; decide) (by rw [h1_2]; decide) (by decide) ?_
        refine lv_aload_n hx hb dX11_dayNow_46 rfl (lv_at hl 0 rfl) ?_
        refine kX11_soupLeft C hW (Nat.le_trans (by decide) hRf) (Nat.le_trans (by decide) hRl) hl.1 (Nat.le_of_ble_eq_true rfl) dX11_dayNow_47 hq (fun r_2 σ_1 H locs hq hW => ?_)
        exact hret _ _ _ _ _ _ dX11_dayNow_50 hW hq
      · replace hq := br_neg h1_2 hq
        by_cases h1_3 : x1 = 3
        · replace hq := br_pos h1_3 hq
          refine lv_tableIn (off := 50) (tgt := 51) hx hb dX11_dayNow_1 (by rw [h1_3]; decide) (by rw [h1_3]; decide) (by rw [h1_3]; decide) (by decide) ?_
          refine lv_aload_n hx hb dX11_dayNow_51 rfl (lv_at hl 0 rfl) ?_
          refine mg_43 C hW dX11_dayNow_52 ?_
          exact hret _ _ _ _ _ _ dX11_dayNow_55 hW hq
        · replace hq := br_neg h1_3 hq
          by_cases h1_4 : x1 = 4
          · replace hq := br_pos h1_4 hq
            refine lv_tableIn (off := 55) (tgt := 56) hx hb dX11_dayNow_1 (by rw [h1_4]; decide) (by rw [h1_4]; decide) (by rw [h1_4]; decide) (by decide) ?_
            refine lv_aload_n hx hb dX11_dayNow_56 rfl (lv_at hl 0 rfl) ?_
            refine mg_44 C hW dX11_dayNow_57 ?_
            exact hret _ _ _ _ _ _ dX11_dayNow_60 hW hq
          · replace hq := br_neg h1_4 hq
            refine lv_tableOut (tgt := 61) hx hb dX11_dayNow_1 (ne_out5 h1_0 h1_1 h1_2 h1_3 h1_4) (by decide) ?_
            refine lv_aload_n hx hb dX11_dayNow_61 rfl (lv_at hl 0 rfl) ?_
            refine mg_40 C hW dX11_dayNow_62 ?_
            exact hret _ _ _ _ _ _ dX11_dayNow_65 hW hq
set_option maxHeartbeats 4000000 in
set_option maxRecDepth 100000 in
theorem mX11_dayNow {l : Launch} {g : MG} {σ : MS} {x1 : Int32} {P : Int32 → MS → Prop} (hq : qX11_dayNow σ x1 P) (sz : Nat) : Met l yX11_dayNow (cws yX11_dayNow cX11_dayNow 2 (some .int)) ({ frames := 1, cells := 0, slots := 0, locals := 22 } : Room) (va_Pc [.ref g.2.1, .int x1] (WP g.1 (mw g) (mty g) σ sz)) (va_Qi P (WB g.1 (mw g) (mty g) σ sz) (va_A (mw g σ) sz)) 0 0 (va_A (mw g σ) sz) :=
  w_enter (by decide) (Nat.le_of_ble_eq_true rfl) (fun p e s m args below meth c ls C hr hk hn hs hW hl => wX11_dayNow C (Nat.le_refl _) (Nat.le_refl _) (fun pc ls v σ H locs hd hW hq => w_iret C hs hr hk hW hd hq) hW hl hq)
set_option maxHeartbeats 4000000 in
set_option maxRecDepth 100000 in
theorem kX11_dayNow (C : CallFix p m c cc nL s args lwg RX11) {σ : MS} (hW : WI g.1 (mw g) (mty g) A s σ H locs) (hRf : 2 ≤ R.frames) (hRl : 43 ≤ R.locals) (hls : ls.size = nL) (hro : (rest.map fun v => v.category).sum ≤ 8) {x1 : Int32} (hd : decode cc pc = .ok (.invokevirtual 250, 3)) {P : Int32 → MS → Prop} (hq : qX11_dayNow σ x1 P) (kk : ∀ (r : Int32) (σ1 : MS) (H : Heap) (locs : List Loc), P r σ1 → WI g.1 (mw g) (mty g) A s σ1 H locs → W p l e R s m args below meth c H locs 0 0 Q (F0 m (pc + 3) ls (.int r :: rest))) : W p l e R s m args below meth c H locs 0 0 Q (F0 m pc ls (.int x1 :: .ref g.2.1 :: rest)) :=
  w_calli hW (w_runV C hW (mX11_dayNow hq _) ⟨lwg_at 1237 (by decide +kernel) rfl, lwg_at 74 (by decide +kernel) rfl, lwg_at 1234 (by decide +kernel) rfl⟩ (lwg_at 1236 (by decide +kernel) rfl) (lwg_at 51 (by decide +kernel) rfl) (np := 1) (by decide +kernel) ⟨rfl, rfl⟩ ⟨hRf, hRl⟩ (ci := 12) rfl rfl (q0 := 0) rfl rfl hls rfl hro hd ⟨Nat.zero_le _, Nat.zero_le _⟩) kk
-- X11_day
set_option maxHeartbeats 4000000 in
set_option maxRecDepth 100000 in
theorem wX11_day (C : CallFix p m c cX11_day 5 s args lwg RX11) (hRf : 6 ≤ R.frames) (hRl : 132 ≤ R.locals) {P : Int32 → MS → Prop} (hret : RetI g.1 (mw g) (mty g) A p l e R s m args below meth c 0 0 Q cX11_day P) {σ : MS} {x1 : Int32} {x2 : Int32} {x3 : Int32} {x4 : Int32} {H : Heap} {locs : List Loc} {ls : Array Slot} (hW : WI g.1 (mw g) (mty g) A s σ H locs) (hl : lv_has ls 5 [(0, .ref g.2.1), (1, .int x1), (2, .int x2), (3, .int x3), (4, .int x4)]) (hq : qX11_day σ x1 x2 x3 x4 P) : W p l e R s m args below meth c H locs 0 0 Q (F0 m 0 ls []) := by
  have hx := C.1
  have hb := C.2.1
  unfold qX11_day at hq
  refine lv_aload_n hx hb dX11_day_0 rfl (lv_at hl 0 rfl) ?_
  refine lv_iload_n hx hb dX11_day_1 rfl (lv_at hl 1 rfl) ?_
  refine lv_iload_n hx hb dX11_day_2 rfl (lv_at hl 2 rfl) ?_
  refine kX11_isDay C hW (Nat.le_trans (by decide) hRf) (Nat.le_trans (by decide) hRl) hl.1 (Nat.le_of_ble_eq_true rfl) dX11_day_3 hq (fun r_2 σ_1 H locs hq hW => ?_)
  refine lv_if_ne (tgt := 12) hx hb dX11_day_6 (by decide) (fun h => ?_) (fun h => ?_)
  · replace hq := br_neg h hq
    refine lv_aload_n hx hb dX11_day_12 rfl (lv_at hl 0 rfl) ?_
    refine lv_iload_n hx hb dX11_day_13 rfl (lv_at hl 3 rfl) ?_
    refine kX11_areFasts C hW (Nat.le_trans (by decide) hRf) (Nat.le_trans (by decide) hRl) hl.1 (Nat.le_of_ble_eq_true rfl) dX11_day_14 hq (fun r_4 σ_3 H locs hq hW => ?_)
    refine lv_if_eq (tgt := 30) hx hb dX11_day_17 (by decide) (fun h => ?_) (fun h => ?_)
    · replace hq := br_pos h hq
      refine lv_bipush (v := (-102)) hx hb dX11_day_30 (by decide) ?_
      exact hret _ _ _ _ _ _ dX11_day_32 hW hq
    · replace hq := br_neg h hq
      refine lv_iload hx hb dX11_day_20 (lv_at hl 4 rfl) ?_
      refine lv_iconst (v := 0) hx hb dX11_day_22 (by decide) ?_
      refine lv_iconst (v := 5) hx hb dX11_day_23 (by decide) ?_
      refine kX11_within C hW (Nat.le_trans (by decide) hRf) (Nat.le_trans (by decide) hRl) hl.1 (Nat.le_of_ble_eq_true rfl) dX11_day_24 hq (fun r_6 σ_5 H locs hq hW => ?_)
      refine lv_if_ne (tgt := 33) hx hb dX11_day_27 (by decide) (fun h => ?_) (fun h => ?_)
      · replace hq := br_neg h hq
        refine lv_aload_n hx hb dX11_day_33 rfl (lv_at hl 0 rfl) ?_
        refine lv_iload_n hx hb dX11_day_34 rfl (lv_at hl 1 rfl) ?_
        refine lv_iload_n hx hb dX11_day_35 rfl (lv_at hl 2 rfl) ?_
        refine lv_iload_n hx hb dX11_day_36 rfl (lv_at hl 3 rfl) ?_
        refine kX11_layDay C hW (Nat.le_trans (by decide) hRf) (Nat.le_trans (by decide) hRl) hl.1 (Nat.le_of_ble_eq_true rfl) dX11_day_37 hq (fun σ_7 H locs hq hW => ?_)
        refine lv_aload_n hx hb dX11_day_40 rfl (lv_at hl 0 rfl) ?_
        refine lv_iload hx hb dX11_day_41 (lv_at hl 4 rfl) ?_
        refine kX11_dayNow C hW (Nat.le_trans (by decide) hRf) (Nat.le_trans (by decide) hRl) hl.1 (Nat.le_of_ble_eq_true rfl) dX11_day_43 hq (fun r_9 σ_8 H locs hq hW => ?_)
        exact hret _ _ _ _ _ _ dX11_day_46 hW hq
      · replace hq := br_pos h hq
        refine lv_bipush (v := (-102)) hx hb dX11_day_30 (by decide) ?_
        exact hret _ _ _ _ _ _ dX11_day_32 hW hq
  · replace hq := br_pos h hq
    refine lv_bipush (v := (-101)) hx hb dX11_day_9 (by decide) ?_
    exact hret _ _ _ _ _ _ dX11_day_11 hW hq
set_option maxHeartbeats 4000000 in
set_option maxRecDepth 100000 in
theorem mX11_day {l : Launch} {g : MG} {σ : MS} {x1 : Int32} {x2 : Int32} {x3 : Int32} {x4 : Int32} {P : Int32 → MS → Prop} (hq : qX11_day σ x1 x2 x3 x4 P) (sz : Nat) : Met l yX11_day (cws yX11_day cX11_day 5 (some .int)) ({ frames := 6, cells := 0, slots := 0, locals := 132 } : Room) (va_Pc [.ref g.2.1, .int x1, .int x2, .int x3, .int x4] (WP g.1 (mw g) (mty g) σ sz)) (va_Qi P (WB g.1 (mw g) (mty g) σ sz) (va_A (mw g σ) sz)) 0 0 (va_A (mw g σ) sz) :=
  w_enter (by decide) (Nat.le_of_ble_eq_true rfl) (fun p e s m args below meth c ls C hr hk hn hs hW hl => wX11_day C (Nat.le_refl _) (Nat.le_refl _) (fun pc ls v σ H locs hd hW hq => w_iret C hs hr hk hW hd hq) hW hl hq)
-- X11_meal
set_option maxHeartbeats 4000000 in
set_option maxRecDepth 100000 in
theorem wX11_meal (C : CallFix p m c cX11_meal 5 s args lwg RX11) (hRf : 6 ≤ R.frames) (hRl : 132 ≤ R.locals) {P : Int32 → MS → Prop} (hret : RetI g.1 (mw g) (mty g) A p l e R s m args below meth c 0 0 Q cX11_meal P) {σ : MS} {x1 : Int32} {x2 : Int32} {x3 : Int32} {x4 : Int32} {H : Heap} {locs : List Loc} {ls : Array Slot} (hW : WI g.1 (mw g) (mty g) A s σ H locs) (hl : lv_has ls 5 [(0, .ref g.2.1), (1, .int x1), (2, .int x2), (3, .int x3), (4, .int x4)]) (hq : qX11_meal σ x1 x2 x3 x4 P) : W p l e R s m args below meth c H locs 0 0 Q (F0 m 0 ls []) := by
  have hx := C.1
  have hb := C.2.1
  unfold qX11_meal at hq
  refine lv_aload_n hx hb dX11_meal_0 rfl (lv_at hl 0 rfl) ?_
  refine lv_iload_n hx hb dX11_meal_1 rfl (lv_at hl 1 rfl) ?_
  refine lv_iload_n hx hb dX11_meal_2 rfl (lv_at hl 2 rfl) ?_
  refine kX11_isDay C hW (Nat.le_trans (by decide) hRf) (Nat.le_trans (by decide) hRl) hl.1 (Nat.le_of_ble_eq_true rfl) dX11_meal_3 hq (fun r_2 σ_1 H locs hq hW => ?_)
  refine lv_if_eq (tgt := 18) hx hb dX11_meal_6 (by decide) (fun h => ?_) (fun h => ?_)
  · replace hq := br_pos h hq
    refine lv_bipush (v := (-101)) hx hb dX11_meal_18 (by decide) ?_
    exact hret _ _ _ _ _ _ dX11_meal_20 hW hq
  · replace hq := br_neg h hq
    refine lv_aload_n hx hb dX11_meal_9 rfl (lv_at hl 0 rfl) ?_
    refine lv_iload hx hb dX11_meal_10 (lv_at hl 4 rfl) ?_
    refine kX11_isHermit C hW (Nat.le_trans (by decide) hRf) (Nat.le_trans (by decide) hRl) hl.1 (Nat.le_of_ble_eq_true rfl) dX11_meal_12 hq (fun r_4 σ_3 H locs hq hW => ?_)
    refine lv_if_ne (tgt := 21) hx hb dX11_meal_15 (by decide) (fun h => ?_) (fun h => ?_)
    · replace hq := br_neg h hq
      refine lv_aload_n hx hb dX11_meal_21 rfl (lv_at hl 0 rfl) ?_
      refine lv_iload_n hx hb dX11_meal_22 rfl (lv_at hl 3 rfl) ?_
      refine kX11_areFasts C hW (Nat.le_trans (by decide) hRf) (Nat.le_trans (by decide) hRl) hl.1 (Nat.le_of_ble_eq_true rfl) dX11_meal_23 hq (fun r_6 σ_5 H locs hq hW => ?_)
      refine lv_if_ne (tgt := 32) hx hb dX11_meal_26 (by decide) (fun h => ?_) (fun h => ?_)
      · replace hq := br_neg h hq
        refine lv_aload_n hx hb dX11_meal_32 rfl (lv_at hl 0 rfl) ?_
        refine lv_iload_n hx hb dX11_meal_33 rfl (lv_at hl 1 rfl) ?_
        refine lv_iload_n hx hb dX11_meal_34 rfl (lv_at hl 2 rfl) ?_
        refine lv_iload_n hx hb dX11_meal_35 rfl (lv_at hl 3 rfl) ?_
        refine kX11_layDay C hW (Nat.le_trans (by decide) hRf) (Nat.le_trans (by decide) hRl) hl.1 (Nat.le_of_ble_eq_true rfl) dX11_meal_36 hq (fun σ_7 H locs hq hW => ?_)
        refine lv_aload_n hx hb dX11_meal_39 rfl (lv_at hl 0 rfl) ?_
        refine mg_45 C hW dX11_meal_40 ?_
        refine lv_iload hx hb dX11_meal_43 (lv_at hl 4 rfl) ?_
        obtain ⟨hin8, hq⟩ := hq
        refine ma_45 C hW hin8 dX11_meal_45 ?_
        exact hret _ _ _ _ _ _ dX11_meal_46 hW hq
      · replace hq := br_pos h hq
        refine lv_bipush (v := (-102)) hx hb dX11_meal_29 (by decide) ?_
        exact hret _ _ _ _ _ _ dX11_meal_31 hW hq
    · replace hq := br_pos h hq
      refine lv_bipush (v := (-101)) hx hb dX11_meal_18 (by decide) ?_
      exact hret _ _ _ _ _ _ dX11_meal_20 hW hq
set_option maxHeartbeats 4000000 in
set_option maxRecDepth 100000 in
theorem mX11_meal {l : Launch} {g : MG} {σ : MS} {x1 : Int32} {x2 : Int32} {x3 : Int32} {x4 : Int32} {P : Int32 → MS → Prop} (hq : qX11_meal σ x1 x2 x3 x4 P) (sz : Nat) : Met l yX11_meal (cws yX11_meal cX11_meal 5 (some .int)) ({ frames := 6, cells := 0, slots := 0, locals := 132 } : Room) (va_Pc [.ref g.2.1, .int x1, .int x2, .int x3, .int x4] (WP g.1 (mw g) (mty g) σ sz)) (va_Qi P (WB g.1 (mw g) (mty g) σ sz) (va_A (mw g σ) sz)) 0 0 (va_A (mw g σ) sz) :=
  w_enter (by decide) (Nat.le_of_ble_eq_true rfl) (fun p e s m args below meth c ls C hr hk hn hs hW hl => wX11_meal C (Nat.le_refl _) (Nat.le_refl _) (fun pc ls v σ H locs hd hW hq => w_iret C hs hr hk hW hd hq) hW hl hq)
-- X11_bite
set_option maxHeartbeats 4000000 in
set_option maxRecDepth 100000 in
theorem wX11_bite (C : CallFix p m c cX11_bite 6 s args lwg RX11) (hRf : 6 ≤ R.frames) (hRl : 132 ≤ R.locals) {P : Int32 → MS → Prop} (hret : RetI g.1 (mw g) (mty g) A p l e R s m args below meth c 0 0 Q cX11_bite P) {σ : MS} {x1 : Int32} {x2 : Int32} {x3 : Int32} {x4 : Int32} {x5 : Int32} {H : Heap} {locs : List Loc} {ls : Array Slot} (hW : WI g.1 (mw g) (mty g) A s σ H locs) (hl : lv_has ls 6 [(0, .ref g.2.1), (1, .int x1), (2, .int x2), (3, .int x3), (4, .int x4), (5, .int x5)]) (hq : qX11_bite σ x1 x2 x3 x4 x5 P) : W p l e R s m args below meth c H locs 0 0 Q (F0 m 0 ls []) := by
  have hx := C.1
  have hb := C.2.1
  unfold qX11_bite at hq
  refine lv_aload_n hx hb dX11_bite_0 rfl (lv_at hl 0 rfl) ?_
  refine lv_iload_n hx hb dX11_bite_1 rfl (lv_at hl 1 rfl) ?_
  refine lv_iload_n hx hb dX11_bite_2 rfl (lv_at hl 2 rfl) ?_
  refine kX11_isDay C hW (Nat.le_trans (by decide) hRf) (Nat.le_trans (by decide) hRl) hl.1 (Nat.le_of_ble_eq_true rfl) dX11_bite_3 hq (fun r_2 σ_1 H locs hq hW => ?_)
  refine lv_if_ne (tgt := 12) hx hb dX11_bite_6 (by decide) (fun h => ?_) (fun h => ?_)
  · replace hq := br_neg h hq
    refine lv_aload_n hx hb dX11_bite_12 rfl (lv_at hl 0 rfl) ?_
    refine lv_iload_n hx hb dX11_bite_13 rfl (lv_at hl 3 rfl) ?_
    refine kX11_areFasts C hW (Nat.le_trans (by decide) hRf) (Nat.le_trans (by decide) hRl) hl.1 (Nat.le_of_ble_eq_true rfl) dX11_bite_14 hq (fun r_4 σ_3 H locs hq hW => ?_)
    refine lv_if_eq (tgt := 42) hx hb dX11_bite_17 (by decide) (fun h => ?_) (fun h => ?_)
    · replace hq := br_pos h hq
      refine lv_bipush (v := (-102)) hx hb dX11_bite_42 (by decide) ?_
      exact hret _ _ _ _ _ _ dX11_bite_44 hW hq
    · replace hq := br_neg h hq
      refine lv_iload hx hb dX11_bite_20 (lv_at hl 4 rfl) ?_
      refine lv_iconst (v := 0) hx hb dX11_bite_22 (by decide) ?_
      refine lv_sipush (v := 599) hx hb dX11_bite_23 (by decide) ?_
      refine kX11_within C hW (Nat.le_trans (by decide) hRf) (Nat.le_trans (by decide) hRl) hl.1 (Nat.le_of_ble_eq_true rfl) dX11_bite_26 hq (fun r_6 σ_5 H locs hq hW => ?_)
      refine lv_if_eq (tgt := 42) hx hb dX11_bite_29 (by decide) (fun h => ?_) (fun h => ?_)
      · replace hq := br_pos h hq
        refine lv_bipush (v := (-102)) hx hb dX11_bite_42 (by decide) ?_
        exact hret _ _ _ _ _ _ dX11_bite_44 hW hq
      · replace hq := br_neg h hq
        refine lv_iload hx hb dX11_bite_32 (lv_at hl 5 rfl) ?_
        refine lv_iconst (v := 0) hx hb dX11_bite_34 (by decide) ?_
        refine lv_iconst (v := 4) hx hb dX11_bite_35 (by decide) ?_
        refine kX11_within C hW (Nat.le_trans (by decide) hRf) (Nat.le_trans (by decide) hRl) hl.1 (Nat.le_of_ble_eq_true rfl) dX11_bite_36 hq (fun r_8 σ_7 H locs hq hW => ?_)
        refine lv_if_ne (tgt := 45) hx hb dX11_bite_39 (by decide) (fun h => ?_) (fun h => ?_)
        · replace hq := br_neg h hq
          refine lv_aload_n hx hb dX11_bite_45 rfl (lv_at hl 0 rfl) ?_
          refine lv_iload_n hx hb dX11_bite_46 rfl (lv_at hl 1 rfl) ?_
          refine lv_iload_n hx hb dX11_bite_47 rfl (lv_at hl 2 rfl) ?_
          refine lv_iload_n hx hb dX11_bite_48 rfl (lv_at hl 3 rfl) ?_
          refine kX11_layDay C hW (Nat.le_trans (by decide) hRf) (Nat.le_trans (by decide) hRl) hl.1 (Nat.le_of_ble_eq_true rfl) dX11_bite_49 hq (fun σ_9 H locs hq hW => ?_)
          refine lv_iload hx hb dX11_bite_52 (lv_at hl 4 rfl) ?_
          refine lv_aload_n hx hb dX11_bite_54 rfl (lv_at hl 0 rfl) ?_
          refine mg_43 C hW dX11_bite_55 ?_
          refine lv_icmp_ge (tgt := 76) hx hb dX11_bite_58 (by decide) (fun h => ?_) (fun h => ?_)
          · replace hq := br_pos h hq
            refine lv_iconst (v := (-1)) hx hb dX11_bite_76 (by decide) ?_
            exact hret _ _ _ _ _ _ dX11_bite_77 hW hq
          · replace hq := br_neg h hq
            refine lv_aload_n hx hb dX11_bite_61 rfl (lv_at hl 0 rfl) ?_
            refine mg_48 C hW dX11_bite_62 ?_
            refine lv_iconst (v := 5) hx hb dX11_bite_65 (by decide) ?_
            refine lv_iload hx hb dX11_bite_66 (lv_at hl 4 rfl) ?_
            refine lv_imul hx hb dX11_bite_68 ?_
            refine lv_iload hx hb dX11_bite_69 (lv_at hl 5 rfl) ?_
            refine lv_iadd hx hb dX11_bite_71 ?_
            obtain ⟨hin10, hq⟩ := hq
            refine ma_48 C hW hin10 dX11_bite_72 ?_
            refine lv_goto (tgt := 77) hx hb dX11_bite_73 (by decide) ?_
            exact hret _ _ _ _ _ _ dX11_bite_77 hW hq
        · replace hq := br_pos h hq
          refine lv_bipush (v := (-102)) hx hb dX11_bite_42 (by decide) ?_
          exact hret _ _ _ _ _ _ dX11_bite_44 hW hq
  · replace hq := br_pos h hq
    refine lv_bipush (v := (-101)) hx hb dX11_bite_9 (by decide) ?_
    exact hret _ _ _ _ _ _ dX11_bite_11 hW hq
set_option maxHeartbeats 4000000 in
set_option maxRecDepth 100000 in
theorem mX11_bite {l : Launch} {g : MG} {σ : MS} {x1 : Int32} {x2 : Int32} {x3 : Int32} {x4 : Int32} {x5 : Int32} {P : Int32 → MS → Prop} (hq : qX11_bite σ x1 x2 x3 x4 x5 P) (sz : Nat) : Met l yX11_bite (cws yX11_bite cX11_bite 6 (some .int)) ({ frames := 6, cells := 0, slots := 0, locals := 132 } : Room) (va_Pc [.ref g.2.1, .int x1, .int x2, .int x3, .int x4, .int x5] (WP g.1 (mw g) (mty g) σ sz)) (va_Qi P (WB g.1 (mw g) (mty g) σ sz) (va_A (mw g σ) sz)) 0 0 (va_A (mw g σ) sz) :=
  w_enter (by decide) (Nat.le_of_ble_eq_true rfl) (fun p e s m args below meth c ls C hr hk hn hs hW hl => wX11_bite C (Nat.le_refl _) (Nat.le_refl _) (fun pc ls v σ H locs hd hW hq => w_iret C hs hr hk hW hd hq) hW hl hq)
-- X11_leastNow
set_option maxHeartbeats 4000000 in
set_option maxRecDepth 100000 in
theorem wX11_leastNow_L5 (C : CallFix p m c cX11_leastNow 4 s args lwg RX11) (hRf : 0 ≤ R.frames) (hRl : 0 ≤ R.locals) {P : Int32 → MS → Prop} (hret : RetI g.1 (mw g) (mty g) A p l e R s m args below meth c 0 0 Q cX11_leastNow P) {e53 : MS → Int32 → Prop} (he53 : ∀ (σ : MS) (x1 : Int32) (H : Heap) (locs : List Loc) (ls : Array Slot), WI g.1 (mw g) (mty g) A s σ H locs → lv_has ls 4 [(0, .ref g.2.1), (1, .int x1)] → e53 σ x1 → W p l e R s m args below meth c H locs 0 0 Q (F0 m 53 ls [])) : ∀ (n : Nat) (σ : MS) (x1 : Int32) (x2 : Int32) (H : Heap) (locs : List Loc) (ls : Array Slot), WI g.1 (mw g) (mty g) A s σ H locs → lv_has ls 4 [(0, .ref g.2.1), (1, .int x1), (2, .int x2)] → qX11_leastNow_L5 e53 P n σ x1 x2 → W p l e R s m args below meth c H locs 0 0 Q (F0 m 5 ls []) := by
  have hx := C.1
  have hb := C.2.1
  intro n
  induction n with
  | zero =>
    intro σ x1 x2 H locs ls hW hl hq
    rw [qX11_leastNow_L5] at hq
    exact hq.elim
  | succ n ih =>
    intro σ x1 x2 H locs ls hW hl hq
    rw [qX11_leastNow_L5] at hq
    refine lv_iload_n hx hb dX11_leastNow_5 rfl (lv_at hl 2 rfl) ?_
    refine lv_aload_n hx hb dX11_leastNow_6 rfl (lv_at hl 0 rfl) ?_
    refine mg_0 C hW dX11_leastNow_7 ?_
    refine lv_icmp_ge (tgt := 53) hx hb dX11_leastNow_10 (by decide) (fun h => ?_) (fun h => ?_)
    · replace hq := br_pos h hq
      exact he53 _ _ _ _ _ hW (lv_sub hl [0, 1] rfl) hq
    · replace hq := br_neg h hq
      refine lv_aload_n hx hb dX11_leastNow_13 rfl (lv_at hl 0 rfl) ?_
      refine mg_45 C hW dX11_leastNow_14 ?_
      refine lv_iload_n hx hb dX11_leastNow_17 rfl (lv_at hl 2 rfl) ?_
      obtain ⟨hin1, hq⟩ := hq
      refine ma_45 C hW hin1 dX11_leastNow_18 ?_
      refine lv_aload_n hx hb dX11_leastNow_19 rfl (lv_at hl 0 rfl) ?_
      refine mg_3 C hW dX11_leastNow_20 ?_
      refine lv_iload_n hx hb dX11_leastNow_23 rfl (lv_at hl 2 rfl) ?_
      refine ma_3 C hW hin1 dX11_leastNow_24 ?_
      refine lv_isub hx hb dX11_leastNow_25 ?_
      refine lv_topi (fun x3_2 ex3_2 => ?_)
      replace hq := hq _ ex3_2
      refine lv_istore_n (lv' := [(3, .int x3_2), (0, .ref g.2.1), (1, .int x1), (2, .int x2)]) hx hb dX11_leastNow_26 rfl hl (by decide) rfl (fun ls hl => ?_)
      refine lv_aload_n hx hb dX11_leastNow_27 rfl (lv_at hl 1 rfl) ?_
      refine mg_38 C hW dX11_leastNow_28 ?_
      refine lv_iload_n hx hb dX11_leastNow_31 rfl (lv_at hl 3 rfl) ?_
      refine ma_38 C hW hin1 dX11_leastNow_32 ?_
      refine (fun (K : ∀ v_3 : Int32, v_3 = ((if (mgeta σ 38 x2) < 0 then x1 else (if x1 ≤ x3_2 then x1 else x3_2)) : Int32) → W p l e R s m args below meth c H locs 0 0 Q (F0 m 46 ls (.int v_3 :: []))) => ?_) ?_
      · refine lv_if_lt (tgt := 45) hx hb dX11_leastNow_33 (by decide) (fun h33 => ?_) (fun h33 => ?_)
        · refine lv_iload_n hx hb dX11_leastNow_45 rfl (lv_at hl 2 rfl) ?_
          exact K _ (by rw [if_pos h33])
        · refine lv_iload_n hx hb dX11_leastNow_36 rfl (lv_at hl 0 rfl) ?_
          refine lv_iload_n hx hb dX11_leastNow_37 rfl (lv_at hl 2 rfl) ?_
          refine lv_icmp_ge (tgt := 45) hx hb dX11_leastNow_38 (by decide) (fun h38 => ?_) (fun h38 => ?_)
          · refine lv_iload_n hx hb dX11_leastNow_45 rfl (lv_at hl 2 rfl) ?_
            exact K _ (by rw [if_neg h33, if_pos h38])
          · refine lv_iload_n hx hb dX11_leastNow_41 rfl (lv_at hl 0 rfl) ?_
            refine lv_goto (tgt := 46) hx hb dX11_leastNow_42 (by decide) ?_
            exact K _ (by rw [if_neg h33, if_neg h38])
      intro v_3 ev_3
      replace hq := hq _ ev_3
      refine lv_istore_n (lv' := [(1, .int v_3), (3, .int x3_2), (0, .ref g.2.1), (2, .int x2)]) hx hb dX11_leastNow_46 rfl hl (by decide) rfl (fun ls hl => ?_)
      obtain ⟨x2_4, ex2_4⟩ : ∃ y : Int32, y = x2 + 1 := ⟨_, rfl⟩
      replace hq := hq _ ex2_4
      refine lv_iinc (v := x2_4) (lv' := [(2, .int x2_4), (1, .int v_3), (3, .int x3_2), (0, .ref g.2.1)]) hx hb dX11_leastNow_47 hl (k := 3) rfl (by rw [ex2_4]; rfl) (by decide) rfl (fun ls hl => ?_)
      refine lv_goto (tgt := 5) hx hb dX11_leastNow_50 (by decide) ?_
      exact ih _ _ _ _ _ _ hW (lv_sub hl [3, 1, 0] rfl) hq
set_option maxHeartbeats 4000000 in
set_option maxRecDepth 100000 in
theorem wX11_leastNow (C : CallFix p m c cX11_leastNow 4 s args lwg RX11) (hRf : 0 ≤ R.frames) (hRl : 0 ≤ R.locals) {P : Int32 → MS → Prop} (hret : RetI g.1 (mw g) (mty g) A p l e R s m args below meth c 0 0 Q cX11_leastNow P) {σ : MS} {H : Heap} {locs : List Loc} {ls : Array Slot} (hW : WI g.1 (mw g) (mty g) A s σ H locs) (hl : lv_has ls 4 [(0, .ref g.2.1)]) (hq : qX11_leastNow σ  P) : W p l e R s m args below meth c H locs 0 0 Q (F0 m 0 ls []) := by
  have hx := C.1
  have hb := C.2.1
  unfold qX11_leastNow at hq
  refine lv_ldc (own := RX11) (v := 268435456) hx hb C.2.2.2.1 (C.2.2.2.2 _ (lwg_at 1182 (by decide +kernel) rfl)) dX11_leastNow_0 ?_
  refine lv_istore_n (lv' := [(1, .int 268435456), (0, .ref g.2.1)]) hx hb dX11_leastNow_2 rfl hl (by decide) rfl (fun ls hl => ?_)
  refine lv_iconst (v := 0) hx hb dX11_leastNow_3 (by decide) ?_
  refine lv_istore_n (lv' := [(2, .int 0), (1, .int 268435456), (0, .ref g.2.1)]) hx hb dX11_leastNow_4 rfl hl (by decide) rfl (fun ls hl => ?_)
  obtain ⟨f5, hq⟩ := hq
  refine wX11_leastNow_L5 C hRf hRl hret ?_ f5 _ _ _ _ _ _ hW (lv_sub hl [2, 1, 0] rfl) hq
  · intro σ_2 x1_1 H locs ls hW hl hq
    refine lv_iload_n hx hb dX11_leastNow_53 rfl (lv_at hl 1 rfl) ?_
    refine lv_ldc (own := RX11) (v := 268435456) hx hb C.2.2.2.1 (C.2.2.2.2 _ (lwg_at 1182 (by decide +kernel) rfl)) dX11_leastNow_54 ?_
    refine lv_icmp_ne (tgt := 63) hx hb dX11_leastNow_56 (by decide) (fun h => ?_) (fun h => ?_)
    · replace hq := br_neg h hq
      refine lv_iload_n hx hb dX11_leastNow_63 rfl (lv_at hl 1 rfl) ?_
      exact hret _ _ _ _ _ _ dX11_leastNow_64 hW hq
    · replace hq := br_pos h hq
      refine lv_iconst (v := 0) hx hb dX11_leastNow_59 (by decide) ?_
      refine lv_goto (tgt := 64) hx hb dX11_leastNow_60 (by decide) ?_
      exact hret _ _ _ _ _ _ dX11_leastNow_64 hW hq
set_option maxHeartbeats 4000000 in
set_option maxRecDepth 100000 in
theorem mX11_leastNow {l : Launch} {g : MG} {σ : MS} {P : Int32 → MS → Prop} (hq : qX11_leastNow σ  P) (sz : Nat) : Met l yX11_leastNow (cws yX11_leastNow cX11_leastNow 4 (some .int)) ({ frames := 0, cells := 0, slots := 0, locals := 0 } : Room) (va_Pc [.ref g.2.1] (WP g.1 (mw g) (mty g) σ sz)) (va_Qi P (WB g.1 (mw g) (mty g) σ sz) (va_A (mw g σ) sz)) 0 0 (va_A (mw g σ) sz) :=
  w_enter (by decide) (Nat.le_of_ble_eq_true rfl) (fun p e s m args below meth c ls C hr hk hn hs hW hl => wX11_leastNow C (Nat.le_refl _) (Nat.le_refl _) (fun pc ls v σ H locs hd hW hq => w_iret C hs hr hk hW hd hq) hW hl hq)
set_option maxHeartbeats 4000000 in
set_option maxRecDepth 100000 in
theorem kX11_leastNow (C : CallFix p m c cc nL s args lwg RX11) {σ : MS} (hW : WI g.1 (mw g) (mty g) A s σ H locs) (hRf : 1 ≤ R.frames) (hRl : 23 ≤ R.locals) (hls : ls.size = nL) (hro : (rest.map fun v => v.category).sum ≤ 8) (hd : decode cc pc = .ok (.invokevirtual 253, 3)) {P : Int32 → MS → Prop} (hq : qX11_leastNow σ  P) (kk : ∀ (r : Int32) (σ1 : MS) (H : Heap) (locs : List Loc), P r σ1 → WI g.1 (mw g) (mty g) A s σ1 H locs → W p l e R s m args below meth c H locs 0 0 Q (F0 m (pc + 3) ls (.int r :: rest))) : W p l e R s m args below meth c H locs 0 0 Q (F0 m pc ls (.ref g.2.1 :: rest)) :=
  w_calli hW (w_runV C hW (mX11_leastNow hq _) ⟨lwg_at 1257 (by decide +kernel) rfl, lwg_at 74 (by decide +kernel) rfl, lwg_at 1254 (by decide +kernel) rfl⟩ (lwg_at 1256 (by decide +kernel) rfl) (lwg_at 53 (by decide +kernel) rfl) (np := 0) (by decide +kernel) ⟨rfl, rfl⟩ ⟨hRf, hRl⟩ (ci := 12) rfl rfl (q0 := 0) rfl rfl hls rfl hro hd ⟨Nat.zero_le _, Nat.zero_le _⟩) kk
-- X11_leastOf
set_option maxHeartbeats 4000000 in
set_option maxRecDepth 100000 in
theorem wX11_leastOf (C : CallFix p m c cX11_leastOf 3 s args lwg RX11) (hRf : 6 ≤ R.frames) (hRl : 132 ≤ R.locals) {P : Int32 → MS → Prop} (hret : RetI g.1 (mw g) (mty g) A p l e R s m args below meth c 0 0 Q cX11_leastOf P) {σ : MS} {x1 : Int32} {x2 : Int32} {H : Heap} {locs : List Loc} {ls : Array Slot} (hW : WI g.1 (mw g) (mty g) A s σ H locs) (hl : lv_has ls 3 [(0, .ref g.2.1), (1, .int x1), (2, .int x2)]) (hq : qX11_leastOf σ x1 x2 P) : W p l e R s m args below meth c H locs 0 0 Q (F0 m 0 ls []) := by
  have hx := C.1
  have hb := C.2.1
  unfold qX11_leastOf at hq
  refine lv_aload_n hx hb dX11_leastOf_0 rfl (lv_at hl 0 rfl) ?_
  refine lv_iload_n hx hb dX11_leastOf_1 rfl (lv_at hl 1 rfl) ?_
  refine lv_iload_n hx hb dX11_leastOf_2 rfl (lv_at hl 2 rfl) ?_
  refine lv_iconst (v := 0) hx hb dX11_leastOf_3 (by decide) ?_
  refine kX11_layDay C hW (Nat.le_trans (by decide) hRf) (Nat.le_trans (by decide) hRl) hl.1 (Nat.le_of_ble_eq_true rfl) dX11_leastOf_4 hq (fun σ_1 H locs hq hW => ?_)
  refine lv_aload_n hx hb dX11_leastOf_7 rfl (lv_at hl 0 rfl) ?_
  refine kX11_leastNow C hW (Nat.le_trans (by decide) hRf) (Nat.le_trans (by decide) hRl) hl.1 (Nat.le_of_ble_eq_true rfl) dX11_leastOf_8 hq (fun r_3 σ_2 H locs hq hW => ?_)
  exact hret _ _ _ _ _ _ dX11_leastOf_11 hW hq
set_option maxHeartbeats 4000000 in
set_option maxRecDepth 100000 in
theorem mX11_leastOf {l : Launch} {g : MG} {σ : MS} {x1 : Int32} {x2 : Int32} {P : Int32 → MS → Prop} (hq : qX11_leastOf σ x1 x2 P) (sz : Nat) : Met l yX11_leastOf (cws yX11_leastOf cX11_leastOf 3 (some .int)) ({ frames := 6, cells := 0, slots := 0, locals := 132 } : Room) (va_Pc [.ref g.2.1, .int x1, .int x2] (WP g.1 (mw g) (mty g) σ sz)) (va_Qi P (WB g.1 (mw g) (mty g) σ sz) (va_A (mw g σ) sz)) 0 0 (va_A (mw g σ) sz) :=
  w_enter (by decide) (Nat.le_of_ble_eq_true rfl) (fun p e s m args below meth c ls C hr hk hn hs hW hl => wX11_leastOf C (Nat.le_refl _) (Nat.le_refl _) (fun pc ls v σ H locs hd hW hq => w_iret C hs hr hk hW hd hq) hW hl hq)
set_option maxHeartbeats 4000000 in
set_option maxRecDepth 100000 in
theorem kX11_leastOf (C : CallFix p m c cc nL s args lwg RX11) {σ : MS} (hW : WI g.1 (mw g) (mty g) A s σ H locs) (hRf : 7 ≤ R.frames) (hRl : 154 ≤ R.locals) (hls : ls.size = nL) (hro : (rest.map fun v => v.category).sum ≤ 8) {x1 : Int32} {x2 : Int32} (hd : decode cc pc = .ok (.invokevirtual 256, 3)) {P : Int32 → MS → Prop} (hq : qX11_leastOf σ x1 x2 P) (kk : ∀ (r : Int32) (σ1 : MS) (H : Heap) (locs : List Loc), P r σ1 → WI g.1 (mw g) (mty g) A s σ1 H locs → W p l e R s m args below meth c H locs 0 0 Q (F0 m (pc + 3) ls (.int r :: rest))) : W p l e R s m args below meth c H locs 0 0 Q (F0 m pc ls (.int x2 :: .int x1 :: .ref g.2.1 :: rest)) :=
  w_calli hW (w_runV C hW (mX11_leastOf hq _) ⟨lwg_at 1253 (by decide +kernel) rfl, lwg_at 74 (by decide +kernel) rfl, lwg_at 1250 (by decide +kernel) rfl⟩ (lwg_at 1252 (by decide +kernel) rfl) (lwg_at 52 (by decide +kernel) rfl) (np := 2) (by decide +kernel) ⟨rfl, rfl⟩ ⟨hRf, hRl⟩ (ci := 12) rfl rfl (q0 := 0) rfl rfl hls rfl hro hd ⟨Nat.zero_le _, Nat.zero_le _⟩) kk
-- X11_least
set_option maxHeartbeats 4000000 in
set_option maxRecDepth 100000 in
theorem wX11_least (C : CallFix p m c cX11_least 3 s args lwg RX11) (hRf : 7 ≤ R.frames) (hRl : 154 ≤ R.locals) {P : Int32 → MS → Prop} (hret : RetI g.1 (mw g) (mty g) A p l e R s m args below meth c 0 0 Q cX11_least P) {σ : MS} {x1 : Int32} {x2 : Int32} {H : Heap} {locs : List Loc} {ls : Array Slot} (hW : WI g.1 (mw g) (mty g) A s σ H locs) (hl : lv_has ls 3 [(0, .ref g.2.1), (1, .int x1), (2, .int x2)]) (hq : qX11_least σ x1 x2 P) : W p l e R s m args below meth c H locs 0 0 Q (F0 m 0 ls []) := by
  have hx := C.1
  have hb := C.2.1
  unfold qX11_least at hq
  refine lv_aload_n hx hb dX11_least_0 rfl (lv_at hl 0 rfl) ?_
  refine lv_iload_n hx hb dX11_least_1 rfl (lv_at hl 1 rfl) ?_
  refine lv_iload_n hx hb dX11_least_2 rfl (lv_at hl 2 rfl) ?_
  refine kX11_isDay C hW (Nat.le_trans (by decide) hRf) (Nat.le_trans (by decide) hRl) hl.1 (Nat.le_of_ble_eq_true rfl) dX11_least_3 hq (fun r_2 σ_1 H locs hq hW => ?_)
  refine lv_if_eq (tgt := 18) hx hb dX11_least_6 (by decide) (fun h => ?_) (fun h => ?_)
  · replace hq := br_pos h hq
    refine lv_sipush (v := (-1001)) hx hb dX11_least_18 (by decide) ?_
    exact hret _ _ _ _ _ _ dX11_least_21 hW hq
  · replace hq := br_neg h hq
    refine lv_aload_n hx hb dX11_least_9 rfl (lv_at hl 0 rfl) ?_
    refine lv_iload_n hx hb dX11_least_10 rfl (lv_at hl 1 rfl) ?_
    refine lv_iload_n hx hb dX11_least_11 rfl (lv_at hl 2 rfl) ?_
    refine kX11_leastOf C hW (Nat.le_trans (by decide) hRf) (Nat.le_trans (by decide) hRl) hl.1 (Nat.le_of_ble_eq_true rfl) dX11_least_12 hq (fun r_4 σ_3 H locs hq hW => ?_)
    refine lv_goto (tgt := 21) hx hb dX11_least_15 (by decide) ?_
    exact hret _ _ _ _ _ _ dX11_least_21 hW hq
set_option maxHeartbeats 4000000 in
set_option maxRecDepth 100000 in
theorem mX11_least {l : Launch} {g : MG} {σ : MS} {x1 : Int32} {x2 : Int32} {P : Int32 → MS → Prop} (hq : qX11_least σ x1 x2 P) (sz : Nat) : Met l yX11_least (cws yX11_least cX11_least 3 (some .int)) ({ frames := 7, cells := 0, slots := 0, locals := 154 } : Room) (va_Pc [.ref g.2.1, .int x1, .int x2] (WP g.1 (mw g) (mty g) σ sz)) (va_Qi P (WB g.1 (mw g) (mty g) σ sz) (va_A (mw g σ) sz)) 0 0 (va_A (mw g σ) sz) :=
  w_enter (by decide) (Nat.le_of_ble_eq_true rfl) (fun p e s m args below meth c ls C hr hk hn hs hW hl => wX11_least C (Nat.le_refl _) (Nat.le_refl _) (fun pc ls v σ H locs hd hW hq => w_iret C hs hr hk hW hd hq) hW hl hq)
-- X11_bestStart
set_option maxHeartbeats 4000000 in
set_option maxRecDepth 100000 in
theorem wX11_bestStart_L30 (C : CallFix p m c cX11_bestStart 6 s args lwg RX11) (hRf : 7 ≤ R.frames) (hRl : 154 ≤ R.locals) {P : Int32 → MS → Prop} (hret : RetI g.1 (mw g) (mty g) A p l e R s m args below meth c 0 0 Q cX11_bestStart P) : ∀ (n : Nat) (σ : MS) (x1 : Int32) (x2 : Int32) (x3 : Int32) (x4 : Int32) (H : Heap) (locs : List Loc) (ls : Array Slot), WI g.1 (mw g) (mty g) A s σ H locs → lv_has ls 6 [(0, .ref g.2.1), (1, .int x1), (2, .int x2), (3, .int x3), (4, .int x4)] → qX11_bestStart_L30  P n σ x1 x2 x3 x4 → W p l e R s m args below meth c H locs 0 0 Q (F0 m 30 ls []) := by
  have hx := C.1
  have hb := C.2.1
  intro n
  induction n with
  | zero =>
    intro σ x1 x2 x3 x4 H locs ls hW hl hq
    rw [qX11_bestStart_L30] at hq
    exact hq.elim
  | succ n ih =>
    intro σ x1 x2 x3 x4 H locs ls hW hl hq
    rw [qX11_bestStart_L30] at hq
    refine lv_iload hx hb dX11_bestStart_30 (lv_at hl 4 rfl) ?_
    refine lv_aload_n hx hb dX11_bestStart_32 rfl (lv_at hl 0 rfl) ?_
    refine mg_0 C hW dX11_bestStart_33 ?_
    refine lv_icmp_ge (tgt := 80) hx hb dX11_bestStart_36 (by decide) (fun h => ?_) (fun h => ?_)
    · replace hq := br_pos h hq
      refine lv_iload_n hx hb dX11_bestStart_80 rfl (lv_at hl 2 rfl) ?_
      exact hret _ _ _ _ _ _ dX11_bestStart_81 hW hq
    · replace hq := br_neg h hq
      refine lv_aload_n hx hb dX11_bestStart_39 rfl (lv_at hl 0 rfl) ?_
      refine lv_iload_n hx hb dX11_bestStart_40 rfl (lv_at hl 1 rfl) ?_
      refine lv_iload hx hb dX11_bestStart_41 (lv_at hl 4 rfl) ?_
      refine kX11_leastOf C hW (Nat.le_trans (by decide) hRf) (Nat.le_trans (by decide) hRl) hl.1 (Nat.le_of_ble_eq_true rfl) dX11_bestStart_43 hq (fun r_2 σ_1 H locs hq hW => ?_)
      refine lv_istore (lv' := [(5, .int r_2), (0, .ref g.2.1), (1, .int x1), (2, .int x2), (3, .int x3), (4, .int x4)]) hx hb dX11_bestStart_46 hl (by decide) rfl (fun ls hl => ?_)
      refine lv_iload hx hb dX11_bestStart_48 (lv_at hl 0 rfl) ?_
      refine lv_iload_n hx hb dX11_bestStart_50 rfl (lv_at hl 4 rfl) ?_
      refine (fun (K : ∀ v_3 : Int32, v_3 = ((if r_2 ≤ x3 then x2 else x4) : Int32) → W p l e R s m args below meth c H locs 0 0 Q (F0 m 60 ls (.int v_3 :: []))) => ?_) ?_
      · refine lv_icmp_le (tgt := 59) hx hb dX11_bestStart_51 (by decide) (fun h51 => ?_) (fun h51 => ?_)
        · refine lv_iload_n hx hb dX11_bestStart_59 rfl (lv_at hl 3 rfl) ?_
          exact K _ (by rw [if_pos h51])
        · refine lv_iload hx hb dX11_bestStart_54 (lv_at hl 5 rfl) ?_
          refine lv_goto (tgt := 60) hx hb dX11_bestStart_56 (by decide) ?_
          exact K _ (by rw [if_neg h51])
      intro v_3 ev_3
      replace hq := hq _ ev_3
      refine lv_istore_n (lv' := [(2, .int v_3), (5, .int r_2), (0, .ref g.2.1), (1, .int x1), (3, .int x3), (4, .int x4)]) hx hb dX11_bestStart_60 rfl hl (by decide) rfl (fun ls hl => ?_)
      refine lv_iload hx hb dX11_bestStart_61 (lv_at hl 1 rfl) ?_
      refine lv_iload_n hx hb dX11_bestStart_63 rfl (lv_at hl 4 rfl) ?_
      refine (fun (K : ∀ v_4 : Int32, v_4 = ((if r_2 ≤ x3 then x3 else r_2) : Int32) → W p l e R s m args below meth c H locs 0 0 Q (F0 m 73 ls (.int v_4 :: []))) => ?_) ?_
      · refine lv_icmp_le (tgt := 72) hx hb dX11_bestStart_64 (by decide) (fun h64 => ?_) (fun h64 => ?_)
        · refine lv_iload_n hx hb dX11_bestStart_72 rfl (lv_at hl 4 rfl) ?_
          exact K _ (by rw [if_pos h64])
        · refine lv_iload hx hb dX11_bestStart_67 (lv_at hl 1 rfl) ?_
          refine lv_goto (tgt := 73) hx hb dX11_bestStart_69 (by decide) ?_
          exact K _ (by rw [if_neg h64])
      intro v_4 ev_4
      replace hq := hq _ ev_4
      refine lv_istore_n (lv' := [(3, .int v_4), (2, .int v_3), (5, .int r_2), (0, .ref g.2.1), (1, .int x1), (4, .int x4)]) hx hb dX11_bestStart_73 rfl hl (by decide) rfl (fun ls hl => ?_)
      obtain ⟨x4_5, ex4_5⟩ : ∃ y : Int32, y = x4 + 1 := ⟨_, rfl⟩
      replace hq := hq _ ex4_5
      refine lv_iinc (v := x4_5) (lv' := [(4, .int x4_5), (3, .int v_4), (2, .int v_3), (5, .int r_2), (0, .ref g.2.1), (1, .int x1)]) hx hb dX11_bestStart_74 hl (k := 5) rfl (by rw [ex4_5]; rfl) (by decide) rfl (fun ls hl => ?_)
      refine lv_goto (tgt := 30) hx hb dX11_bestStart_77 (by decide) ?_
      exact ih _ _ _ _ _ _ _ _ hW (lv_sub hl [4, 5, 2, 1, 0] rfl) hq
set_option maxHeartbeats 4000000 in
set_option maxRecDepth 100000 in
theorem wX11_bestStart (C : CallFix p m c cX11_bestStart 6 s args lwg RX11) (hRf : 7 ≤ R.frames) (hRl : 154 ≤ R.locals) {P : Int32 → MS → Prop} (hret : RetI g.1 (mw g) (mty g) A p l e R s m args below meth c 0 0 Q cX11_bestStart P) {σ : MS} {x1 : Int32} {H : Heap} {locs : List Loc} {ls : Array Slot} (hW : WI g.1 (mw g) (mty g) A s σ H locs) (hl : lv_has ls 6 [(0, .ref g.2.1), (1, .int x1)]) (hq : qX11_bestStart σ x1 P) : W p l e R s m args below meth c H locs 0 0 Q (F0 m 0 ls []) := by
  have hx := C.1
  have hb := C.2.1
  unfold qX11_bestStart at hq
  refine lv_aload_n hx hb dX11_bestStart_0 rfl (lv_at hl 0 rfl) ?_
  refine lv_iload_n hx hb dX11_bestStart_1 rfl (lv_at hl 1 rfl) ?_
  refine kX11_isVow C hW (Nat.le_trans (by decide) hRf) (Nat.le_trans (by decide) hRl) hl.1 (Nat.le_of_ble_eq_true rfl) dX11_bestStart_2 hq (fun r_2 σ_1 H locs hq hW => ?_)
  refine lv_if_ne (tgt := 11) hx hb dX11_bestStart_5 (by decide) (fun h => ?_) (fun h => ?_)
  · replace hq := br_neg h hq
    refine lv_aload_n hx hb dX11_bestStart_11 rfl (lv_at hl 0 rfl) ?_
    refine mg_0 C hW dX11_bestStart_12 ?_
    refine lv_if_ne (tgt := 21) hx hb dX11_bestStart_15 (by decide) (fun h => ?_) (fun h => ?_)
    · replace hq := br_neg h hq
      refine lv_iconst (v := 0) hx hb dX11_bestStart_21 (by decide) ?_
      refine lv_istore_n (lv' := [(2, .int 0), (0, .ref g.2.1), (1, .int x1)]) hx hb dX11_bestStart_22 rfl hl (by decide) rfl (fun ls hl => ?_)
      refine lv_ldcw (own := RX11) (v := (-268435456)) hx hb C.2.2.2.1 (C.2.2.2.2 _ (lwg_at 1262 (by decide +kernel) rfl)) dX11_bestStart_23 ?_
      refine lv_istore_n (lv' := [(3, .int (-268435456)), (2, .int 0), (0, .ref g.2.1), (1, .int x1)]) hx hb dX11_bestStart_26 rfl hl (by decide) rfl (fun ls hl => ?_)
      refine lv_iconst (v := 0) hx hb dX11_bestStart_27 (by decide) ?_
      refine lv_istore (lv' := [(4, .int 0), (3, .int (-268435456)), (2, .int 0), (0, .ref g.2.1), (1, .int x1)]) hx hb dX11_bestStart_28 hl (by decide) rfl (fun ls hl => ?_)
      obtain ⟨f30, hq⟩ := hq
      exact wX11_bestStart_L30 C hRf hRl hret f30 _ _ _ _ _ _ _ _ hW (lv_sub hl [3, 4, 2, 1, 0] rfl) hq
    · replace hq := br_pos h hq
      refine lv_bipush (v := (-103)) hx hb dX11_bestStart_18 (by decide) ?_
      exact hret _ _ _ _ _ _ dX11_bestStart_20 hW hq
  · replace hq := br_pos h hq
    refine lv_bipush (v := (-101)) hx hb dX11_bestStart_8 (by decide) ?_
    exact hret _ _ _ _ _ _ dX11_bestStart_10 hW hq
set_option maxHeartbeats 4000000 in
set_option maxRecDepth 100000 in
theorem mX11_bestStart {l : Launch} {g : MG} {σ : MS} {x1 : Int32} {P : Int32 → MS → Prop} (hq : qX11_bestStart σ x1 P) (sz : Nat) : Met l yX11_bestStart (cws yX11_bestStart cX11_bestStart 6 (some .int)) ({ frames := 7, cells := 0, slots := 0, locals := 154 } : Room) (va_Pc [.ref g.2.1, .int x1] (WP g.1 (mw g) (mty g) σ sz)) (va_Qi P (WB g.1 (mw g) (mty g) σ sz) (va_A (mw g σ) sz)) 0 0 (va_A (mw g σ) sz) :=
  w_enter (by decide) (Nat.le_of_ble_eq_true rfl) (fun p e s m args below meth c ls C hr hk hn hs hW hl => wX11_bestStart C (Nat.le_refl _) (Nat.le_refl _) (fun pc ls v σ H locs hd hW hq => w_iret C hs hr hk hW hd hq) hW hl hq)
-- X11_bestSwap
set_option maxHeartbeats 4000000 in
set_option maxRecDepth 100000 in
theorem wX11_bestSwap_L40 (C : CallFix p m c cX11_bestSwap 8 s args lwg RX11) (hRf : 7 ≤ R.frames) (hRl : 154 ≤ R.locals) {P : Int32 → MS → Prop} (hret : RetI g.1 (mw g) (mty g) A p l e R s m args below meth c 0 0 Q cX11_bestSwap P) {e115 : MS → Int32 → Int32 → Int32 → Int32 → Int32 → Prop} (he115 : ∀ (σ : MS) (x1 : Int32) (x2 : Int32) (x3 : Int32) (x4 : Int32) (x5 : Int32) (H : Heap) (locs : List Loc) (ls : Array Slot), WI g.1 (mw g) (mty g) A s σ H locs → lv_has ls 8 [(0, .ref g.2.1), (1, .int x1), (2, .int x2), (3, .int x3), (4, .int x4), (5, .int x5)] → e115 σ x1 x2 x3 x4 x5 → W p l e R s m args below meth c H locs 0 0 Q (F0 m 115 ls [])) : ∀ (n : Nat) (σ : MS) (x1 : Int32) (x2 : Int32) (x3 : Int32) (x4 : Int32) (x5 : Int32) (x6 : Int32) (H : Heap) (locs : List Loc) (ls : Array Slot), WI g.1 (mw g) (mty g) A s σ H locs → lv_has ls 8 [(0, .ref g.2.1), (1, .int x1), (2, .int x2), (3, .int x3), (4, .int x4), (5, .int x5), (6, .int x6)] → qX11_bestSwap_L40 e115 P n σ x1 x2 x3 x4 x5 x6 → W p l e R s m args below meth c H locs 0 0 Q (F0 m 40 ls []) := by
  have hx := C.1
  have hb := C.2.1
  intro n
  induction n with
  | zero =>
    intro σ x1 x2 x3 x4 x5 x6 H locs ls hW hl hq
    rw [qX11_bestSwap_L40] at hq
    exact hq.elim
  | succ n ih =>
    intro σ x1 x2 x3 x4 x5 x6 H locs ls hW hl hq
    rw [qX11_bestSwap_L40] at hq
    refine lv_iload hx hb dX11_bestSwap_40 (lv_at hl 6 rfl) ?_
    refine lv_aload_n hx hb dX11_bestSwap_42 rfl (lv_at hl 0 rfl) ?_
    refine mg_0 C hW dX11_bestSwap_43 ?_
    refine lv_icmp_ge (tgt := 115) hx hb dX11_bestSwap_46 (by decide) (fun h => ?_) (fun h => ?_)
    · replace hq := br_pos h hq
      exact he115 _ _ _ _ _ _ _ _ _ hW (lv_sub hl [0, 1, 2, 3, 4, 5] rfl) hq
    · replace hq := br_neg h hq
      refine lv_aload_n hx hb dX11_bestSwap_49 rfl (lv_at hl 0 rfl) ?_
      refine lv_iload hx hb dX11_bestSwap_50 (lv_at hl 5 rfl) ?_
      refine lv_iload hx hb dX11_bestSwap_52 (lv_at hl 6 rfl) ?_
      refine kX11_exchange C hW (Nat.le_trans (by decide) hRf) (Nat.le_trans (by decide) hRl) hl.1 (Nat.le_of_ble_eq_true rfl) dX11_bestSwap_54 hq (fun σ_1 H locs hq hW => ?_)
      refine lv_aload_n hx hb dX11_bestSwap_57 rfl (lv_at hl 0 rfl) ?_
      refine lv_iload_n hx hb dX11_bestSwap_58 rfl (lv_at hl 1 rfl) ?_
      refine lv_iload_n hx hb dX11_bestSwap_59 rfl (lv_at hl 2 rfl) ?_
      refine kX11_leastOf C hW (Nat.le_trans (by decide) hRf) (Nat.le_trans (by decide) hRl) hl.1 (Nat.le_of_ble_eq_true rfl) dX11_bestSwap_60 hq (fun r_3 σ_2 H locs hq hW => ?_)
      refine lv_istore (lv' := [(7, .int r_3), (0, .ref g.2.1), (1, .int x1), (2, .int x2), (3, .int x3), (4, .int x4), (5, .int x5), (6, .int x6)]) hx hb dX11_bestSwap_63 hl (by decide) rfl (fun ls hl => ?_)
      refine lv_aload_n hx hb dX11_bestSwap_65 rfl (lv_at hl 1 rfl) ?_
      refine lv_iload hx hb dX11_bestSwap_66 (lv_at hl 6 rfl) ?_
      refine lv_iload hx hb dX11_bestSwap_68 (lv_at hl 7 rfl) ?_
      refine kX11_exchange C hW (Nat.le_trans (by decide) hRf) (Nat.le_trans (by decide) hRl) hl.1 (Nat.le_of_ble_eq_true rfl) dX11_bestSwap_70 hq (fun σ_4 H locs hq hW => ?_)
      refine lv_iload hx hb dX11_bestSwap_73 (lv_at hl 0 rfl) ?_
      refine lv_iload hx hb dX11_bestSwap_75 (lv_at hl 5 rfl) ?_
      refine (fun (K : ∀ v_5 : Int32, v_5 = ((if r_3 ≤ x4 then x3 else ((16 * x5) + x6)) : Int32) → W p l e R s m args below meth c H locs 0 0 Q (F0 m 92 ls (.int v_5 :: []))) => ?_) ?_
      · refine lv_icmp_le (tgt := 91) hx hb dX11_bestSwap_77 (by decide) (fun h77 => ?_) (fun h77 => ?_)
        · refine lv_iload_n hx hb dX11_bestSwap_91 rfl (lv_at hl 4 rfl) ?_
          exact K _ (by rw [if_pos h77])
        · refine lv_bipush (v := 16) hx hb dX11_bestSwap_80 (by decide) ?_
          refine lv_iload hx hb dX11_bestSwap_82 (lv_at hl 6 rfl) ?_
          refine lv_imul hx hb dX11_bestSwap_84 ?_
          refine lv_iload hx hb dX11_bestSwap_85 (lv_at hl 7 rfl) ?_
          refine lv_iadd hx hb dX11_bestSwap_87 ?_
          refine lv_goto (tgt := 92) hx hb dX11_bestSwap_88 (by decide) ?_
          exact K _ (by rw [if_neg h77])
      intro v_5 ev_5
      replace hq := hq _ ev_5
      refine lv_istore_n (lv' := [(3, .int v_5), (7, .int r_3), (0, .ref g.2.1), (1, .int x1), (2, .int x2), (4, .int x4), (5, .int x5), (6, .int x6)]) hx hb dX11_bestSwap_92 rfl hl (by decide) rfl (fun ls hl => ?_)
      refine lv_iload hx hb dX11_bestSwap_93 (lv_at hl 1 rfl) ?_
      refine lv_iload hx hb dX11_bestSwap_95 (lv_at hl 5 rfl) ?_
      refine (fun (K : ∀ v_6 : Int32, v_6 = ((if r_3 ≤ x4 then x4 else r_3) : Int32) → W p l e R s m args below meth c H locs 0 0 Q (F0 m 107 ls (.int v_6 :: []))) => ?_) ?_
      · refine lv_icmp_le (tgt := 105) hx hb dX11_bestSwap_97 (by decide) (fun h97 => ?_) (fun h97 => ?_)
        · refine lv_iload hx hb dX11_bestSwap_105 (lv_at hl 5 rfl) ?_
          exact K _ (by rw [if_pos h97])
        · refine lv_iload hx hb dX11_bestSwap_100 (lv_at hl 1 rfl) ?_
          refine lv_goto (tgt := 107) hx hb dX11_bestSwap_102 (by decide) ?_
          exact K _ (by rw [if_neg h97])
      intro v_6 ev_6
      replace hq := hq _ ev_6
      refine lv_istore (lv' := [(4, .int v_6), (3, .int v_5), (7, .int r_3), (0, .ref g.2.1), (1, .int x1), (2, .int x2), (5, .int x5), (6, .int x6)]) hx hb dX11_bestSwap_107 hl (by decide) rfl (fun ls hl => ?_)
      obtain ⟨x6_7, ex6_7⟩ : ∃ y : Int32, y = x6 + 1 := ⟨_, rfl⟩
      replace hq := hq _ ex6_7
      refine lv_iinc (v := x6_7) (lv' := [(6, .int x6_7), (4, .int v_6), (3, .int v_5), (7, .int r_3), (0, .ref g.2.1), (1, .int x1), (2, .int x2), (5, .int x5)]) hx hb dX11_bestSwap_109 hl (k := 7) rfl (by rw [ex6_7]; rfl) (by decide) rfl (fun ls hl => ?_)
      refine lv_goto (tgt := 40) hx hb dX11_bestSwap_112 (by decide) ?_
      exact ih _ _ _ _ _ _ _ _ _ _ hW (lv_sub hl [4, 5, 6, 2, 1, 7, 0] rfl) hq
set_option maxHeartbeats 4000000 in
set_option maxRecDepth 100000 in
theorem wX11_bestSwap_L25 (C : CallFix p m c cX11_bestSwap 8 s args lwg RX11) (hRf : 7 ≤ R.frames) (hRl : 154 ≤ R.locals) {P : Int32 → MS → Prop} (hret : RetI g.1 (mw g) (mty g) A p l e R s m args below meth c 0 0 Q cX11_bestSwap P) : ∀ (n : Nat) (σ : MS) (x1 : Int32) (x2 : Int32) (x3 : Int32) (x4 : Int32) (x5 : Int32) (H : Heap) (locs : List Loc) (ls : Array Slot), WI g.1 (mw g) (mty g) A s σ H locs → lv_has ls 8 [(0, .ref g.2.1), (1, .int x1), (2, .int x2), (3, .int x3), (4, .int x4), (5, .int x5)] → qX11_bestSwap_L25  P n σ x1 x2 x3 x4 x5 → W p l e R s m args below meth c H locs 0 0 Q (F0 m 25 ls []) := by
  have hx := C.1
  have hb := C.2.1
  intro n
  induction n with
  | zero =>
    intro σ x1 x2 x3 x4 x5 H locs ls hW hl hq
    rw [qX11_bestSwap_L25] at hq
    exact hq.elim
  | succ n ih =>
    intro σ x1 x2 x3 x4 x5 H locs ls hW hl hq
    rw [qX11_bestSwap_L25] at hq
    refine lv_iload hx hb dX11_bestSwap_25 (lv_at hl 5 rfl) ?_
    refine lv_aload_n hx hb dX11_bestSwap_27 rfl (lv_at hl 0 rfl) ?_
    refine mg_0 C hW dX11_bestSwap_28 ?_
    refine lv_icmp_ge (tgt := 121) hx hb dX11_bestSwap_31 (by decide) (fun h => ?_) (fun h => ?_)
    · replace hq := br_pos h hq
      refine lv_iload_n hx hb dX11_bestSwap_121 rfl (lv_at hl 3 rfl) ?_
      exact hret _ _ _ _ _ _ dX11_bestSwap_122 hW hq
    · replace hq := br_neg h hq
      refine lv_iload hx hb dX11_bestSwap_34 (lv_at hl 5 rfl) ?_
      refine lv_iconst (v := 1) hx hb dX11_bestSwap_36 (by decide) ?_
      refine lv_iadd hx hb dX11_bestSwap_37 ?_
      refine lv_topi (fun x6_1 ex6_1 => ?_)
      replace hq := hq _ ex6_1
      refine lv_istore (lv' := [(6, .int x6_1), (0, .ref g.2.1), (1, .int x1), (2, .int x2), (3, .int x3), (4, .int x4), (5, .int x5)]) hx hb dX11_bestSwap_38 hl (by decide) rfl (fun ls hl => ?_)
      obtain ⟨f40, hq⟩ := hq
      refine wX11_bestSwap_L40 C hRf hRl hret ?_ f40 _ _ _ _ _ _ _ _ _ _ hW (lv_sub hl [1, 2, 3, 4, 5, 6, 0] rfl) hq
      · intro σ_7 x1_2 x2_3 x3_4 x4_5 x5_6 H locs ls hW hl hq
        obtain ⟨x5_8, ex5_8⟩ : ∃ y : Int32, y = x5_6 + 1 := ⟨_, rfl⟩
        replace hq := hq _ ex5_8
        refine lv_iinc (v := x5_8) (lv' := [(5, .int x5_8), (0, .ref g.2.1), (1, .int x1_2), (2, .int x2_3), (3, .int x3_4), (4, .int x4_5)]) hx hb dX11_bestSwap_115 hl (k := 5) rfl (by rw [ex5_8]; rfl) (by decide) rfl (fun ls hl => ?_)
        refine lv_goto (tgt := 25) hx hb dX11_bestSwap_118 (by decide) ?_
        exact ih _ _ _ _ _ _ _ _ _ hW (lv_sub hl [1, 2, 3, 4, 5, 0] rfl) hq
set_option maxHeartbeats 4000000 in
set_option maxRecDepth 100000 in
theorem wX11_bestSwap (C : CallFix p m c cX11_bestSwap 8 s args lwg RX11) (hRf : 7 ≤ R.frames) (hRl : 154 ≤ R.locals) {P : Int32 → MS → Prop} (hret : RetI g.1 (mw g) (mty g) A p l e R s m args below meth c 0 0 Q cX11_bestSwap P) {σ : MS} {x1 : Int32} {x2 : Int32} {H : Heap} {locs : List Loc} {ls : Array Slot} (hW : WI g.1 (mw g) (mty g) A s σ H locs) (hl : lv_has ls 8 [(0, .ref g.2.1), (1, .int x1), (2, .int x2)]) (hq : qX11_bestSwap σ x1 x2 P) : W p l e R s m args below meth c H locs 0 0 Q (F0 m 0 ls []) := by
  have hx := C.1
  have hb := C.2.1
  unfold qX11_bestSwap at hq
  refine lv_aload_n hx hb dX11_bestSwap_0 rfl (lv_at hl 0 rfl) ?_
  refine lv_iload_n hx hb dX11_bestSwap_1 rfl (lv_at hl 1 rfl) ?_
  refine lv_iload_n hx hb dX11_bestSwap_2 rfl (lv_at hl 2 rfl) ?_
  refine kX11_isDay C hW (Nat.le_trans (by decide) hRf) (Nat.le_trans (by decide) hRl) hl.1 (Nat.le_of_ble_eq_true rfl) dX11_bestSwap_3 hq (fun r_2 σ_1 H locs hq hW => ?_)
  refine lv_if_ne (tgt := 12) hx hb dX11_bestSwap_6 (by decide) (fun h => ?_) (fun h => ?_)
  · replace hq := br_neg h hq
    refine lv_iconst (v := (-1)) hx hb dX11_bestSwap_12 (by decide) ?_
    refine lv_istore_n (lv' := [(3, .int (-1)), (0, .ref g.2.1), (1, .int x1), (2, .int x2)]) hx hb dX11_bestSwap_13 rfl hl (by decide) rfl (fun ls hl => ?_)
    refine lv_aload_n hx hb dX11_bestSwap_14 rfl (lv_at hl 1 rfl) ?_
    refine lv_iload_n hx hb dX11_bestSwap_15 rfl (lv_at hl 2 rfl) ?_
    refine lv_iload_n hx hb dX11_bestSwap_16 rfl (lv_at hl 3 rfl) ?_
    refine kX11_leastOf C hW (Nat.le_trans (by decide) hRf) (Nat.le_trans (by decide) hRl) hl.1 (Nat.le_of_ble_eq_true rfl) dX11_bestSwap_17 hq (fun r_4 σ_3 H locs hq hW => ?_)
    refine lv_istore (lv' := [(4, .int r_4), (3, .int (-1)), (0, .ref g.2.1), (1, .int x1), (2, .int x2)]) hx hb dX11_bestSwap_20 hl (by decide) rfl (fun ls hl => ?_)
    refine lv_iconst (v := 0) hx hb dX11_bestSwap_22 (by decide) ?_
    refine lv_istore (lv' := [(5, .int 0), (4, .int r_4), (3, .int (-1)), (0, .ref g.2.1), (1, .int x1), (2, .int x2)]) hx hb dX11_bestSwap_23 hl (by decide) rfl (fun ls hl => ?_)
    obtain ⟨f25, hq⟩ := hq
    exact wX11_bestSwap_L25 C hRf hRl hret f25 _ _ _ _ _ _ _ _ _ hW (lv_sub hl [3, 4, 5, 2, 1, 0] rfl) hq
  · replace hq := br_pos h hq
    refine lv_bipush (v := (-101)) hx hb dX11_bestSwap_9 (by decide) ?_
    exact hret _ _ _ _ _ _ dX11_bestSwap_11 hW hq
set_option maxHeartbeats 4000000 in
set_option maxRecDepth 100000 in
theorem mX11_bestSwap {l : Launch} {g : MG} {σ : MS} {x1 : Int32} {x2 : Int32} {P : Int32 → MS → Prop} (hq : qX11_bestSwap σ x1 x2 P) (sz : Nat) : Met l yX11_bestSwap (cws yX11_bestSwap cX11_bestSwap 8 (some .int)) ({ frames := 7, cells := 0, slots := 0, locals := 154 } : Room) (va_Pc [.ref g.2.1, .int x1, .int x2] (WP g.1 (mw g) (mty g) σ sz)) (va_Qi P (WB g.1 (mw g) (mty g) σ sz) (va_A (mw g σ) sz)) 0 0 (va_A (mw g σ) sz) :=
  w_enter (by decide) (Nat.le_of_ble_eq_true rfl) (fun p e s m args below meth c ls C hr hk hn hs hW hl => wX11_bestSwap C (Nat.le_refl _) (Nat.le_refl _) (fun pc ls v σ H locs hd hW hq => w_iret C hs hr hk hW hd hq) hW hl hq)
-- X11_bestStir
set_option maxHeartbeats 4000000 in
set_option maxRecDepth 100000 in
theorem wX11_bestStir_J85 (C : CallFix p m c cX11_bestStir 6 s args lwg RX11) (hRf : 5 ≤ R.frames) (hRl : 109 ≤ R.locals) {P : Int32 → MS → Prop} (hret : RetI g.1 (mw g) (mty g) A p l e R s m args below meth c 0 0 Q cX11_bestStir P) {k22 : MS → Int32 → Int32 → Int32 → Int32 → Int32 → Prop} (hk22 : ∀ (σ : MS) (x1 : Int32) (x2 : Int32) (x3 : Int32) (x4 : Int32) (x5 : Int32) (H : Heap) (locs : List Loc) (ls : Array Slot), WI g.1 (mw g) (mty g) A s σ H locs → lv_has ls 6 [(0, .ref g.2.1), (1, .int x1), (2, .int x2), (3, .int x3), (4, .int x4), (5, .int x5)] → k22 σ x1 x2 x3 x4 x5 → W p l e R s m args below meth c H locs 0 0 Q (F0 m 22 ls [])) {σ : MS} {x1 : Int32} {x2 : Int32} {x3 : Int32} {x5 : Int32} {y0 : Int32} {H : Heap} {locs : List Loc} {ls : Array Slot} (hW : WI g.1 (mw g) (mty g) A s σ H locs) (hl : lv_has ls 6 [(0, .ref g.2.1), (1, .int x1), (2, .int x2), (3, .int x3), (5, .int x5)]) (hq : qX11_bestStir_J85 k22 P σ x1 x2 x3 x5 y0) : W p l e R s m args below meth c H locs 0 0 Q (F0 m 85 ls [.int y0]) := by
  have hx := C.1
  have hb := C.2.1
  unfold qX11_bestStir_J85 at hq
  refine lv_istore (lv' := [(4, .int y0), (0, .ref g.2.1), (1, .int x1), (2, .int x2), (3, .int x3), (5, .int x5)]) hx hb dX11_bestStir_85 hl (by decide) rfl (fun ls hl => ?_)
  obtain ⟨x5_1, ex5_1⟩ : ∃ y : Int32, y = x5 + 1 := ⟨_, rfl⟩
  replace hq := hq _ ex5_1
  refine lv_iinc (v := x5_1) (lv' := [(5, .int x5_1), (4, .int y0), (0, .ref g.2.1), (1, .int x1), (2, .int x2), (3, .int x3)]) hx hb dX11_bestStir_87 hl (k := 5) rfl (by rw [ex5_1]; rfl) (by decide) rfl (fun ls hl => ?_)
  refine lv_goto (tgt := 22) hx hb dX11_bestStir_90 (by decide) ?_
  exact hk22 _ _ _ _ _ _ _ _ _ hW (lv_sub hl [2, 3, 4, 5, 1, 0] rfl) hq
set_option maxHeartbeats 4000000 in
set_option maxRecDepth 100000 in
theorem wX11_bestStir_L22 (C : CallFix p m c cX11_bestStir 6 s args lwg RX11) (hRf : 5 ≤ R.frames) (hRl : 109 ≤ R.locals) {P : Int32 → MS → Prop} (hret : RetI g.1 (mw g) (mty g) A p l e R s m args below meth c 0 0 Q cX11_bestStir P) : ∀ (n : Nat) (σ : MS) (x1 : Int32) (x2 : Int32) (x3 : Int32) (x4 : Int32) (x5 : Int32) (H : Heap) (locs : List Loc) (ls : Array Slot), WI g.1 (mw g) (mty g) A s σ H locs → lv_has ls 6 [(0, .ref g.2.1), (1, .int x1), (2, .int x2), (3, .int x3), (4, .int x4), (5, .int x5)] → qX11_bestStir_L22  P n σ x1 x2 x3 x4 x5 → W p l e R s m args below meth c H locs 0 0 Q (F0 m 22 ls []) := by
  have hx := C.1
  have hb := C.2.1
  intro n
  induction n with
  | zero =>
    intro σ x1 x2 x3 x4 x5 H locs ls hW hl hq
    rw [qX11_bestStir_L22] at hq
    exact hq.elim
  | succ n ih =>
    intro σ x1 x2 x3 x4 x5 H locs ls hW hl hq
    rw [qX11_bestStir_L22] at hq
    refine lv_iload hx hb dX11_bestStir_22 (lv_at hl 5 rfl) ?_
    refine lv_bipush (v := 10) hx hb dX11_bestStir_24 (by decide) ?_
    refine lv_icmp_ge (tgt := 93) hx hb dX11_bestStir_26 (by decide) (fun h => ?_) (fun h => ?_)
    · replace hq := br_pos h hq
      refine lv_iload_n hx hb dX11_bestStir_93 rfl (lv_at hl 3 rfl) ?_
      exact hret _ _ _ _ _ _ dX11_bestStir_94 hW hq
    · replace hq := br_neg h hq
      refine lv_aload_n hx hb dX11_bestStir_29 rfl (lv_at hl 0 rfl) ?_
      refine lv_iload_n hx hb dX11_bestStir_30 rfl (lv_at hl 1 rfl) ?_
      refine kX11_useVow C hW (Nat.le_trans (by decide) hRf) (Nat.le_trans (by decide) hRl) hl.1 (Nat.le_of_ble_eq_true rfl) dX11_bestStir_31 hq (fun σ_1 H locs hq hW => ?_)
      refine lv_aload_n hx hb dX11_bestStir_34 rfl (lv_at hl 0 rfl) ?_
      refine kX11_useStores C hW (Nat.le_trans (by decide) hRf) (Nat.le_trans (by decide) hRl) hl.1 (Nat.le_of_ble_eq_true rfl) dX11_bestStir_35 hq (fun σ_2 H locs hq hW => ?_)
      refine lv_aload_n hx hb dX11_bestStir_38 rfl (lv_at hl 0 rfl) ?_
      refine lv_iload hx hb dX11_bestStir_39 (lv_at hl 5 rfl) ?_
      refine mp_33 C hW dX11_bestStir_41 (fun σ_3 H locs eσ_3 hW => ?_)
      replace hq := hq _ eσ_3
      refine lv_aload_n hx hb dX11_bestStir_44 rfl (lv_at hl 0 rfl) ?_
      refine lv_iload_n hx hb dX11_bestStir_45 rfl (lv_at hl 2 rfl) ?_
      refine lv_ldc (own := RX11) (v := 268435456) hx hb C.2.2.2.1 (C.2.2.2.2 _ (lwg_at 1182 (by decide +kernel) rfl)) dX11_bestStir_46 ?_
      refine kX11_goDay C hW (Nat.le_trans (by decide) hRf) (Nat.le_trans (by decide) hRl) hl.1 (Nat.le_of_ble_eq_true rfl) dX11_bestStir_48 hq (fun σ_4 H locs hq hW => ?_)
      refine lv_aload_n hx hb dX11_bestStir_51 rfl (lv_at hl 0 rfl) ?_
      refine kX11_leastNow C hW (Nat.le_trans (by decide) hRf) (Nat.le_trans (by decide) hRl) hl.1 (Nat.le_of_ble_eq_true rfl) dX11_bestStir_52 hq (fun r_6 σ_5 H locs hq hW => ?_)
      refine lv_iload hx hb dX11_bestStir_55 (lv_at hl 4 rfl) ?_
      refine (fun (K : ∀ v_7 : Int32, v_7 = ((if r_6 ≤ x4 then x3 else x5) : Int32) → W p l e R s m args below meth c H locs 0 0 Q (F0 m 66 ls (.int v_7 :: []))) => ?_) ?_
      · refine lv_icmp_le (tgt := 65) hx hb dX11_bestStir_57 (by decide) (fun h57 => ?_) (fun h57 => ?_)
        · refine lv_iload_n hx hb dX11_bestStir_65 rfl (lv_at hl 3 rfl) ?_
          exact K _ (by rw [if_pos h57])
        · refine lv_iload hx hb dX11_bestStir_60 (lv_at hl 5 rfl) ?_
          refine lv_goto (tgt := 66) hx hb dX11_bestStir_62 (by decide) ?_
          exact K _ (by rw [if_neg h57])
      intro v_7 ev_7
      replace hq := hq _ ev_7
      refine lv_istore_n (lv' := [(3, .int v_7), (0, .ref g.2.1), (1, .int x1), (2, .int x2), (4, .int x4), (5, .int x5)]) hx hb dX11_bestStir_66 rfl hl (by decide) rfl (fun ls hl => ?_)
      refine lv_aload_n hx hb dX11_bestStir_67 rfl (lv_at hl 1 rfl) ?_
      refine kX11_leastNow C hW (Nat.le_trans (by decide) hRf) (Nat.le_trans (by decide) hRl) hl.1 (Nat.le_of_ble_eq_true rfl) dX11_bestStir_68 hq (fun r_9 σ_8 H locs hq hW => ?_)
      refine lv_iload hx hb dX11_bestStir_71 (lv_at hl 4 rfl) ?_
      refine lv_icmp_le (tgt := 83) hx hb dX11_bestStir_73 (by decide) (fun h => ?_) (fun h => ?_)
      · replace hq := br_pos h hq
        refine lv_iload hx hb dX11_bestStir_83 (lv_at hl 4 rfl) ?_
        exact wX11_bestStir_J85 C hRf hRl hret ih hW (lv_sub hl [1, 2, 3, 0, 5] rfl) hq
      · replace hq := br_neg h hq
        refine lv_aload_n hx hb dX11_bestStir_76 rfl (lv_at hl 1 rfl) ?_
        refine kX11_leastNow C hW (Nat.le_trans (by decide) hRf) (Nat.le_trans (by decide) hRl) hl.1 (Nat.le_of_ble_eq_true rfl) dX11_bestStir_77 hq (fun r_11 σ_10 H locs hq hW => ?_)
        refine lv_goto (tgt := 85) hx hb dX11_bestStir_80 (by decide) ?_
        exact wX11_bestStir_J85 C hRf hRl hret ih hW (lv_sub hl [1, 2, 3, 0, 5] rfl) hq
set_option maxHeartbeats 4000000 in
set_option maxRecDepth 100000 in
theorem wX11_bestStir (C : CallFix p m c cX11_bestStir 6 s args lwg RX11) (hRf : 5 ≤ R.frames) (hRl : 109 ≤ R.locals) {P : Int32 → MS → Prop} (hret : RetI g.1 (mw g) (mty g) A p l e R s m args below meth c 0 0 Q cX11_bestStir P) {σ : MS} {x1 : Int32} {x2 : Int32} {H : Heap} {locs : List Loc} {ls : Array Slot} (hW : WI g.1 (mw g) (mty g) A s σ H locs) (hl : lv_has ls 6 [(0, .ref g.2.1), (1, .int x1), (2, .int x2)]) (hq : qX11_bestStir σ x1 x2 P) : W p l e R s m args below meth c H locs 0 0 Q (F0 m 0 ls []) := by
  have hx := C.1
  have hb := C.2.1
  unfold qX11_bestStir at hq
  refine lv_aload_n hx hb dX11_bestStir_0 rfl (lv_at hl 0 rfl) ?_
  refine lv_iload_n hx hb dX11_bestStir_1 rfl (lv_at hl 1 rfl) ?_
  refine lv_iload_n hx hb dX11_bestStir_2 rfl (lv_at hl 2 rfl) ?_
  refine kX11_isDay C hW (Nat.le_trans (by decide) hRf) (Nat.le_trans (by decide) hRl) hl.1 (Nat.le_of_ble_eq_true rfl) dX11_bestStir_3 hq (fun r_2 σ_1 H locs hq hW => ?_)
  refine lv_if_ne (tgt := 12) hx hb dX11_bestStir_6 (by decide) (fun h => ?_) (fun h => ?_)
  · replace hq := br_neg h hq
    refine lv_iconst (v := 0) hx hb dX11_bestStir_12 (by decide) ?_
    refine lv_istore_n (lv' := [(3, .int 0), (0, .ref g.2.1), (1, .int x1), (2, .int x2)]) hx hb dX11_bestStir_13 rfl hl (by decide) rfl (fun ls hl => ?_)
    refine lv_ldcw (own := RX11) (v := (-268435456)) hx hb C.2.2.2.1 (C.2.2.2.2 _ (lwg_at 1262 (by decide +kernel) rfl)) dX11_bestStir_14 ?_
    refine lv_istore (lv' := [(4, .int (-268435456)), (3, .int 0), (0, .ref g.2.1), (1, .int x1), (2, .int x2)]) hx hb dX11_bestStir_17 hl (by decide) rfl (fun ls hl => ?_)
    refine lv_iconst (v := 0) hx hb dX11_bestStir_19 (by decide) ?_
    refine lv_istore (lv' := [(5, .int 0), (4, .int (-268435456)), (3, .int 0), (0, .ref g.2.1), (1, .int x1), (2, .int x2)]) hx hb dX11_bestStir_20 hl (by decide) rfl (fun ls hl => ?_)
    obtain ⟨f22, hq⟩ := hq
    exact wX11_bestStir_L22 C hRf hRl hret f22 _ _ _ _ _ _ _ _ _ hW (lv_sub hl [3, 4, 5, 2, 1, 0] rfl) hq
  · replace hq := br_pos h hq
    refine lv_bipush (v := (-101)) hx hb dX11_bestStir_9 (by decide) ?_
    exact hret _ _ _ _ _ _ dX11_bestStir_11 hW hq
set_option maxHeartbeats 4000000 in
set_option maxRecDepth 100000 in
theorem mX11_bestStir {l : Launch} {g : MG} {σ : MS} {x1 : Int32} {x2 : Int32} {P : Int32 → MS → Prop} (hq : qX11_bestStir σ x1 x2 P) (sz : Nat) : Met l yX11_bestStir (cws yX11_bestStir cX11_bestStir 6 (some .int)) ({ frames := 5, cells := 0, slots := 0, locals := 109 } : Room) (va_Pc [.ref g.2.1, .int x1, .int x2] (WP g.1 (mw g) (mty g) σ sz)) (va_Qi P (WB g.1 (mw g) (mty g) σ sz) (va_A (mw g σ) sz)) 0 0 (va_A (mw g σ) sz) :=
  w_enter (by decide) (Nat.le_of_ble_eq_true rfl) (fun p e s m args below meth c ls C hr hk hn hs hW hl => wX11_bestStir C (Nat.le_refl _) (Nat.le_refl _) (fun pc ls v σ H locs hd hW hq => w_iret C hs hr hk hW hd hq) hW hl hq)
end
