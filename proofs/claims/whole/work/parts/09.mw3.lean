section
variable {p : Program} {l : Launch} {e : Env} {R : Room} {s : State} {m : MethodId} {args : Array Value} {below : List Frame} {meth : Method} {c : Code} {H : Heap} {locs : List Loc} {cells slots : Nat} {Q : State → Prop}
variable {cc : ByteArray} {pc : Nat} {ls : Array Slot} {rest : List Value} {own : String} {nL : Nat}
variable {g : MG} {A : Nat → Prop}
-- X11_soupLeft
set_option maxHeartbeats 4000000 in
set_option maxRecDepth 100000 in
theorem wX11_soupLeft_L4 (C : CallFix p m c cX11_soupLeft 3 s args lwg RX11) (hRf : 0 ≤ R.frames) (hRl : 0 ≤ R.locals) {P : Int32 → MS → Prop} (hret : RetI g.1 (mw g) (mty g) A p l e R s m args below meth c 0 0 Q cX11_soupLeft P) : ∀ (n : Nat) (σ : MS) (x1 : Int32) (x2 : Int32) (H : Heap) (locs : List Loc) (ls : Array Slot), WI g.1 (mw g) (mty g) A s σ H locs → lv_has ls 3 [(0, .ref g.2.1), (1, .int x1), (2, .int x2)] → qX11_soupLeft_L4  P n σ x1 x2 → W p l e R s m args below meth c H locs 0 0 Q (F0 m 4 ls []) := by
  have hx := C.1
  have hb := C.2.1
  intro n
  induction n with
  | zero =>
    intro σ x1 x2 H locs ls hW hl hq
    rw [qX11_soupLeft_L4] at hq
    exact hq.elim
  | succ n ih =>
    intro σ x1 x2 H locs ls hW hl hq
    rw [qX11_soupLeft_L4] at hq
    refine lv_iload_n hx hb dX11_soupLeft_4 rfl (lv_at hl 2 rfl) ?_
    refine lv_iconst (v := 5) hx hb dX11_soupLeft_5 (by decide) ?_
    refine lv_icmp_ge (tgt := 24) hx hb dX11_soupLeft_6 (by decide) (fun h => ?_) (fun h => ?_)
    · replace hq := br_pos h hq
      refine lv_iload_n hx hb dX11_soupLeft_24 rfl (lv_at hl 1 rfl) ?_
      exact hret _ _ _ _ _ _ dX11_soupLeft_25 hW hq
    · replace hq := br_neg h hq
      refine lv_iload_n hx hb dX11_soupLeft_9 rfl (lv_at hl 1 rfl) ?_
      refine lv_aload_n hx hb dX11_soupLeft_10 rfl (lv_at hl 0 rfl) ?_
      refine mg_39 C hW dX11_soupLeft_11 ?_
      refine lv_iload_n hx hb dX11_soupLeft_14 rfl (lv_at hl 2 rfl) ?_
      obtain ⟨hin1, hq⟩ := hq
      refine ma_39 C hW hin1 dX11_soupLeft_15 ?_
      refine lv_iadd hx hb dX11_soupLeft_16 ?_
      refine lv_topi (fun x1_2 ex1_2 => ?_)
      replace hq := hq _ ex1_2
      refine lv_istore_n (lv' := [(1, .int x1_2), (0, .ref g.2.1), (2, .int x2)]) hx hb dX11_soupLeft_17 rfl hl (by decide) rfl (fun ls hl => ?_)
      obtain ⟨x2_3, ex2_3⟩ : ∃ y : Int32, y = x2 + 1 := ⟨_, rfl⟩
      replace hq := hq _ ex2_3
      refine lv_iinc (v := x2_3) (lv' := [(2, .int x2_3), (1, .int x1_2), (0, .ref g.2.1)]) hx hb dX11_soupLeft_18 hl (k := 2) rfl (by rw [ex2_3]; rfl) (by decide) rfl (fun ls hl => ?_)
      refine lv_goto (tgt := 4) hx hb dX11_soupLeft_21 (by decide) ?_
      exact ih _ _ _ _ _ _ hW (lv_sub hl [2, 1, 0] rfl) hq
set_option maxHeartbeats 4000000 in
set_option maxRecDepth 100000 in
theorem wX11_soupLeft (C : CallFix p m c cX11_soupLeft 3 s args lwg RX11) (hRf : 0 ≤ R.frames) (hRl : 0 ≤ R.locals) {P : Int32 → MS → Prop} (hret : RetI g.1 (mw g) (mty g) A p l e R s m args below meth c 0 0 Q cX11_soupLeft P) {σ : MS} {H : Heap} {locs : List Loc} {ls : Array Slot} (hW : WI g.1 (mw g) (mty g) A s σ H locs) (hl : lv_has ls 3 [(0, .ref g.2.1)]) (hq : qX11_soupLeft σ  P) : W p l e R s m args below meth c H locs 0 0 Q (F0 m 0 ls []) := by
  have hx := C.1
  have hb := C.2.1
  unfold qX11_soupLeft at hq
  refine lv_iconst (v := 0) hx hb dX11_soupLeft_0 (by decide) ?_
  refine lv_istore_n (lv' := [(1, .int 0), (0, .ref g.2.1)]) hx hb dX11_soupLeft_1 rfl hl (by decide) rfl (fun ls hl => ?_)
  refine lv_iconst (v := 0) hx hb dX11_soupLeft_2 (by decide) ?_
  refine lv_istore_n (lv' := [(2, .int 0), (1, .int 0), (0, .ref g.2.1)]) hx hb dX11_soupLeft_3 rfl hl (by decide) rfl (fun ls hl => ?_)
  obtain ⟨f4, hq⟩ := hq
  exact wX11_soupLeft_L4 C hRf hRl hret f4 _ _ _ _ _ _ hW (lv_sub hl [2, 1, 0] rfl) hq
set_option maxHeartbeats 4000000 in
set_option maxRecDepth 100000 in
theorem mX11_soupLeft {l : Launch} {g : MG} {σ : MS} {P : Int32 → MS → Prop} (hq : qX11_soupLeft σ  P) (sz : Nat) : Met l yX11_soupLeft (cws yX11_soupLeft cX11_soupLeft 3 (some .int)) ({ frames := 0, cells := 0, slots := 0, locals := 0 } : Room) (va_Pc [.ref g.2.1] (WP g.1 (mw g) (mty g) σ sz)) (va_Qi P (WB g.1 (mw g) (mty g) σ sz) (va_A (mw g σ) sz)) 0 0 (va_A (mw g σ) sz) :=
  w_enter (by decide) (Nat.le_of_ble_eq_true rfl) (fun p e s m args below meth c ls C hr hk hn hs hW hl => wX11_soupLeft C (Nat.le_refl _) (Nat.le_refl _) (fun pc ls v σ H locs hd hW hq => w_iret C hs hr hk hW hd hq) hW hl hq)
set_option maxHeartbeats 4000000 in
set_option maxRecDepth 100000 in
theorem kX11_soupLeft (C : CallFix p m c cc nL s args lwg RX11) {σ : MS} (hW : WI g.1 (mw g) (mty g) A s σ H locs) (hRf : 1 ≤ R.frames) (hRl : 22 ≤ R.locals) (hls : ls.size = nL) (hro : (rest.map fun v => v.category).sum ≤ 8) (hd : decode cc pc = .ok (.invokevirtual 196, 3)) {P : Int32 → MS → Prop} (hq : qX11_soupLeft σ  P) (kk : ∀ (r : Int32) (σ1 : MS) (H : Heap) (locs : List Loc), P r σ1 → WI g.1 (mw g) (mty g) A s σ1 H locs → W p l e R s m args below meth c H locs 0 0 Q (F0 m (pc + 3) ls (.int r :: rest))) : W p l e R s m args below meth c H locs 0 0 Q (F0 m pc ls (.ref g.2.1 :: rest)) :=
  w_calli hW (w_runV C hW (mX11_soupLeft hq _) ⟨lwg_at 1198 (by decide +kernel) rfl, lwg_at 74 (by decide +kernel) rfl, lwg_at 1195 (by decide +kernel) rfl⟩ (lwg_at 1197 (by decide +kernel) rfl) (lwg_at 42 (by decide +kernel) rfl) (np := 0) (by decide +kernel) ⟨rfl, rfl⟩ ⟨hRf, hRl⟩ (ci := 12) rfl rfl (q0 := 0) rfl rfl hls rfl hro hd ⟨Nat.zero_le _, Nat.zero_le _⟩) kk
-- X11_areAllSkipped
set_option maxHeartbeats 4000000 in
set_option maxRecDepth 100000 in
theorem wX11_areAllSkipped_J29 (C : CallFix p m c cX11_areAllSkipped 3 s args lwg RX11) (hRf : 2 ≤ R.frames) (hRl : 43 ≤ R.locals) {P : Int32 → MS → Prop} (hret : RetZ g.1 (mw g) (mty g) A p l e R s m args below meth c 0 0 Q cX11_areAllSkipped P) {k4 : MS → Int32 → Int32 → Prop} (hk4 : ∀ (σ : MS) (x1 : Int32) (x2 : Int32) (H : Heap) (locs : List Loc) (ls : Array Slot), WI g.1 (mw g) (mty g) A s σ H locs → lv_has ls 3 [(0, .ref g.2.1), (1, .int x1), (2, .int x2)] → k4 σ x1 x2 → W p l e R s m args below meth c H locs 0 0 Q (F0 m 4 ls [])) {σ : MS} {x2 : Int32} {y0 : Int32} {H : Heap} {locs : List Loc} {ls : Array Slot} (hW : WI g.1 (mw g) (mty g) A s σ H locs) (hl : lv_has ls 3 [(0, .ref g.2.1), (2, .int x2)]) (hq : qX11_areAllSkipped_J29 k4 P σ x2 y0) : W p l e R s m args below meth c H locs 0 0 Q (F0 m 29 ls [.int y0]) := by
  have hx := C.1
  have hb := C.2.1
  unfold qX11_areAllSkipped_J29 at hq
  refine lv_istore_n (lv' := [(1, .int y0), (0, .ref g.2.1), (2, .int x2)]) hx hb dX11_areAllSkipped_29 rfl hl (by decide) rfl (fun ls hl => ?_)
  obtain ⟨x2_1, ex2_1⟩ : ∃ y : Int32, y = x2 + 1 := ⟨_, rfl⟩
  replace hq := hq _ ex2_1
  refine lv_iinc (v := x2_1) (lv' := [(2, .int x2_1), (1, .int y0), (0, .ref g.2.1)]) hx hb dX11_areAllSkipped_30 hl (k := 2) rfl (by rw [ex2_1]; rfl) (by decide) rfl (fun ls hl => ?_)
  refine lv_goto (tgt := 4) hx hb dX11_areAllSkipped_33 (by decide) ?_
  exact hk4 _ _ _ _ _ _ hW (lv_sub hl [2, 1, 0] rfl) hq
set_option maxHeartbeats 4000000 in
set_option maxRecDepth 100000 in
theorem wX11_areAllSkipped_J28 (C : CallFix p m c cX11_areAllSkipped 3 s args lwg RX11) (hRf : 2 ≤ R.frames) (hRl : 43 ≤ R.locals) {P : Int32 → MS → Prop} (hret : RetZ g.1 (mw g) (mty g) A p l e R s m args below meth c 0 0 Q cX11_areAllSkipped P) {k4 : MS → Int32 → Int32 → Prop} (hk4 : ∀ (σ : MS) (x1 : Int32) (x2 : Int32) (H : Heap) (locs : List Loc) (ls : Array Slot), WI g.1 (mw g) (mty g) A s σ H locs → lv_has ls 3 [(0, .ref g.2.1), (1, .int x1), (2, .int x2)] → k4 σ x1 x2 → W p l e R s m args below meth c H locs 0 0 Q (F0 m 4 ls [])) {σ : MS} {x2 : Int32} {H : Heap} {locs : List Loc} {ls : Array Slot} (hW : WI g.1 (mw g) (mty g) A s σ H locs) (hl : lv_has ls 3 [(0, .ref g.2.1), (2, .int x2)]) (hq : qX11_areAllSkipped_J28 k4 P σ x2) : W p l e R s m args below meth c H locs 0 0 Q (F0 m 28 ls []) := by
  have hx := C.1
  have hb := C.2.1
  unfold qX11_areAllSkipped_J28 at hq
  refine lv_iconst (v := 0) hx hb dX11_areAllSkipped_28 (by decide) ?_
  exact wX11_areAllSkipped_J29 C hRf hRl hret hk4 hW hl hq
set_option maxHeartbeats 4000000 in
set_option maxRecDepth 100000 in
theorem wX11_areAllSkipped_L4 (C : CallFix p m c cX11_areAllSkipped 3 s args lwg RX11) (hRf : 2 ≤ R.frames) (hRl : 43 ≤ R.locals) {P : Int32 → MS → Prop} (hret : RetZ g.1 (mw g) (mty g) A p l e R s m args below meth c 0 0 Q cX11_areAllSkipped P) : ∀ (n : Nat) (σ : MS) (x1 : Int32) (x2 : Int32) (H : Heap) (locs : List Loc) (ls : Array Slot), WI g.1 (mw g) (mty g) A s σ H locs → lv_has ls 3 [(0, .ref g.2.1), (1, .int x1), (2, .int x2)] → qX11_areAllSkipped_L4  P n σ x1 x2 → W p l e R s m args below meth c H locs 0 0 Q (F0 m 4 ls []) := by
  have hx := C.1
  have hb := C.2.1
  intro n
  induction n with
  | zero =>
    intro σ x1 x2 H locs ls hW hl hq
    rw [qX11_areAllSkipped_L4] at hq
    exact hq.elim
  | succ n ih =>
    intro σ x1 x2 H locs ls hW hl hq
    rw [qX11_areAllSkipped_L4] at hq
    refine lv_iload_n hx hb dX11_areAllSkipped_4 rfl (lv_at hl 2 rfl) ?_
    refine lv_aload_n hx hb dX11_areAllSkipped_5 rfl (lv_at hl 0 rfl) ?_
    refine mg_0 C hW dX11_areAllSkipped_6 ?_
    refine lv_icmp_ge (tgt := 36) hx hb dX11_areAllSkipped_9 (by decide) (fun h => ?_) (fun h => ?_)
    · replace hq := br_pos h hq
      refine lv_iload_n hx hb dX11_areAllSkipped_36 rfl (lv_at hl 1 rfl) ?_
      obtain ⟨hib, hq⟩ := hq
      exact hret _ _ _ _ _ _ dX11_areAllSkipped_37 hW hib hq
    · replace hq := br_neg h hq
      refine lv_iload_n hx hb dX11_areAllSkipped_12 rfl (lv_at hl 1 rfl) ?_
      refine lv_if_eq (tgt := 28) hx hb dX11_areAllSkipped_13 (by decide) (fun h => ?_) (fun h => ?_)
      · replace hq := br_pos h hq
        exact wX11_areAllSkipped_J28 C hRf hRl hret ih hW (lv_sub hl [0, 2] rfl) hq
      · replace hq := br_neg h hq
        refine lv_aload_n hx hb dX11_areAllSkipped_16 rfl (lv_at hl 0 rfl) ?_
        refine lv_iload_n hx hb dX11_areAllSkipped_17 rfl (lv_at hl 2 rfl) ?_
        refine kX11_isSkipped C hW (Nat.le_trans (by decide) hRf) (Nat.le_trans (by decide) hRl) hl.1 (Nat.le_of_ble_eq_true rfl) dX11_areAllSkipped_18 hq (fun r_2 σ_1 H locs hq hW => ?_)
        refine (fun (K : ∀ v_3 : Int32, v_3 = ((if r_2 = 0 then 0 else 1) : Int32) → W p l e R s m args below meth c H locs 0 0 Q (F0 m 29 ls (.int v_3 :: []))) => ?_) ?_
        · refine lv_if_eq (tgt := 28) hx hb dX11_areAllSkipped_21 (by decide) (fun h21 => ?_) (fun h21 => ?_)
          · refine lv_iconst (v := 0) hx hb dX11_areAllSkipped_28 (by decide) ?_
            exact K _ (by rw [if_pos h21])
          · refine lv_iconst (v := 1) hx hb dX11_areAllSkipped_24 (by decide) ?_
            refine lv_goto (tgt := 29) hx hb dX11_areAllSkipped_25 (by decide) ?_
            exact K _ (by rw [if_neg h21])
        intro v_3 ev_3
        replace hq := hq _ ev_3
        refine lv_istore_n (lv' := [(1, .int v_3), (0, .ref g.2.1), (2, .int x2)]) hx hb dX11_areAllSkipped_29 rfl hl (by decide) rfl (fun ls hl => ?_)
        obtain ⟨x2_4, ex2_4⟩ : ∃ y : Int32, y = x2 + 1 := ⟨_, rfl⟩
        replace hq := hq _ ex2_4
        refine lv_iinc (v := x2_4) (lv' := [(2, .int x2_4), (1, .int v_3), (0, .ref g.2.1)]) hx hb dX11_areAllSkipped_30 hl (k := 2) rfl (by rw [ex2_4]; rfl) (by decide) rfl (fun ls hl => ?_)
        refine lv_goto (tgt := 4) hx hb dX11_areAllSkipped_33 (by decide) ?_
        exact ih _ _ _ _ _ _ hW (lv_sub hl [2, 1, 0] rfl) hq
set_option maxHeartbeats 4000000 in
set_option maxRecDepth 100000 in
theorem wX11_areAllSkipped (C : CallFix p m c cX11_areAllSkipped 3 s args lwg RX11) (hRf : 2 ≤ R.frames) (hRl : 43 ≤ R.locals) {P : Int32 → MS → Prop} (hret : RetZ g.1 (mw g) (mty g) A p l e R s m args below meth c 0 0 Q cX11_areAllSkipped P) {σ : MS} {H : Heap} {locs : List Loc} {ls : Array Slot} (hW : WI g.1 (mw g) (mty g) A s σ H locs) (hl : lv_has ls 3 [(0, .ref g.2.1)]) (hq : qX11_areAllSkipped σ  P) : W p l e R s m args below meth c H locs 0 0 Q (F0 m 0 ls []) := by
  have hx := C.1
  have hb := C.2.1
  unfold qX11_areAllSkipped at hq
  refine lv_iconst (v := 1) hx hb dX11_areAllSkipped_0 (by decide) ?_
  refine lv_istore_n (lv' := [(1, .int 1), (0, .ref g.2.1)]) hx hb dX11_areAllSkipped_1 rfl hl (by decide) rfl (fun ls hl => ?_)
  refine lv_iconst (v := 0) hx hb dX11_areAllSkipped_2 (by decide) ?_
  refine lv_istore_n (lv' := [(2, .int 0), (1, .int 1), (0, .ref g.2.1)]) hx hb dX11_areAllSkipped_3 rfl hl (by decide) rfl (fun ls hl => ?_)
  obtain ⟨f4, hq⟩ := hq
  exact wX11_areAllSkipped_L4 C hRf hRl hret f4 _ _ _ _ _ _ hW (lv_sub hl [2, 1, 0] rfl) hq
set_option maxHeartbeats 4000000 in
set_option maxRecDepth 100000 in
theorem mX11_areAllSkipped {l : Launch} {g : MG} {σ : MS} {P : Int32 → MS → Prop} (hq : qX11_areAllSkipped σ  P) (sz : Nat) : Met l yX11_areAllSkipped (cws yX11_areAllSkipped cX11_areAllSkipped 3 (some .boolean)) ({ frames := 2, cells := 0, slots := 0, locals := 43 } : Room) (va_Pc [.ref g.2.1] (WP g.1 (mw g) (mty g) σ sz)) (va_Qi P (WB g.1 (mw g) (mty g) σ sz) (va_A (mw g σ) sz)) 0 0 (va_A (mw g σ) sz) :=
  w_enter (by decide) (Nat.le_of_ble_eq_true rfl) (fun p e s m args below meth c ls C hr hk hn hs hW hl => wX11_areAllSkipped C (Nat.le_refl _) (Nat.le_refl _) (fun pc ls v σ H locs hd hW hv hq => w_zret C hs hr hk hW hd hv hq) hW hl hq)
set_option maxHeartbeats 4000000 in
set_option maxRecDepth 100000 in
theorem kX11_areAllSkipped (C : CallFix p m c cc nL s args lwg RX11) {σ : MS} (hW : WI g.1 (mw g) (mty g) A s σ H locs) (hRf : 3 ≤ R.frames) (hRl : 65 ≤ R.locals) (hls : ls.size = nL) (hro : (rest.map fun v => v.category).sum ≤ 8) (hd : decode cc pc = .ok (.invokevirtual 200, 3)) {P : Int32 → MS → Prop} (hq : qX11_areAllSkipped σ  P) (kk : ∀ (r : Int32) (σ1 : MS) (H : Heap) (locs : List Loc), P r σ1 → WI g.1 (mw g) (mty g) A s σ1 H locs → W p l e R s m args below meth c H locs 0 0 Q (F0 m (pc + 3) ls (.int r :: rest))) : W p l e R s m args below meth c H locs 0 0 Q (F0 m pc ls (.ref g.2.1 :: rest)) :=
  w_calli hW (w_runV C hW (mX11_areAllSkipped hq _) ⟨lwg_at 1202 (by decide +kernel) rfl, lwg_at 74 (by decide +kernel) rfl, lwg_at 1199 (by decide +kernel) rfl⟩ (lwg_at 1201 (by decide +kernel) rfl) (lwg_at 43 (by decide +kernel) rfl) (np := 0) (by decide +kernel) ⟨rfl, rfl⟩ ⟨hRf, hRl⟩ (ci := 12) rfl rfl (q0 := 0) rfl rfl hls rfl hro hd ⟨Nat.zero_le _, Nat.zero_le _⟩) kk
-- X11_isOver
set_option maxHeartbeats 4000000 in
set_option maxRecDepth 100000 in
theorem wX11_isOver_J24 (C : CallFix p m c cX11_isOver 1 s args lwg RX11) (hRf : 3 ≤ R.frames) (hRl : 65 ≤ R.locals) {P : Int32 → MS → Prop} (hret : RetZ g.1 (mw g) (mty g) A p l e R s m args below meth c 0 0 Q cX11_isOver P) {σ : MS} {H : Heap} {locs : List Loc} {ls : Array Slot} (hW : WI g.1 (mw g) (mty g) A s σ H locs) (hl : lv_has ls 1 [(0, .ref g.2.1)]) (hq : qX11_isOver_J24  P σ ) : W p l e R s m args below meth c H locs 0 0 Q (F0 m 24 ls []) := by
  have hx := C.1
  have hb := C.2.1
  unfold qX11_isOver_J24 at hq
  refine lv_iconst (v := 1) hx hb dX11_isOver_24 (by decide) ?_
  refine lv_goto (tgt := 29) hx hb dX11_isOver_25 (by decide) ?_
  exact hret _ _ _ _ _ _ dX11_isOver_29 hW isB_1 hq
set_option maxHeartbeats 4000000 in
set_option maxRecDepth 100000 in
theorem wX11_isOver (C : CallFix p m c cX11_isOver 1 s args lwg RX11) (hRf : 3 ≤ R.frames) (hRl : 65 ≤ R.locals) {P : Int32 → MS → Prop} (hret : RetZ g.1 (mw g) (mty g) A p l e R s m args below meth c 0 0 Q cX11_isOver P) {σ : MS} {H : Heap} {locs : List Loc} {ls : Array Slot} (hW : WI g.1 (mw g) (mty g) A s σ H locs) (hl : lv_has ls 1 [(0, .ref g.2.1)]) (hq : qX11_isOver σ  P) : W p l e R s m args below meth c H locs 0 0 Q (F0 m 0 ls []) := by
  have hx := C.1
  have hb := C.2.1
  unfold qX11_isOver at hq
  refine lv_aload_n hx hb dX11_isOver_0 rfl (lv_at hl 0 rfl) ?_
  refine kX11_soupLeft C hW (Nat.le_trans (by decide) hRf) (Nat.le_trans (by decide) hRl) hl.1 (Nat.le_of_ble_eq_true rfl) dX11_isOver_1 hq (fun r_2 σ_1 H locs hq hW => ?_)
  refine lv_if_eq (tgt := 24) hx hb dX11_isOver_4 (by decide) (fun h => ?_) (fun h => ?_)
  · replace hq := br_pos h hq
    exact wX11_isOver_J24 C hRf hRl hret  hW hl hq
  · replace hq := br_neg h hq
    refine lv_aload_n hx hb dX11_isOver_7 rfl (lv_at hl 0 rfl) ?_
    refine mg_42 C hW dX11_isOver_8 ?_
    refine lv_sipush (v := 300) hx hb dX11_isOver_11 (by decide) ?_
    refine lv_icmp_ge (tgt := 24) hx hb dX11_isOver_14 (by decide) (fun h => ?_) (fun h => ?_)
    · replace hq := br_pos h hq
      exact wX11_isOver_J24 C hRf hRl hret  hW hl hq
    · replace hq := br_neg h hq
      refine lv_aload_n hx hb dX11_isOver_17 rfl (lv_at hl 0 rfl) ?_
      refine kX11_areAllSkipped C hW (Nat.le_trans (by decide) hRf) (Nat.le_trans (by decide) hRl) hl.1 (Nat.le_of_ble_eq_true rfl) dX11_isOver_18 hq (fun r_4 σ_3 H locs hq hW => ?_)
      refine lv_if_eq (tgt := 28) hx hb dX11_isOver_21 (by decide) (fun h => ?_) (fun h => ?_)
      · replace hq := br_pos h hq
        refine lv_iconst (v := 0) hx hb dX11_isOver_28 (by decide) ?_
        exact hret _ _ _ _ _ _ dX11_isOver_29 hW isB_0 hq
      · replace hq := br_neg h hq
        exact wX11_isOver_J24 C hRf hRl hret  hW hl hq
set_option maxHeartbeats 4000000 in
set_option maxRecDepth 100000 in
theorem mX11_isOver {l : Launch} {g : MG} {σ : MS} {P : Int32 → MS → Prop} (hq : qX11_isOver σ  P) (sz : Nat) : Met l yX11_isOver (cws yX11_isOver cX11_isOver 1 (some .boolean)) ({ frames := 3, cells := 0, slots := 0, locals := 65 } : Room) (va_Pc [.ref g.2.1] (WP g.1 (mw g) (mty g) σ sz)) (va_Qi P (WB g.1 (mw g) (mty g) σ sz) (va_A (mw g σ) sz)) 0 0 (va_A (mw g σ) sz) :=
  w_enter (by decide) (Nat.le_of_ble_eq_true rfl) (fun p e s m args below meth c ls C hr hk hn hs hW hl => wX11_isOver C (Nat.le_refl _) (Nat.le_refl _) (fun pc ls v σ H locs hd hW hv hq => w_zret C hs hr hk hW hd hv hq) hW hl hq)
set_option maxHeartbeats 4000000 in
set_option maxRecDepth 100000 in
theorem kX11_isOver (C : CallFix p m c cc nL s args lwg RX11) {σ : MS} (hW : WI g.1 (mw g) (mty g) A s σ H locs) (hRf : 4 ≤ R.frames) (hRl : 85 ≤ R.locals) (hls : ls.size = nL) (hro : (rest.map fun v => v.category).sum ≤ 8) (hd : decode cc pc = .ok (.invokevirtual 211, 3)) {P : Int32 → MS → Prop} (hq : qX11_isOver σ  P) (kk : ∀ (r : Int32) (σ1 : MS) (H : Heap) (locs : List Loc), P r σ1 → WI g.1 (mw g) (mty g) A s σ1 H locs → W p l e R s m args below meth c H locs 0 0 Q (F0 m (pc + 3) ls (.int r :: rest))) : W p l e R s m args below meth c H locs 0 0 Q (F0 m pc ls (.ref g.2.1 :: rest)) :=
  w_calli hW (w_runV C hW (mX11_isOver hq _) ⟨lwg_at 1194 (by decide +kernel) rfl, lwg_at 74 (by decide +kernel) rfl, lwg_at 1191 (by decide +kernel) rfl⟩ (lwg_at 1193 (by decide +kernel) rfl) (lwg_at 41 (by decide +kernel) rfl) (np := 0) (by decide +kernel) ⟨rfl, rfl⟩ ⟨hRf, hRl⟩ (ci := 12) rfl rfl (q0 := 0) rfl rfl hls rfl hro hd ⟨Nat.zero_le _, Nat.zero_le _⟩) kk
-- X11_onward
set_option maxHeartbeats 4000000 in
set_option maxRecDepth 100000 in
theorem wX11_onward (C : CallFix p m c cX11_onward 3 s args lwg RX11) (hRf : 0 ≤ R.frames) (hRl : 0 ≤ R.locals) {P : Int32 → MS → Prop} (hret : RetI g.1 (mw g) (mty g) A p l e R s m args below meth c 0 0 Q cX11_onward P) {σ : MS} {x1 : Int32} {x2 : Int32} {H : Heap} {locs : List Loc} {ls : Array Slot} (hW : WI g.1 (mw g) (mty g) A s σ H locs) (hl : lv_has ls 3 [(0, .ref g.2.1), (1, .int x1), (2, .int x2)]) (hq : qX11_onward σ x1 x2 P) : W p l e R s m args below meth c H locs 0 0 Q (F0 m 0 ls []) := by
  have hx := C.1
  have hb := C.2.1
  unfold qX11_onward at hq
  refine lv_iload_n hx hb dX11_onward_0 rfl (lv_at hl 1 rfl) ?_
  refine lv_iload_n hx hb dX11_onward_1 rfl (lv_at hl 2 rfl) ?_
  refine lv_if_eq (tgt := 9) hx hb dX11_onward_2 (by decide) (fun h => ?_) (fun h => ?_)
  · replace hq := br_pos h hq
    refine lv_aload_n hx hb dX11_onward_9 rfl (lv_at hl 0 rfl) ?_
    refine mg_0 C hW dX11_onward_10 ?_
    refine lv_iconst (v := 1) hx hb dX11_onward_13 (by decide) ?_
    refine lv_isub hx hb dX11_onward_14 ?_
    refine lv_iadd hx hb dX11_onward_15 ?_
    refine lv_aload_n hx hb dX11_onward_16 rfl (lv_at hl 0 rfl) ?_
    refine mg_0 C hW dX11_onward_17 ?_
    obtain ⟨hne, hq⟩ := hq
    refine w_irem hx hb dX11_onward_20 hne ?_
    exact hret _ _ _ _ _ _ dX11_onward_21 hW hq
  · replace hq := br_neg h hq
    refine lv_iconst (v := 1) hx hb dX11_onward_5 (by decide) ?_
    refine lv_goto (tgt := 15) hx hb dX11_onward_6 (by decide) ?_
    refine lv_iadd hx hb dX11_onward_15 ?_
    refine lv_aload_n hx hb dX11_onward_16 rfl (lv_at hl 0 rfl) ?_
    refine mg_0 C hW dX11_onward_17 ?_
    obtain ⟨hne, hq⟩ := hq
    refine w_irem hx hb dX11_onward_20 hne ?_
    exact hret _ _ _ _ _ _ dX11_onward_21 hW hq
set_option maxHeartbeats 4000000 in
set_option maxRecDepth 100000 in
theorem mX11_onward {l : Launch} {g : MG} {σ : MS} {x1 : Int32} {x2 : Int32} {P : Int32 → MS → Prop} (hq : qX11_onward σ x1 x2 P) (sz : Nat) : Met l yX11_onward (cws yX11_onward cX11_onward 3 (some .int)) ({ frames := 0, cells := 0, slots := 0, locals := 0 } : Room) (va_Pc [.ref g.2.1, .int x1, .int x2] (WP g.1 (mw g) (mty g) σ sz)) (va_Qi P (WB g.1 (mw g) (mty g) σ sz) (va_A (mw g σ) sz)) 0 0 (va_A (mw g σ) sz) :=
  w_enter (by decide) (Nat.le_of_ble_eq_true rfl) (fun p e s m args below meth c ls C hr hk hn hs hW hl => wX11_onward C (Nat.le_refl _) (Nat.le_refl _) (fun pc ls v σ H locs hd hW hq => w_iret C hs hr hk hW hd hq) hW hl hq)
set_option maxHeartbeats 4000000 in
set_option maxRecDepth 100000 in
theorem kX11_onward (C : CallFix p m c cc nL s args lwg RX11) {σ : MS} (hW : WI g.1 (mw g) (mty g) A s σ H locs) (hRf : 1 ≤ R.frames) (hRl : 22 ≤ R.locals) (hls : ls.size = nL) (hro : (rest.map fun v => v.category).sum ≤ 8) {x1 : Int32} {x2 : Int32} (hd : decode cc pc = .ok (.invokevirtual 226, 3)) {P : Int32 → MS → Prop} (hq : qX11_onward σ x1 x2 P) (kk : ∀ (r : Int32) (σ1 : MS) (H : Heap) (locs : List Loc), P r σ1 → WI g.1 (mw g) (mty g) A s σ1 H locs → W p l e R s m args below meth c H locs 0 0 Q (F0 m (pc + 3) ls (.int r :: rest))) : W p l e R s m args below meth c H locs 0 0 Q (F0 m pc ls (.int x2 :: .int x1 :: .ref g.2.1 :: rest)) :=
  w_calli hW (w_runV C hW (mX11_onward hq _) ⟨lwg_at 1233 (by decide +kernel) rfl, lwg_at 74 (by decide +kernel) rfl, lwg_at 1230 (by decide +kernel) rfl⟩ (lwg_at 1232 (by decide +kernel) rfl) (lwg_at 50 (by decide +kernel) rfl) (np := 2) (by decide +kernel) ⟨rfl, rfl⟩ ⟨hRf, hRl⟩ (ci := 12) rfl rfl (q0 := 0) rfl rfl hls rfl hro hd ⟨Nat.zero_le _, Nat.zero_le _⟩) kk
-- X11_stir
set_option maxHeartbeats 4000000 in
set_option maxRecDepth 100000 in
theorem wX11_stir_L7 (C : CallFix p m c cX11_stir 3 s args lwg RX11) (hRf : 1 ≤ R.frames) (hRl : 22 ≤ R.locals) {P : MS → Prop} (hret : RetV g.1 (mw g) (mty g) A p l e R s m args below meth c 0 0 Q cX11_stir P) : ∀ (n : Nat) (σ : MS) (x1 : Int32) (x2 : Int32) (H : Heap) (locs : List Loc) (ls : Array Slot), WI g.1 (mw g) (mty g) A s σ H locs → lv_has ls 3 [(0, .ref g.2.1), (1, .int x1), (2, .int x2)] → qX11_stir_L7  P n σ x1 x2 → W p l e R s m args below meth c H locs 0 0 Q (F0 m 7 ls []) := by
  have hx := C.1
  have hb := C.2.1
  intro n
  induction n with
  | zero =>
    intro σ x1 x2 H locs ls hW hl hq
    rw [qX11_stir_L7] at hq
    exact hq.elim
  | succ n ih =>
    intro σ x1 x2 H locs ls hW hl hq
    rw [qX11_stir_L7] at hq
    refine lv_iload_n hx hb dX11_stir_7 rfl (lv_at hl 2 rfl) ?_
    refine lv_iconst (v := 5) hx hb dX11_stir_8 (by decide) ?_
    refine lv_icmp_ge (tgt := 42) hx hb dX11_stir_9 (by decide) (fun h => ?_) (fun h => ?_)
    · replace hq := br_pos h hq
      exact hret _ _ _ _ _ dX11_stir_42 hW hq
    · replace hq := br_neg h hq
      refine lv_aload_n hx hb dX11_stir_12 rfl (lv_at hl 0 rfl) ?_
      refine mg_39 C hW dX11_stir_13 ?_
      refine lv_iload_n hx hb dX11_stir_16 rfl (lv_at hl 2 rfl) ?_
      refine lv_iload_n hx hb dX11_stir_17 rfl (lv_at hl 1 rfl) ?_
      refine lv_iconst (v := 5) hx hb dX11_stir_18 (by decide) ?_
      refine lv_idiv hx hb dX11_stir_19 (by decide) ?_
      refine lv_iconst (v := 4) hx hb dX11_stir_20 (by decide) ?_
      refine lv_iload_n hx hb dX11_stir_21 rfl (lv_at hl 2 rfl) ?_
      refine lv_isub hx hb dX11_stir_22 ?_
      refine lv_iload_n hx hb dX11_stir_23 rfl (lv_at hl 1 rfl) ?_
      refine lv_iconst (v := 5) hx hb dX11_stir_24 (by decide) ?_
      refine w_irem hx hb dX11_stir_25 (by decide) ?_
      refine (fun (K : ∀ v_1 : Int32, v_1 = ((if (jrem x1 5) ≤ (4 - x2) then 0 else 1) : Int32) → W p l e R s m args below meth c H locs 0 0 Q (F0 m 34 ls (.int v_1 :: [.int (x1 / 5), .int x2, .ref (g.2.2.1 39)]))) => ?_) ?_
      · refine lv_icmp_ge (tgt := 33) hx hb dX11_stir_26 (by decide) (fun h26 => ?_) (fun h26 => ?_)
        · refine lv_iconst (v := 0) hx hb dX11_stir_33 (by decide) ?_
          exact K _ (by rw [if_pos h26])
        · refine lv_iconst (v := 1) hx hb dX11_stir_29 (by decide) ?_
          refine lv_goto (tgt := 34) hx hb dX11_stir_30 (by decide) ?_
          exact K _ (by rw [if_neg h26])
      intro v_1 ev_1
      replace hq := hq _ ev_1
      refine lv_iadd hx hb dX11_stir_34 ?_
      obtain ⟨hin2, hq⟩ := hq
      refine ms_39 C hW hin2 dX11_stir_35 (fun σ_3 H locs eσ_3 hW => ?_)
      replace hq := hq _ eσ_3
      obtain ⟨x2_4, ex2_4⟩ : ∃ y : Int32, y = x2 + 1 := ⟨_, rfl⟩
      replace hq := hq _ ex2_4
      refine lv_iinc (v := x2_4) (lv' := [(2, .int x2_4), (0, .ref g.2.1), (1, .int x1)]) hx hb dX11_stir_36 hl (k := 2) rfl (by rw [ex2_4]; rfl) (by decide) rfl (fun ls hl => ?_)
      refine lv_goto (tgt := 7) hx hb dX11_stir_39 (by decide) ?_
      exact ih _ _ _ _ _ _ hW (lv_sub hl [1, 2, 0] rfl) hq
set_option maxHeartbeats 4000000 in
set_option maxRecDepth 100000 in
theorem wX11_stir (C : CallFix p m c cX11_stir 3 s args lwg RX11) (hRf : 1 ≤ R.frames) (hRl : 22 ≤ R.locals) {P : MS → Prop} (hret : RetV g.1 (mw g) (mty g) A p l e R s m args below meth c 0 0 Q cX11_stir P) {σ : MS} {H : Heap} {locs : List Loc} {ls : Array Slot} (hW : WI g.1 (mw g) (mty g) A s σ H locs) (hl : lv_has ls 3 [(0, .ref g.2.1)]) (hq : qX11_stir σ  P) : W p l e R s m args below meth c H locs 0 0 Q (F0 m 0 ls []) := by
  have hx := C.1
  have hb := C.2.1
  unfold qX11_stir at hq
  refine lv_aload_n hx hb dX11_stir_0 rfl (lv_at hl 0 rfl) ?_
  refine kX11_soupLeft C hW (Nat.le_trans (by decide) hRf) (Nat.le_trans (by decide) hRl) hl.1 (Nat.le_of_ble_eq_true rfl) dX11_stir_1 hq (fun r_2 σ_1 H locs hq hW => ?_)
  refine lv_istore_n (lv' := [(1, .int r_2), (0, .ref g.2.1)]) hx hb dX11_stir_4 rfl hl (by decide) rfl (fun ls hl => ?_)
  refine lv_iconst (v := 0) hx hb dX11_stir_5 (by decide) ?_
  refine lv_istore_n (lv' := [(2, .int 0), (1, .int r_2), (0, .ref g.2.1)]) hx hb dX11_stir_6 rfl hl (by decide) rfl (fun ls hl => ?_)
  obtain ⟨f7, hq⟩ := hq
  exact wX11_stir_L7 C hRf hRl hret f7 _ _ _ _ _ _ hW (lv_sub hl [2, 1, 0] rfl) hq
set_option maxHeartbeats 4000000 in
set_option maxRecDepth 100000 in
theorem mX11_stir {l : Launch} {g : MG} {σ : MS} {P : MS → Prop} (hq : qX11_stir σ  P) (sz : Nat) : Met l yX11_stir (cws yX11_stir cX11_stir 3 none) ({ frames := 1, cells := 0, slots := 0, locals := 22 } : Room) (va_Pc [.ref g.2.1] (WP g.1 (mw g) (mty g) σ sz)) (va_Qv P (WB g.1 (mw g) (mty g) σ sz) (va_A (mw g σ) sz)) 0 0 (va_A (mw g σ) sz) :=
  w_enter (by decide) (Nat.le_of_ble_eq_true rfl) (fun p e s m args below meth c ls C hr hk hn hs hW hl => wX11_stir C (Nat.le_refl _) (Nat.le_refl _) (fun pc ls σ H locs hd hW hq => w_vret C hs hr hk hW hd hq) hW hl hq)
set_option maxHeartbeats 4000000 in
set_option maxRecDepth 100000 in
theorem kX11_stir (C : CallFix p m c cc nL s args lwg RX11) {σ : MS} (hW : WI g.1 (mw g) (mty g) A s σ H locs) (hRf : 2 ≤ R.frames) (hRl : 44 ≤ R.locals) (hls : ls.size = nL) (hro : (rest.map fun v => v.category).sum ≤ 8) (hd : decode cc pc = .ok (.invokevirtual 214, 3)) {P : MS → Prop} (hq : qX11_stir σ  P) (kk : ∀ (σ1 : MS) (H : Heap) (locs : List Loc), P σ1 → WI g.1 (mw g) (mty g) A s σ1 H locs → W p l e R s m args below meth c H locs 0 0 Q (F0 m (pc + 3) ls rest)) : W p l e R s m args below meth c H locs 0 0 Q (F0 m pc ls (.ref g.2.1 :: rest)) :=
  w_callv hW (w_runV C hW (mX11_stir hq _) ⟨lwg_at 1213 (by decide +kernel) rfl, lwg_at 74 (by decide +kernel) rfl, lwg_at 1210 (by decide +kernel) rfl⟩ (lwg_at 1212 (by decide +kernel) rfl) (lwg_at 45 (by decide +kernel) rfl) (np := 0) (by decide +kernel) ⟨rfl, rfl⟩ ⟨hRf, hRl⟩ (ci := 12) rfl rfl (q0 := 0) rfl rfl hls rfl hro hd ⟨Nat.zero_le _, Nat.zero_le _⟩) kk
-- X11_biteOnce
set_option maxHeartbeats 4000000 in
set_option maxRecDepth 100000 in
theorem wX11_biteOnce_J287 (C : CallFix p m c cX11_biteOnce 7 s args lwg RX11) (hRf : 1 ≤ R.frames) (hRl : 22 ≤ R.locals) {P : MS → Prop} (hret : RetV g.1 (mw g) (mty g) A p l e R s m args below meth c 0 0 Q cX11_biteOnce P) {σ : MS} {x6 : Int32} {H : Heap} {locs : List Loc} {ls : Array Slot} (hW : WI g.1 (mw g) (mty g) A s σ H locs) (hl : lv_has ls 7 [(0, .ref g.2.1), (6, .int x6)]) (hq : qX11_biteOnce_J287  P σ x6) : W p l e R s m args below meth c H locs 0 0 Q (F0 m 287 ls []) := by
  have hx := C.1
  have hb := C.2.1
  unfold qX11_biteOnce_J287 at hq
  refine lv_aload_n hx hb dX11_biteOnce_287 rfl (lv_at hl 0 rfl) ?_
  refine lv_dup hx hb dX11_biteOnce_288 rfl ?_
  refine mg_43 C hW dX11_biteOnce_289 ?_
  refine lv_iconst (v := 1) hx hb dX11_biteOnce_292 (by decide) ?_
  refine lv_iadd hx hb dX11_biteOnce_293 ?_
  refine mp_43 C hW dX11_biteOnce_294 (fun σ_1 H locs eσ_1 hW => ?_)
  replace hq := hq _ eσ_1
  refine lv_aload_n hx hb dX11_biteOnce_297 rfl (lv_at hl 0 rfl) ?_
  refine lv_dup hx hb dX11_biteOnce_298 rfl ?_
  refine mg_44 C hW dX11_biteOnce_299 ?_
  refine lv_iload hx hb dX11_biteOnce_302 (lv_at hl 1 rfl) ?_
  refine lv_iadd hx hb dX11_biteOnce_304 ?_
  refine mp_44 C hW dX11_biteOnce_305 (fun σ_2 H locs eσ_2 hW => ?_)
  replace hq := hq _ eσ_2
  exact hret _ _ _ _ _ dX11_biteOnce_308 hW hq
set_option maxHeartbeats 4000000 in
set_option maxRecDepth 100000 in
theorem wX11_biteOnce_J193 (C : CallFix p m c cX11_biteOnce 7 s args lwg RX11) (hRf : 1 ≤ R.frames) (hRl : 22 ≤ R.locals) {P : MS → Prop} (hret : RetV g.1 (mw g) (mty g) A p l e R s m args below meth c 0 0 Q cX11_biteOnce P) {σ : MS} {x1 : Int32} {x2 : Int32} {x3 : Int32} {x5 : Int32} {y0 : Int32} {H : Heap} {locs : List Loc} {ls : Array Slot} (hW : WI g.1 (mw g) (mty g) A s σ H locs) (hl : lv_has ls 7 [(0, .ref g.2.1), (1, .int x1), (2, .int x2), (3, .int x3), (5, .int x5)]) (hq : qX11_biteOnce_J193  P σ x1 x2 x3 x5 y0) : W p l e R s m args below meth c H locs 0 0 Q (F0 m 193 ls [.int y0]) := by
  have hx := C.1
  have hb := C.2.1
  unfold qX11_biteOnce_J193 at hq
  refine lv_istore (lv' := [(6, .int y0), (0, .ref g.2.1), (1, .int x1), (2, .int x2), (3, .int x3), (5, .int x5)]) hx hb dX11_biteOnce_193 hl (by decide) rfl (fun ls hl => ?_)
  refine lv_aload_n hx hb dX11_biteOnce_195 rfl (lv_at hl 1 rfl) ?_
  refine mg_45 C hW dX11_biteOnce_196 ?_
  refine lv_iload hx hb dX11_biteOnce_199 (lv_at hl 5 rfl) ?_
  refine lv_dup2_11 hx hb dX11_biteOnce_201 rfl rfl ?_
  obtain ⟨hin1, hq⟩ := hq
  refine ma_45 C hW hin1 dX11_biteOnce_202 ?_
  refine lv_iload hx hb dX11_biteOnce_203 (lv_at hl 0 rfl) ?_
  refine lv_iadd hx hb dX11_biteOnce_205 ?_
  refine ms_45 C hW hin1 dX11_biteOnce_206 (fun σ_2 H locs eσ_2 hW => ?_)
  replace hq := hq _ eσ_2
  refine lv_aload_n hx hb dX11_biteOnce_207 rfl (lv_at hl 1 rfl) ?_
  refine mg_43 C hW dX11_biteOnce_208 ?_
  refine lv_sipush (v := 600) hx hb dX11_biteOnce_211 (by decide) ?_
  refine lv_icmp_ge (tgt := 287) hx hb dX11_biteOnce_214 (by decide) (fun h => ?_) (fun h => ?_)
  · replace hq := br_pos h hq
    exact wX11_biteOnce_J287 C hRf hRl hret  hW (lv_sub hl [1, 0] rfl) hq
  · replace hq := br_neg h hq
    refine lv_aload_n hx hb dX11_biteOnce_217 rfl (lv_at hl 1 rfl) ?_
    refine mg_48 C hW dX11_biteOnce_218 ?_
    refine lv_iconst (v := 5) hx hb dX11_biteOnce_221 (by decide) ?_
    refine lv_aload_n hx hb dX11_biteOnce_222 rfl (lv_at hl 1 rfl) ?_
    refine mg_43 C hW dX11_biteOnce_223 ?_
    refine lv_imul hx hb dX11_biteOnce_226 ?_
    refine lv_iload_n hx hb dX11_biteOnce_227 rfl (lv_at hl 2 rfl) ?_
    obtain ⟨hin3, hq⟩ := hq
    refine ms_48 C hW hin3 dX11_biteOnce_228 (fun σ_4 H locs eσ_4 hW => ?_)
    replace hq := hq _ eσ_4
    refine lv_aload_n hx hb dX11_biteOnce_229 rfl (lv_at hl 1 rfl) ?_
    refine mg_48 C hW dX11_biteOnce_230 ?_
    refine lv_iconst (v := 5) hx hb dX11_biteOnce_233 (by decide) ?_
    refine lv_aload_n hx hb dX11_biteOnce_234 rfl (lv_at hl 1 rfl) ?_
    refine mg_43 C hW dX11_biteOnce_235 ?_
    refine lv_imul hx hb dX11_biteOnce_238 ?_
    refine lv_iconst (v := 1) hx hb dX11_biteOnce_239 (by decide) ?_
    refine lv_iadd hx hb dX11_biteOnce_240 ?_
    refine lv_iload hx hb dX11_biteOnce_241 (lv_at hl 5 rfl) ?_
    obtain ⟨hin5, hq⟩ := hq
    refine ms_48 C hW hin5 dX11_biteOnce_243 (fun σ_6 H locs eσ_6 hW => ?_)
    replace hq := hq _ eσ_6
    refine lv_aload_n hx hb dX11_biteOnce_244 rfl (lv_at hl 1 rfl) ?_
    refine mg_48 C hW dX11_biteOnce_245 ?_
    refine lv_iconst (v := 5) hx hb dX11_biteOnce_248 (by decide) ?_
    refine lv_aload_n hx hb dX11_biteOnce_249 rfl (lv_at hl 1 rfl) ?_
    refine mg_43 C hW dX11_biteOnce_250 ?_
    refine lv_imul hx hb dX11_biteOnce_253 ?_
    refine lv_iconst (v := 2) hx hb dX11_biteOnce_254 (by decide) ?_
    refine lv_iadd hx hb dX11_biteOnce_255 ?_
    refine lv_iload_n hx hb dX11_biteOnce_256 rfl (lv_at hl 3 rfl) ?_
    obtain ⟨hin7, hq⟩ := hq
    refine ms_48 C hW hin7 dX11_biteOnce_257 (fun σ_8 H locs eσ_8 hW => ?_)
    replace hq := hq _ eσ_8
    refine lv_aload_n hx hb dX11_biteOnce_258 rfl (lv_at hl 1 rfl) ?_
    refine mg_48 C hW dX11_biteOnce_259 ?_
    refine lv_iconst (v := 5) hx hb dX11_biteOnce_262 (by decide) ?_
    refine lv_aload_n hx hb dX11_biteOnce_263 rfl (lv_at hl 1 rfl) ?_
    refine mg_43 C hW dX11_biteOnce_264 ?_
    refine lv_imul hx hb dX11_biteOnce_267 ?_
    refine lv_iconst (v := 3) hx hb dX11_biteOnce_268 (by decide) ?_
    refine lv_iadd hx hb dX11_biteOnce_269 ?_
    refine lv_iload_n hx hb dX11_biteOnce_270 rfl (lv_at hl 4 rfl) ?_
    obtain ⟨hin9, hq⟩ := hq
    refine ms_48 C hW hin9 dX11_biteOnce_271 (fun σ_10 H locs eσ_10 hW => ?_)
    replace hq := hq _ eσ_10
    refine lv_aload_n hx hb dX11_biteOnce_272 rfl (lv_at hl 1 rfl) ?_
    refine mg_48 C hW dX11_biteOnce_273 ?_
    refine lv_iconst (v := 5) hx hb dX11_biteOnce_276 (by decide) ?_
    refine lv_aload_n hx hb dX11_biteOnce_277 rfl (lv_at hl 1 rfl) ?_
    refine mg_43 C hW dX11_biteOnce_278 ?_
    refine lv_imul hx hb dX11_biteOnce_281 ?_
    refine lv_iconst (v := 4) hx hb dX11_biteOnce_282 (by decide) ?_
    refine lv_iadd hx hb dX11_biteOnce_283 ?_
    refine lv_iload hx hb dX11_biteOnce_284 (lv_at hl 0 rfl) ?_
    obtain ⟨hin11, hq⟩ := hq
    refine ms_48 C hW hin11 dX11_biteOnce_286 (fun σ_12 H locs eσ_12 hW => ?_)
    replace hq := hq _ eσ_12
    exact wX11_biteOnce_J287 C hRf hRl hret  hW (lv_sub hl [1, 0] rfl) hq
set_option maxHeartbeats 4000000 in
set_option maxRecDepth 100000 in
theorem wX11_biteOnce_J191 (C : CallFix p m c cX11_biteOnce 7 s args lwg RX11) (hRf : 1 ≤ R.frames) (hRl : 22 ≤ R.locals) {P : MS → Prop} (hret : RetV g.1 (mw g) (mty g) A p l e R s m args below meth c 0 0 Q cX11_biteOnce P) {σ : MS} {x1 : Int32} {x2 : Int32} {x3 : Int32} {x5 : Int32} {x6 : Int32} {H : Heap} {locs : List Loc} {ls : Array Slot} (hW : WI g.1 (mw g) (mty g) A s σ H locs) (hl : lv_has ls 7 [(0, .ref g.2.1), (1, .int x1), (2, .int x2), (3, .int x3), (5, .int x5), (6, .int x6)]) (hq : qX11_biteOnce_J191  P σ x1 x2 x3 x5 x6) : W p l e R s m args below meth c H locs 0 0 Q (F0 m 191 ls []) := by
  have hx := C.1
  have hb := C.2.1
  unfold qX11_biteOnce_J191 at hq
  refine lv_iload hx hb dX11_biteOnce_191 (lv_at hl 5 rfl) ?_
  exact wX11_biteOnce_J193 C hRf hRl hret  hW (lv_sub hl [0, 1, 2, 3, 4] rfl) hq
set_option maxHeartbeats 4000000 in
set_option maxRecDepth 100000 in
theorem wX11_biteOnce_J163 (C : CallFix p m c cX11_biteOnce 7 s args lwg RX11) (hRf : 1 ≤ R.frames) (hRl : 22 ≤ R.locals) {P : MS → Prop} (hret : RetV g.1 (mw g) (mty g) A p l e R s m args below meth c 0 0 Q cX11_biteOnce P) {σ : MS} {x1 : Int32} {x2 : Int32} {x3 : Int32} {x5 : Int32} {y0 : Int32} {H : Heap} {locs : List Loc} {ls : Array Slot} (hW : WI g.1 (mw g) (mty g) A s σ H locs) (hl : lv_has ls 7 [(0, .ref g.2.1), (1, .int x1), (2, .int x2), (3, .int x3), (5, .int x5)]) (hq : qX11_biteOnce_J163  P σ x1 x2 x3 x5 y0) : W p l e R s m args below meth c H locs 0 0 Q (F0 m 163 ls [.int y0]) := by
  have hx := C.1
  have hb := C.2.1
  unfold qX11_biteOnce_J163 at hq
  refine lv_istore (lv' := [(6, .int y0), (0, .ref g.2.1), (1, .int x1), (2, .int x2), (3, .int x3), (5, .int x5)]) hx hb dX11_biteOnce_163 hl (by decide) rfl (fun ls hl => ?_)
  refine lv_aload_n hx hb dX11_biteOnce_165 rfl (lv_at hl 1 rfl) ?_
  refine mg_11 C hW dX11_biteOnce_166 ?_
  refine lv_if_eq (tgt := 191) hx hb dX11_biteOnce_169 (by decide) (fun h => ?_) (fun h => ?_)
  · replace hq := br_pos h hq
    exact wX11_biteOnce_J191 C hRf hRl hret  hW (lv_sub hl [1, 2, 3, 4, 5, 0] rfl) hq
  · replace hq := br_neg h hq
    refine lv_iload_n hx hb dX11_biteOnce_172 rfl (lv_at hl 3 rfl) ?_
    refine lv_iconst (v := 4) hx hb dX11_biteOnce_173 (by decide) ?_
    refine lv_icmp_ne (tgt := 191) hx hb dX11_biteOnce_174 (by decide) (fun h => ?_) (fun h => ?_)
    · replace hq := br_neg h hq
      exact wX11_biteOnce_J191 C hRf hRl hret  hW (lv_sub hl [1, 2, 3, 4, 5, 0] rfl) hq
    · replace hq := br_pos h hq
      refine lv_aload_n hx hb dX11_biteOnce_177 rfl (lv_at hl 1 rfl) ?_
      refine mg_4 C hW dX11_biteOnce_178 ?_
      refine lv_iload hx hb dX11_biteOnce_181 (lv_at hl 5 rfl) ?_
      obtain ⟨hin1, hq⟩ := hq
      refine ma_4 C hW hin1 dX11_biteOnce_183 ?_
      refine (fun (K : ∀ v_2 : Int32, v_2 = ((if (mgeta σ 4 x5) = 0 then 0 else y0) : Int32) → W p l e R s m args below meth c H locs 0 0 Q (F0 m 193 ls (.int v_2 :: []))) => ?_) ?_
      · refine lv_if_ne (tgt := 191) hx hb dX11_biteOnce_184 (by decide) (fun h184 => ?_) (fun h184 => ?_)
        · refine lv_iload hx hb dX11_biteOnce_191 (lv_at hl 0 rfl) ?_
          exact K _ (by rw [if_neg h184])
        · refine lv_iconst (v := 0) hx hb dX11_biteOnce_187 (by decide) ?_
          refine lv_goto (tgt := 193) hx hb dX11_biteOnce_188 (by decide) ?_
          exact K _ (by rw [if_pos h184])
      intro v_2 ev_2
      replace hq := hq _ ev_2
      refine lv_istore (lv' := [(6, .int v_2), (0, .ref g.2.1), (1, .int x1), (2, .int x2), (3, .int x3), (5, .int x5)]) hx hb dX11_biteOnce_193 hl (by decide) rfl (fun ls hl => ?_)
      refine lv_aload_n hx hb dX11_biteOnce_195 rfl (lv_at hl 1 rfl) ?_
      refine mg_45 C hW dX11_biteOnce_196 ?_
      refine lv_iload hx hb dX11_biteOnce_199 (lv_at hl 5 rfl) ?_
      refine lv_dup2_11 hx hb dX11_biteOnce_201 rfl rfl ?_
      refine ma_45 C hW hin1 dX11_biteOnce_202 ?_
      refine lv_iload hx hb dX11_biteOnce_203 (lv_at hl 0 rfl) ?_
      refine lv_iadd hx hb dX11_biteOnce_205 ?_
      refine ms_45 C hW hin1 dX11_biteOnce_206 (fun σ_3 H locs eσ_3 hW => ?_)
      replace hq := hq _ eσ_3
      refine lv_aload_n hx hb dX11_biteOnce_207 rfl (lv_at hl 1 rfl) ?_
      refine mg_43 C hW dX11_biteOnce_208 ?_
      refine lv_sipush (v := 600) hx hb dX11_biteOnce_211 (by decide) ?_
      refine lv_icmp_ge (tgt := 287) hx hb dX11_biteOnce_214 (by decide) (fun h => ?_) (fun h => ?_)
      · replace hq := br_pos h hq
        exact wX11_biteOnce_J287 C hRf hRl hret  hW (lv_sub hl [1, 0] rfl) hq
      · replace hq := br_neg h hq
        refine lv_aload_n hx hb dX11_biteOnce_217 rfl (lv_at hl 1 rfl) ?_
        refine mg_48 C hW dX11_biteOnce_218 ?_
        refine lv_iconst (v := 5) hx hb dX11_biteOnce_221 (by decide) ?_
        refine lv_aload_n hx hb dX11_biteOnce_222 rfl (lv_at hl 1 rfl) ?_
        refine mg_43 C hW dX11_biteOnce_223 ?_
        refine lv_imul hx hb dX11_biteOnce_226 ?_
        refine lv_iload_n hx hb dX11_biteOnce_227 rfl (lv_at hl 2 rfl) ?_
        obtain ⟨hin4, hq⟩ := hq
        refine ms_48 C hW hin4 dX11_biteOnce_228 (fun σ_5 H locs eσ_5 hW => ?_)
        replace hq := hq _ eσ_5
        refine lv_aload_n hx hb dX11_biteOnce_229 rfl (lv_at hl 1 rfl) ?_
        refine mg_48 C hW dX11_biteOnce_230 ?_
        refine lv_iconst (v := 5) hx hb dX11_biteOnce_233 (by decide) ?_
        refine lv_aload_n hx hb dX11_biteOnce_234 rfl (lv_at hl 1 rfl) ?_
        refine mg_43 C hW dX11_biteOnce_235 ?_
        refine lv_imul hx hb dX11_biteOnce_238 ?_
        refine lv_iconst (v := 1) hx hb dX11_biteOnce_239 (by decide) ?_
        refine lv_iadd hx hb dX11_biteOnce_240 ?_
        refine lv_iload hx hb dX11_biteOnce_241 (lv_at hl 5 rfl) ?_
        obtain ⟨hin6, hq⟩ := hq
        refine ms_48 C hW hin6 dX11_biteOnce_243 (fun σ_7 H locs eσ_7 hW => ?_)
        replace hq := hq _ eσ_7
        refine lv_aload_n hx hb dX11_biteOnce_244 rfl (lv_at hl 1 rfl) ?_
        refine mg_48 C hW dX11_biteOnce_245 ?_
        refine lv_iconst (v := 5) hx hb dX11_biteOnce_248 (by decide) ?_
        refine lv_aload_n hx hb dX11_biteOnce_249 rfl (lv_at hl 1 rfl) ?_
        refine mg_43 C hW dX11_biteOnce_250 ?_
        refine lv_imul hx hb dX11_biteOnce_253 ?_
        refine lv_iconst (v := 2) hx hb dX11_biteOnce_254 (by decide) ?_
        refine lv_iadd hx hb dX11_biteOnce_255 ?_
        refine lv_iload_n hx hb dX11_biteOnce_256 rfl (lv_at hl 3 rfl) ?_
        obtain ⟨hin8, hq⟩ := hq
        refine ms_48 C hW hin8 dX11_biteOnce_257 (fun σ_9 H locs eσ_9 hW => ?_)
        replace hq := hq _ eσ_9
        refine lv_aload_n hx hb dX11_biteOnce_258 rfl (lv_at hl 1 rfl) ?_
        refine mg_48 C hW dX11_biteOnce_259 ?_
        refine lv_iconst (v := 5) hx hb dX11_biteOnce_262 (by decide) ?_
        refine lv_aload_n hx hb dX11_biteOnce_263 rfl (lv_at hl 1 rfl) ?_
        refine mg_43 C hW dX11_biteOnce_264 ?_
        refine lv_imul hx hb dX11_biteOnce_267 ?_
        refine lv_iconst (v := 3) hx hb dX11_biteOnce_268 (by decide) ?_
        refine lv_iadd hx hb dX11_biteOnce_269 ?_
        refine lv_iload_n hx hb dX11_biteOnce_270 rfl (lv_at hl 4 rfl) ?_
        obtain ⟨hin10, hq⟩ := hq
        refine ms_48 C hW hin10 dX11_biteOnce_271 (fun σ_11 H locs eσ_11 hW => ?_)
        replace hq := hq _ eσ_11
        refine lv_aload_n hx hb dX11_biteOnce_272 rfl (lv_at hl 1 rfl) ?_
        refine mg_48 C hW dX11_biteOnce_273 ?_
        refine lv_iconst (v := 5) hx hb dX11_biteOnce_276 (by decide) ?_
        refine lv_aload_n hx hb dX11_biteOnce_277 rfl (lv_at hl 1 rfl) ?_
        refine mg_43 C hW dX11_biteOnce_278 ?_
        refine lv_imul hx hb dX11_biteOnce_281 ?_
        refine lv_iconst (v := 4) hx hb dX11_biteOnce_282 (by decide) ?_
        refine lv_iadd hx hb dX11_biteOnce_283 ?_
        refine lv_iload hx hb dX11_biteOnce_284 (lv_at hl 0 rfl) ?_
        obtain ⟨hin12, hq⟩ := hq
        refine ms_48 C hW hin12 dX11_biteOnce_286 (fun σ_13 H locs eσ_13 hW => ?_)
        replace hq := hq _ eσ_13
        exact wX11_biteOnce_J287 C hRf hRl hret  hW (lv_sub hl [1, 0] rfl) hq
set_option maxHeartbeats 4000000 in
set_option maxRecDepth 100000 in
theorem wX11_biteOnce_J136 (C : CallFix p m c cX11_biteOnce 7 s args lwg RX11) (hRf : 1 ≤ R.frames) (hRl : 22 ≤ R.locals) {P : MS → Prop} (hret : RetV g.1 (mw g) (mty g) A p l e R s m args below meth c 0 0 Q cX11_biteOnce P) {σ : MS} {x1 : Int32} {x2 : Int32} {x3 : Int32} {y0 : Int32} {H : Heap} {locs : List Loc} {ls : Array Slot} (hW : WI g.1 (mw g) (mty g) A s σ H locs) (hl : lv_has ls 7 [(0, .ref g.2.1), (1, .int x1), (2, .int x2), (3, .int x3)]) (hq : qX11_biteOnce_J136  P σ x1 x2 x3 y0) : W p l e R s m args below meth c H locs 0 0 Q (F0 m 136 ls [.int y0]) := by
  have hx := C.1
  have hb := C.2.1
  unfold qX11_biteOnce_J136 at hq
  refine lv_istore (lv' := [(5, .int y0), (0, .ref g.2.1), (1, .int x1), (2, .int x2), (3, .int x3)]) hx hb dX11_biteOnce_136 hl (by decide) rfl (fun ls hl => ?_)
  refine lv_iload_n hx hb dX11_biteOnce_138 rfl (lv_at hl 4 rfl) ?_
  refine lv_iconst (v := 1) hx hb dX11_biteOnce_139 (by decide) ?_
  refine lv_iload_n hx hb dX11_biteOnce_140 rfl (lv_at hl 3 rfl) ?_
  refine lv_iadd hx hb dX11_biteOnce_141 ?_
  refine lv_imul hx hb dX11_biteOnce_142 ?_
  refine lv_topi (fun x6_1 ex6_1 => ?_)
  replace hq := hq _ ex6_1
  refine lv_istore (lv' := [(6, .int x6_1), (5, .int y0), (0, .ref g.2.1), (1, .int x1), (2, .int x2), (3, .int x3)]) hx hb dX11_biteOnce_143 hl (by decide) rfl (fun ls hl => ?_)
  refine lv_aload_n hx hb dX11_biteOnce_145 rfl (lv_at hl 2 rfl) ?_
  refine mg_40 C hW dX11_biteOnce_146 ?_
  refine lv_bipush (v := 20) hx hb dX11_biteOnce_149 (by decide) ?_
  refine lv_icmp_ge (tgt := 161) hx hb dX11_biteOnce_151 (by decide) (fun h => ?_) (fun h => ?_)
  · replace hq := br_pos h hq
    refine lv_iload hx hb dX11_biteOnce_161 (lv_at hl 0 rfl) ?_
    exact wX11_biteOnce_J163 C hRf hRl hret  hW (lv_sub hl [2, 3, 4, 5, 1] rfl) hq
  · replace hq := br_neg h hq
    refine lv_iload hx hb dX11_biteOnce_154 (lv_at hl 0 rfl) ?_
    refine lv_iconst (v := 2) hx hb dX11_biteOnce_156 (by decide) ?_
    refine lv_idiv hx hb dX11_biteOnce_157 (by decide) ?_
    refine lv_goto (tgt := 163) hx hb dX11_biteOnce_158 (by decide) ?_
    exact wX11_biteOnce_J163 C hRf hRl hret  hW (lv_sub hl [2, 3, 4, 5, 1] rfl) hq
set_option maxHeartbeats 4000000 in
set_option maxRecDepth 100000 in
theorem wX11_biteOnce_J107 (C : CallFix p m c cX11_biteOnce 7 s args lwg RX11) (hRf : 1 ≤ R.frames) (hRl : 22 ≤ R.locals) {P : MS → Prop} (hret : RetV g.1 (mw g) (mty g) A p l e R s m args below meth c 0 0 Q cX11_biteOnce P) {σ : MS} {x1 : Int32} {x2 : Int32} {x3 : Int32} {y0 : Int32} {H : Heap} {locs : List Loc} {ls : Array Slot} (hW : WI g.1 (mw g) (mty g) A s σ H locs) (hl : lv_has ls 7 [(0, .ref g.2.1), (1, .int x1), (2, .int x2), (3, .int x3)]) (hq : qX11_biteOnce_J107  P σ x1 x2 x3 y0) : W p l e R s m args below meth c H locs 0 0 Q (F0 m 107 ls [.int y0]) := by
  have hx := C.1
  have hb := C.2.1
  unfold qX11_biteOnce_J107 at hq
  refine lv_istore (lv' := [(4, .int y0), (0, .ref g.2.1), (1, .int x1), (2, .int x2), (3, .int x3)]) hx hb dX11_biteOnce_107 hl (by decide) rfl (fun ls hl => ?_)
  refine lv_iload hx hb dX11_biteOnce_109 (lv_at hl 0 rfl) ?_
  refine lv_if_eq (tgt := 135) hx hb dX11_biteOnce_111 (by decide) (fun h => ?_) (fun h => ?_)
  · replace hq := br_pos h hq
    refine lv_iload_n hx hb dX11_biteOnce_135 rfl (lv_at hl 2 rfl) ?_
    exact wX11_biteOnce_J136 C hRf hRl hret  hW (lv_sub hl [1, 2, 3, 4] rfl) hq
  · replace hq := br_neg h hq
    refine lv_aload_n hx hb dX11_biteOnce_114 rfl (lv_at hl 1 rfl) ?_
    refine mg_8 C hW dX11_biteOnce_115 ?_
    refine lv_aload_n hx hb dX11_biteOnce_118 rfl (lv_at hl 1 rfl) ?_
    refine mg_7 C hW dX11_biteOnce_119 ?_
    refine lv_iload_n hx hb dX11_biteOnce_122 rfl (lv_at hl 2 rfl) ?_
    obtain ⟨hin1, hq⟩ := hq
    refine ma_7 C hW hin1 dX11_biteOnce_123 ?_
    refine lv_iconst (v := 1) hx hb dX11_biteOnce_124 (by decide) ?_
    refine lv_iadd hx hb dX11_biteOnce_125 ?_
    refine lv_aload_n hx hb dX11_biteOnce_126 rfl (lv_at hl 1 rfl) ?_
    refine mg_0 C hW dX11_biteOnce_127 ?_
    obtain ⟨hne, hq⟩ := hq
    refine w_irem hx hb dX11_biteOnce_130 hne ?_
    obtain ⟨hin2, hq⟩ := hq
    refine ma_8 C hW hin2 dX11_biteOnce_131 ?_
    refine lv_goto (tgt := 136) hx hb dX11_biteOnce_132 (by decide) ?_
    exact wX11_biteOnce_J136 C hRf hRl hret  hW (lv_sub hl [1, 2, 3, 4] rfl) hq
set_option maxHeartbeats 4000000 in
set_option maxRecDepth 100000 in
theorem wX11_biteOnce_J106 (C : CallFix p m c cX11_biteOnce 7 s args lwg RX11) (hRf : 1 ≤ R.frames) (hRl : 22 ≤ R.locals) {P : MS → Prop} (hret : RetV g.1 (mw g) (mty g) A p l e R s m args below meth c 0 0 Q cX11_biteOnce P) {σ : MS} {x1 : Int32} {x2 : Int32} {x3 : Int32} {H : Heap} {locs : List Loc} {ls : Array Slot} (hW : WI g.1 (mw g) (mty g) A s σ H locs) (hl : lv_has ls 7 [(0, .ref g.2.1), (1, .int x1), (2, .int x2), (3, .int x3)]) (hq : qX11_biteOnce_J106  P σ x1 x2 x3) : W p l e R s m args below meth c H locs 0 0 Q (F0 m 106 ls []) := by
  have hx := C.1
  have hb := C.2.1
  unfold qX11_biteOnce_J106 at hq
  refine lv_iconst (v := 0) hx hb dX11_biteOnce_106 (by decide) ?_
  exact wX11_biteOnce_J107 C hRf hRl hret  hW hl hq
set_option maxHeartbeats 4000000 in
set_option maxRecDepth 100000 in
theorem wX11_biteOnce_J55 (C : CallFix p m c cX11_biteOnce 7 s args lwg RX11) (hRf : 1 ≤ R.frames) (hRl : 22 ≤ R.locals) {P : MS → Prop} (hret : RetV g.1 (mw g) (mty g) A p l e R s m args below meth c 0 0 Q cX11_biteOnce P) {σ : MS} {x1 : Int32} {x2 : Int32} {y0 : Int32} {H : Heap} {locs : List Loc} {ls : Array Slot} (hW : WI g.1 (mw g) (mty g) A s σ H locs) (hl : lv_has ls 7 [(0, .ref g.2.1), (1, .int x1), (2, .int x2)]) (hq : qX11_biteOnce_J55  P σ x1 x2 y0) : W p l e R s m args below meth c H locs 0 0 Q (F0 m 55 ls [.int y0]) := by
  have hx := C.1
  have hb := C.2.1
  unfold qX11_biteOnce_J55 at hq
  refine lv_istore_n (lv' := [(3, .int y0), (0, .ref g.2.1), (1, .int x1), (2, .int x2)]) hx hb dX11_biteOnce_55 rfl hl (by decide) rfl (fun ls hl => ?_)
  refine lv_aload_n hx hb dX11_biteOnce_56 rfl (lv_at hl 1 rfl) ?_
  refine mg_39 C hW dX11_biteOnce_57 ?_
  refine lv_iload_n hx hb dX11_biteOnce_60 rfl (lv_at hl 3 rfl) ?_
  refine lv_dup2_11 hx hb dX11_biteOnce_61 rfl rfl ?_
  obtain ⟨hin1, hq⟩ := hq
  refine ma_39 C hW hin1 dX11_biteOnce_62 ?_
  refine lv_iload_n hx hb dX11_biteOnce_63 rfl (lv_at hl 0 rfl) ?_
  refine lv_isub hx hb dX11_biteOnce_64 ?_
  refine ms_39 C hW hin1 dX11_biteOnce_65 (fun σ_2 H locs eσ_2 hW => ?_)
  replace hq := hq _ eσ_2
  refine lv_aload_n hx hb dX11_biteOnce_66 rfl (lv_at hl 1 rfl) ?_
  refine mg_46 C hW dX11_biteOnce_67 ?_
  refine lv_iload_n hx hb dX11_biteOnce_70 rfl (lv_at hl 2 rfl) ?_
  refine lv_dup2_11 hx hb dX11_biteOnce_71 rfl rfl ?_
  obtain ⟨hin3, hq⟩ := hq
  refine ma_46 C hW hin3 dX11_biteOnce_72 ?_
  refine lv_iconst (v := 1) hx hb dX11_biteOnce_73 (by decide) ?_
  refine lv_iadd hx hb dX11_biteOnce_74 ?_
  refine ms_46 C hW hin3 dX11_biteOnce_75 (fun σ_4 H locs eσ_4 hW => ?_)
  replace hq := hq _ eσ_4
  refine lv_aload_n hx hb dX11_biteOnce_76 rfl (lv_at hl 1 rfl) ?_
  refine mg_1 C hW dX11_biteOnce_77 ?_
  refine lv_iload_n hx hb dX11_biteOnce_80 rfl (lv_at hl 2 rfl) ?_
  refine ma_1 C hW hin3 dX11_biteOnce_81 ?_
  refine lv_iconst (v := 4) hx hb dX11_biteOnce_82 (by decide) ?_
  refine lv_icmp_ne (tgt := 106) hx hb dX11_biteOnce_83 (by decide) (fun h => ?_) (fun h => ?_)
  · replace hq := br_neg h hq
    exact wX11_biteOnce_J106 C hRf hRl hret  hW (lv_sub hl [1, 2, 3, 0] rfl) hq
  · replace hq := br_pos h hq
    refine lv_aload_n hx hb dX11_biteOnce_86 rfl (lv_at hl 1 rfl) ?_
    refine mg_46 C hW dX11_biteOnce_87 ?_
    refine lv_iload_n hx hb dX11_biteOnce_90 rfl (lv_at hl 2 rfl) ?_
    refine ma_46 C hW hin3 dX11_biteOnce_91 ?_
    refine lv_aload_n hx hb dX11_biteOnce_92 rfl (lv_at hl 1 rfl) ?_
    refine mg_2 C hW dX11_biteOnce_93 ?_
    refine lv_iload_n hx hb dX11_biteOnce_96 rfl (lv_at hl 2 rfl) ?_
    refine ma_2 C hW hin3 dX11_biteOnce_97 ?_
    obtain ⟨hne, hq⟩ := hq
    refine w_irem hx hb dX11_biteOnce_98 hne ?_
    refine (fun (K : ∀ v_5 : Int32, v_5 = ((if (jrem (mgeta σ_4 46 x1) (mgeta σ_4 2 x1)) = 0 then 1 else 0) : Int32) → W p l e R s m args below meth c H locs 0 0 Q (F0 m 107 ls (.int v_5 :: []))) => ?_) ?_
    · refine lv_if_ne (tgt := 106) hx hb dX11_biteOnce_99 (by decide) (fun h99 => ?_) (fun h99 => ?_)
      · refine lv_iconst (v := 0) hx hb dX11_biteOnce_106 (by decide) ?_
        exact K _ (by rw [if_neg h99])
      · refine lv_iconst (v := 1) hx hb dX11_biteOnce_102 (by decide) ?_
        refine lv_goto (tgt := 107) hx hb dX11_biteOnce_103 (by decide) ?_
        exact K _ (by rw [if_pos h99])
    intro v_5 ev_5
    replace hq := hq _ ev_5
    refine lv_istore (lv' := [(4, .int v_5), (3, .int y0), (0, .ref g.2.1), (1, .int x1), (2, .int x2)]) hx hb dX11_biteOnce_107 hl (by decide) rfl (fun ls hl => ?_)
    refine lv_iload hx hb dX11_biteOnce_109 (lv_at hl 0 rfl) ?_
    refine lv_if_eq (tgt := 135) hx hb dX11_biteOnce_111 (by decide) (fun h => ?_) (fun h => ?_)
    · replace hq := br_pos h hq
      refine lv_iload_n hx hb dX11_biteOnce_135 rfl (lv_at hl 3 rfl) ?_
      exact wX11_biteOnce_J136 C hRf hRl hret  hW (lv_sub hl [2, 3, 4, 1] rfl) hq
    · replace hq := br_neg h hq
      refine lv_aload_n hx hb dX11_biteOnce_114 rfl (lv_at hl 2 rfl) ?_
      refine mg_8 C hW dX11_biteOnce_115 ?_
      refine lv_aload_n hx hb dX11_biteOnce_118 rfl (lv_at hl 2 rfl) ?_
      refine mg_7 C hW dX11_biteOnce_119 ?_
      refine lv_iload_n hx hb dX11_biteOnce_122 rfl (lv_at hl 3 rfl) ?_
      refine ma_7 C hW hin3 dX11_biteOnce_123 ?_
      refine lv_iconst (v := 1) hx hb dX11_biteOnce_124 (by decide) ?_
      refine lv_iadd hx hb dX11_biteOnce_125 ?_
      refine lv_aload_n hx hb dX11_biteOnce_126 rfl (lv_at hl 2 rfl) ?_
      refine mg_0 C hW dX11_biteOnce_127 ?_
      obtain ⟨hne, hq⟩ := hq
      refine w_irem hx hb dX11_biteOnce_130 hne ?_
      obtain ⟨hin6, hq⟩ := hq
      refine ma_8 C hW hin6 dX11_biteOnce_131 ?_
      refine lv_goto (tgt := 136) hx hb dX11_biteOnce_132 (by decide) ?_
      exact wX11_biteOnce_J136 C hRf hRl hret  hW (lv_sub hl [2, 3, 4, 1] rfl) hq
set_option maxHeartbeats 4000000 in
set_option maxRecDepth 100000 in
theorem wX11_biteOnce_L10 (C : CallFix p m c cX11_biteOnce 7 s args lwg RX11) (hRf : 1 ≤ R.frames) (hRl : 22 ≤ R.locals) {P : MS → Prop} (hret : RetV g.1 (mw g) (mty g) A p l e R s m args below meth c 0 0 Q cX11_biteOnce P) {e25 : MS → Int32 → Int32 → Prop} (he25 : ∀ (σ : MS) (x1 : Int32) (x2 : Int32) (H : Heap) (locs : List Loc) (ls : Array Slot), WI g.1 (mw g) (mty g) A s σ H locs → lv_has ls 7 [(0, .ref g.2.1), (1, .int x1), (2, .int x2)] → e25 σ x1 x2 → W p l e R s m args below meth c H locs 0 0 Q (F0 m 25 ls [])) : ∀ (n : Nat) (σ : MS) (x1 : Int32) (x2 : Int32) (H : Heap) (locs : List Loc) (ls : Array Slot), WI g.1 (mw g) (mty g) A s σ H locs → lv_has ls 7 [(0, .ref g.2.1), (1, .int x1), (2, .int x2)] → qX11_biteOnce_L10 e25 P n σ x1 x2 → W p l e R s m args below meth c H locs 0 0 Q (F0 m 10 ls []) := by
  have hx := C.1
  have hb := C.2.1
  intro n
  induction n with
  | zero =>
    intro σ x1 x2 H locs ls hW hl hq
    rw [qX11_biteOnce_L10] at hq
    exact hq.elim
  | succ n ih =>
    intro σ x1 x2 H locs ls hW hl hq
    rw [qX11_biteOnce_L10] at hq
    refine lv_aload_n hx hb dX11_biteOnce_10 rfl (lv_at hl 0 rfl) ?_
    refine mg_39 C hW dX11_biteOnce_11 ?_
    refine lv_iload_n hx hb dX11_biteOnce_14 rfl (lv_at hl 2 rfl) ?_
    obtain ⟨hin1, hq⟩ := hq
    refine ma_39 C hW hin1 dX11_biteOnce_15 ?_
    refine lv_if_ne (tgt := 25) hx hb dX11_biteOnce_16 (by decide) (fun h => ?_) (fun h => ?_)
    · replace hq := br_neg h hq
      exact he25 _ _ _ _ _ _ hW hl hq
    · replace hq := br_pos h hq
      obtain ⟨x2_2, ex2_2⟩ : ∃ y : Int32, y = x2 + 1 := ⟨_, rfl⟩
      replace hq := hq _ ex2_2
      refine lv_iinc (v := x2_2) (lv' := [(2, .int x2_2), (0, .ref g.2.1), (1, .int x1)]) hx hb dX11_biteOnce_19 hl (k := 2) rfl (by rw [ex2_2]; rfl) (by decide) rfl (fun ls hl => ?_)
      refine lv_goto (tgt := 10) hx hb dX11_biteOnce_22 (by decide) ?_
      exact ih _ _ _ _ _ _ hW (lv_sub hl [1, 2, 0] rfl) hq
set_option maxHeartbeats 4000000 in
set_option maxRecDepth 100000 in
theorem wX11_biteOnce (C : CallFix p m c cX11_biteOnce 7 s args lwg RX11) (hRf : 1 ≤ R.frames) (hRl : 22 ≤ R.locals) {P : MS → Prop} (hret : RetV g.1 (mw g) (mty g) A p l e R s m args below meth c 0 0 Q cX11_biteOnce P) {σ : MS} {x1 : Int32} {H : Heap} {locs : List Loc} {ls : Array Slot} (hW : WI g.1 (mw g) (mty g) A s σ H locs) (hl : lv_has ls 7 [(0, .ref g.2.1), (1, .int x1)]) (hq : qX11_biteOnce σ x1 P) : W p l e R s m args below meth c H locs 0 0 Q (F0 m 0 ls []) := by
  have hx := C.1
  have hb := C.2.1
  unfold qX11_biteOnce at hq
  refine lv_aload_n hx hb dX11_biteOnce_0 rfl (lv_at hl 0 rfl) ?_
  refine kX11_soupLeft C hW (Nat.le_trans (by decide) hRf) (Nat.le_trans (by decide) hRl) hl.1 (Nat.le_of_ble_eq_true rfl) dX11_biteOnce_1 hq (fun r_2 σ_1 H locs hq hW => ?_)
  refine lv_if_ne (tgt := 8) hx hb dX11_biteOnce_4 (by decide) (fun h => ?_) (fun h => ?_)
  · replace hq := br_neg h hq
    refine lv_iconst (v := 0) hx hb dX11_biteOnce_8 (by decide) ?_
    refine lv_istore_n (lv' := [(2, .int 0), (0, .ref g.2.1), (1, .int x1)]) hx hb dX11_biteOnce_9 rfl hl (by decide) rfl (fun ls hl => ?_)
    obtain ⟨f10, hq⟩ := hq
    refine wX11_biteOnce_L10 C hRf hRl hret ?_ f10 _ _ _ _ _ _ hW (lv_sub hl [1, 2, 0] rfl) hq
    · intro σ_5 x1_3 x2_4 H locs ls hW hl hq
      refine lv_aload_n hx hb dX11_biteOnce_25 rfl (lv_at hl 0 rfl) ?_
      refine mg_5 C hW dX11_biteOnce_26 ?_
      refine lv_iload_n hx hb dX11_biteOnce_29 rfl (lv_at hl 1 rfl) ?_
      obtain ⟨hin6, hq⟩ := hq
      refine ma_5 C hW hin6 dX11_biteOnce_30 ?_
      refine lv_aload_n hx hb dX11_biteOnce_31 rfl (lv_at hl 0 rfl) ?_
      refine mg_39 C hW dX11_biteOnce_32 ?_
      refine lv_iload_n hx hb dX11_biteOnce_35 rfl (lv_at hl 2 rfl) ?_
      obtain ⟨hin7, hq⟩ := hq
      refine ma_39 C hW hin7 dX11_biteOnce_36 ?_
      refine lv_icmp_ge (tgt := 49) hx hb dX11_biteOnce_37 (by decide) (fun h => ?_) (fun h => ?_)
      · replace hq := br_pos h hq
        refine lv_aload_n hx hb dX11_biteOnce_49 rfl (lv_at hl 0 rfl) ?_
        refine mg_39 C hW dX11_biteOnce_50 ?_
        refine lv_iload_n hx hb dX11_biteOnce_53 rfl (lv_at hl 2 rfl) ?_
        refine ma_39 C hW hin7 dX11_biteOnce_54 ?_
        exact wX11_biteOnce_J55 C hRf hRl hret  hW hl hq
      · replace hq := br_neg h hq
        refine lv_aload_n hx hb dX11_biteOnce_40 rfl (lv_at hl 0 rfl) ?_
        refine mg_5 C hW dX11_biteOnce_41 ?_
        refine lv_iload_n hx hb dX11_biteOnce_44 rfl (lv_at hl 1 rfl) ?_
        refine ma_5 C hW hin6 dX11_biteOnce_45 ?_
        refine lv_goto (tgt := 55) hx hb dX11_biteOnce_46 (by decide) ?_
        exact wX11_biteOnce_J55 C hRf hRl hret  hW hl hq
  · replace hq := br_pos h hq
    exact hret _ _ _ _ _ dX11_biteOnce_7 hW hq
set_option maxHeartbeats 4000000 in
set_option maxRecDepth 100000 in
theorem mX11_biteOnce {l : Launch} {g : MG} {σ : MS} {x1 : Int32} {P : MS → Prop} (hq : qX11_biteOnce σ x1 P) (sz : Nat) : Met l yX11_biteOnce (cws yX11_biteOnce cX11_biteOnce 7 none) ({ frames := 1, cells := 0, slots := 0, locals := 22 } : Room) (va_Pc [.ref g.2.1, .int x1] (WP g.1 (mw g) (mty g) σ sz)) (va_Qv P (WB g.1 (mw g) (mty g) σ sz) (va_A (mw g σ) sz)) 0 0 (va_A (mw g σ) sz) :=
  w_enter (by decide) (Nat.le_of_ble_eq_true rfl) (fun p e s m args below meth c ls C hr hk hn hs hW hl => wX11_biteOnce C (Nat.le_refl _) (Nat.le_refl _) (fun pc ls σ H locs hd hW hq => w_vret C hs hr hk hW hd hq) hW hl hq)
set_option maxHeartbeats 4000000 in
set_option maxRecDepth 100000 in
theorem kX11_biteOnce (C : CallFix p m c cc nL s args lwg RX11) {σ : MS} (hW : WI g.1 (mw g) (mty g) A s σ H locs) (hRf : 2 ≤ R.frames) (hRl : 48 ≤ R.locals) (hls : ls.size = nL) (hro : (rest.map fun v => v.category).sum ≤ 8) {x1 : Int32} (hd : decode cc pc = .ok (.invokevirtual 204, 3)) {P : MS → Prop} (hq : qX11_biteOnce σ x1 P) (kk : ∀ (σ1 : MS) (H : Heap) (locs : List Loc), P σ1 → WI g.1 (mw g) (mty g) A s σ1 H locs → W p l e R s m args below meth c H locs 0 0 Q (F0 m (pc + 3) ls rest)) : W p l e R s m args below meth c H locs 0 0 Q (F0 m pc ls (.int x1 :: .ref g.2.1 :: rest)) :=
  w_callv hW (w_runV C hW (mX11_biteOnce hq _) ⟨lwg_at 1221 (by decide +kernel) rfl, lwg_at 74 (by decide +kernel) rfl, lwg_at 1218 (by decide +kernel) rfl⟩ (lwg_at 1220 (by decide +kernel) rfl) (lwg_at 47 (by decide +kernel) rfl) (np := 1) (by decide +kernel) ⟨rfl, rfl⟩ ⟨hRf, hRl⟩ (ci := 12) rfl rfl (q0 := 0) rfl rfl hls rfl hro hd ⟨Nat.zero_le _, Nat.zero_le _⟩) kk
-- X11_biteTurn
set_option maxHeartbeats 4000000 in
set_option maxRecDepth 100000 in
theorem wX11_biteTurn_L71 (C : CallFix p m c cX11_biteTurn 5 s args lwg RX11) (hRf : 2 ≤ R.frames) (hRl : 48 ≤ R.locals) {P : MS → Prop} (hret : RetV g.1 (mw g) (mty g) A p l e R s m args below meth c 0 0 Q cX11_biteTurn P) : ∀ (n : Nat) (σ : MS) (x1 : Int32) (x3 : Int32) (x4 : Int32) (H : Heap) (locs : List Loc) (ls : Array Slot), WI g.1 (mw g) (mty g) A s σ H locs → lv_has ls 5 [(0, .ref g.2.1), (1, .int x1), (3, .int x3), (4, .int x4)] → qX11_biteTurn_L71  P n σ x1 x3 x4 → W p l e R s m args below meth c H locs 0 0 Q (F0 m 71 ls []) := by
  have hx := C.1
  have hb := C.2.1
  intro n
  induction n with
  | zero =>
    intro σ x1 x3 x4 H locs ls hW hl hq
    rw [qX11_biteTurn_L71] at hq
    exact hq.elim
  | succ n ih =>
    intro σ x1 x3 x4 H locs ls hW hl hq
    rw [qX11_biteTurn_L71] at hq
    refine lv_iload hx hb dX11_biteTurn_71 (lv_at hl 3 rfl) ?_
    refine lv_iload_n hx hb dX11_biteTurn_73 rfl (lv_at hl 2 rfl) ?_
    refine lv_icmp_ge (tgt := 88) hx hb dX11_biteTurn_74 (by decide) (fun h => ?_) (fun h => ?_)
    · replace hq := br_pos h hq
      exact hret _ _ _ _ _ dX11_biteTurn_88 hW hq
    · replace hq := br_neg h hq
      refine lv_aload_n hx hb dX11_biteTurn_77 rfl (lv_at hl 0 rfl) ?_
      refine lv_iload_n hx hb dX11_biteTurn_78 rfl (lv_at hl 1 rfl) ?_
      refine kX11_biteOnce C hW (Nat.le_trans (by decide) hRf) (Nat.le_trans (by decide) hRl) hl.1 (Nat.le_of_ble_eq_true rfl) dX11_biteTurn_79 hq (fun σ_1 H locs hq hW => ?_)
      obtain ⟨x4_2, ex4_2⟩ : ∃ y : Int32, y = x4 + 1 := ⟨_, rfl⟩
      replace hq := hq _ ex4_2
      refine lv_iinc (v := x4_2) (lv' := [(4, .int x4_2), (0, .ref g.2.1), (1, .int x1), (3, .int x3)]) hx hb dX11_biteTurn_82 hl (k := 3) rfl (by rw [ex4_2]; rfl) (by decide) rfl (fun ls hl => ?_)
      refine lv_goto (tgt := 71) hx hb dX11_biteTurn_85 (by decide) ?_
      exact ih _ _ _ _ _ _ _ hW (lv_sub hl [1, 2, 3, 0] rfl) hq
set_option maxHeartbeats 4000000 in
set_option maxRecDepth 100000 in
theorem wX11_biteTurn_J41 (C : CallFix p m c cX11_biteTurn 5 s args lwg RX11) (hRf : 2 ≤ R.frames) (hRl : 48 ≤ R.locals) {P : MS → Prop} (hret : RetV g.1 (mw g) (mty g) A p l e R s m args below meth c 0 0 Q cX11_biteTurn P) {σ : MS} {x1 : Int32} {y0 : Int32} {H : Heap} {locs : List Loc} {ls : Array Slot} (hW : WI g.1 (mw g) (mty g) A s σ H locs) (hl : lv_has ls 5 [(0, .ref g.2.1), (1, .int x1)]) (hq : qX11_biteTurn_J41  P σ x1 y0) : W p l e R s m args below meth c H locs 0 0 Q (F0 m 41 ls [.int y0]) := by
  have hx := C.1
  have hb := C.2.1
  unfold qX11_biteTurn_J41 at hq
  refine lv_istore_n (lv' := [(2, .int y0), (0, .ref g.2.1), (1, .int x1)]) hx hb dX11_biteTurn_41 rfl hl (by decide) rfl (fun ls hl => ?_)
  refine lv_iconst (v := 1) hx hb dX11_biteTurn_42 (by decide) ?_
  refine lv_iload_n hx hb dX11_biteTurn_43 rfl (lv_at hl 0 rfl) ?_
  refine (fun (K : ∀ v_1 : Int32, v_1 = ((if y0 = 0 then 0 else 1) : Int32) → W p l e R s m args below meth c H locs 0 0 Q (F0 m 52 ls (.int v_1 :: [.int 1]))) => ?_) ?_
  · refine lv_if_eq (tgt := 51) hx hb dX11_biteTurn_44 (by decide) (fun h44 => ?_) (fun h44 => ?_)
    · refine lv_iconst (v := 0) hx hb dX11_biteTurn_51 (by decide) ?_
      exact K _ (by rw [if_pos h44])
    · refine lv_iconst (v := 1) hx hb dX11_biteTurn_47 (by decide) ?_
      refine lv_goto (tgt := 52) hx hb dX11_biteTurn_48 (by decide) ?_
      exact K _ (by rw [if_neg h44])
  intro v_1 ev_1
  replace hq := hq _ ev_1
  refine lv_iadd hx hb dX11_biteTurn_52 ?_
  refine lv_iload_n hx hb dX11_biteTurn_53 rfl (lv_at hl 2 rfl) ?_
  refine lv_aload_n hx hb dX11_biteTurn_54 rfl (lv_at hl 1 rfl) ?_
  refine mg_37 C hW dX11_biteTurn_55 ?_
  refine (fun (K : ∀ v_2 : Int32, v_2 = ((if x1 = (σ.1 37) then 1 else 0) : Int32) → W p l e R s m args below meth c H locs 0 0 Q (F0 m 66 ls (.int v_2 :: [.int (1 + v_1)]))) => ?_) ?_
  · refine lv_icmp_ne (tgt := 65) hx hb dX11_biteTurn_58 (by decide) (fun h58 => ?_) (fun h58 => ?_)
    · refine lv_iconst (v := 0) hx hb dX11_biteTurn_65 (by decide) ?_
      exact K _ (by rw [if_neg h58])
    · refine lv_iconst (v := 1) hx hb dX11_biteTurn_61 (by decide) ?_
      refine lv_goto (tgt := 66) hx hb dX11_biteTurn_62 (by decide) ?_
      exact K _ (by rw [if_pos h58])
  intro v_2 ev_2
  replace hq := hq _ ev_2
  refine lv_iadd hx hb dX11_biteTurn_66 ?_
  refine lv_topi (fun x3_3 ex3_3 => ?_)
  replace hq := hq _ ex3_3
  refine lv_istore_n (lv' := [(3, .int x3_3), (2, .int y0), (0, .ref g.2.1), (1, .int x1)]) hx hb dX11_biteTurn_67 rfl hl (by decide) rfl (fun ls hl => ?_)
  refine lv_iconst (v := 0) hx hb dX11_biteTurn_68 (by decide) ?_
  refine lv_istore (lv' := [(4, .int 0), (3, .int x3_3), (2, .int y0), (0, .ref g.2.1), (1, .int x1)]) hx hb dX11_biteTurn_69 hl (by decide) rfl (fun ls hl => ?_)
  obtain ⟨f71, hq⟩ := hq
  exact wX11_biteTurn_L71 C hRf hRl hret f71 _ _ _ _ _ _ _ hW (lv_sub hl [3, 4, 1, 0] rfl) hq
set_option maxHeartbeats 4000000 in
set_option maxRecDepth 100000 in
theorem wX11_biteTurn_J40 (C : CallFix p m c cX11_biteTurn 5 s args lwg RX11) (hRf : 2 ≤ R.frames) (hRl : 48 ≤ R.locals) {P : MS → Prop} (hret : RetV g.1 (mw g) (mty g) A p l e R s m args below meth c 0 0 Q cX11_biteTurn P) {σ : MS} {x1 : Int32} {H : Heap} {locs : List Loc} {ls : Array Slot} (hW : WI g.1 (mw g) (mty g) A s σ H locs) (hl : lv_has ls 5 [(0, .ref g.2.1), (1, .int x1)]) (hq : qX11_biteTurn_J40  P σ x1) : W p l e R s m args below meth c H locs 0 0 Q (F0 m 40 ls []) := by
  have hx := C.1
  have hb := C.2.1
  unfold qX11_biteTurn_J40 at hq
  refine lv_iconst (v := 0) hx hb dX11_biteTurn_40 (by decide) ?_
  exact wX11_biteTurn_J41 C hRf hRl hret  hW hl hq
set_option maxHeartbeats 4000000 in
set_option maxRecDepth 100000 in
theorem wX11_biteTurn (C : CallFix p m c cX11_biteTurn 5 s args lwg RX11) (hRf : 2 ≤ R.frames) (hRl : 48 ≤ R.locals) {P : MS → Prop} (hret : RetV g.1 (mw g) (mty g) A p l e R s m args below meth c 0 0 Q cX11_biteTurn P) {σ : MS} {x1 : Int32} {H : Heap} {locs : List Loc} {ls : Array Slot} (hW : WI g.1 (mw g) (mty g) A s σ H locs) (hl : lv_has ls 5 [(0, .ref g.2.1), (1, .int x1)]) (hq : qX11_biteTurn σ x1 P) : W p l e R s m args below meth c H locs 0 0 Q (F0 m 0 ls []) := by
  have hx := C.1
  have hb := C.2.1
  unfold qX11_biteTurn at hq
  refine lv_aload_n hx hb dX11_biteTurn_0 rfl (lv_at hl 0 rfl) ?_
  refine mg_47 C hW dX11_biteTurn_1 ?_
  refine lv_iload_n hx hb dX11_biteTurn_4 rfl (lv_at hl 1 rfl) ?_
  refine lv_dup2_11 hx hb dX11_biteTurn_5 rfl rfl ?_
  obtain ⟨hin1, hq⟩ := hq
  refine ma_47 C hW hin1 dX11_biteTurn_6 ?_
  refine lv_iconst (v := 1) hx hb dX11_biteTurn_7 (by decide) ?_
  refine lv_iadd hx hb dX11_biteTurn_8 ?_
  refine ms_47 C hW hin1 dX11_biteTurn_9 (fun σ_2 H locs eσ_2 hW => ?_)
  replace hq := hq _ eσ_2
  refine lv_aload_n hx hb dX11_biteTurn_10 rfl (lv_at hl 0 rfl) ?_
  refine mg_1 C hW dX11_biteTurn_11 ?_
  refine lv_iload_n hx hb dX11_biteTurn_14 rfl (lv_at hl 1 rfl) ?_
  refine ma_1 C hW hin1 dX11_biteTurn_15 ?_
  refine lv_iconst (v := 3) hx hb dX11_biteTurn_16 (by decide) ?_
  refine lv_icmp_ne (tgt := 40) hx hb dX11_biteTurn_17 (by decide) (fun h => ?_) (fun h => ?_)
  · replace hq := br_neg h hq
    exact wX11_biteTurn_J40 C hRf hRl hret  hW hl hq
  · replace hq := br_pos h hq
    refine lv_aload_n hx hb dX11_biteTurn_20 rfl (lv_at hl 0 rfl) ?_
    refine mg_47 C hW dX11_biteTurn_21 ?_
    refine lv_iload_n hx hb dX11_biteTurn_24 rfl (lv_at hl 1 rfl) ?_
    refine ma_47 C hW hin1 dX11_biteTurn_25 ?_
    refine lv_aload_n hx hb dX11_biteTurn_26 rfl (lv_at hl 0 rfl) ?_
    refine mg_2 C hW dX11_biteTurn_27 ?_
    refine lv_iload_n hx hb dX11_biteTurn_30 rfl (lv_at hl 1 rfl) ?_
    refine ma_2 C hW hin1 dX11_biteTurn_31 ?_
    obtain ⟨hne, hq⟩ := hq
    refine w_irem hx hb dX11_biteTurn_32 hne ?_
    refine (fun (K : ∀ v_3 : Int32, v_3 = ((if (jrem (mgeta σ_2 47 x1) (mgeta σ_2 2 x1)) = 0 then 1 else 0) : Int32) → W p l e R s m args below meth c H locs 0 0 Q (F0 m 41 ls (.int v_3 :: []))) => ?_) ?_
    · refine lv_if_ne (tgt := 40) hx hb dX11_biteTurn_33 (by decide) (fun h33 => ?_) (fun h33 => ?_)
      · refine lv_iconst (v := 0) hx hb dX11_biteTurn_40 (by decide) ?_
        exact K _ (by rw [if_neg h33])
      · refine lv_iconst (v := 1) hx hb dX11_biteTurn_36 (by decide) ?_
        refine lv_goto (tgt := 41) hx hb dX11_biteTurn_37 (by decide) ?_
        exact K _ (by rw [if_pos h33])
    intro v_3 ev_3
    replace hq := hq _ ev_3
    refine lv_istore_n (lv' := [(2, .int v_3), (0, .ref g.2.1), (1, .int x1)]) hx hb dX11_biteTurn_41 rfl hl (by decide) rfl (fun ls hl => ?_)
    refine lv_iconst (v := 1) hx hb dX11_biteTurn_42 (by decide) ?_
    refine lv_iload_n hx hb dX11_biteTurn_43 rfl (lv_at hl 0 rfl) ?_
    refine (fun (K : ∀ v_4 : Int32, v_4 = ((if v_3 = 0 then 0 else 1) : Int32) → W p l e R s m args below meth c H locs 0 0 Q (F0 m 52 ls (.int v_4 :: [.int 1]))) => ?_) ?_
    · refine lv_if_eq (tgt := 51) hx hb dX11_biteTurn_44 (by decide) (fun h44 => ?_) (fun h44 => ?_)
      · refine lv_iconst (v := 0) hx hb dX11_biteTurn_51 (by decide) ?_
        exact K _ (by rw [if_pos h44])
      · refine lv_iconst (v := 1) hx hb dX11_biteTurn_47 (by decide) ?_
        refine lv_goto (tgt := 52) hx hb dX11_biteTurn_48 (by decide) ?_
        exact K _ (by rw [if_neg h44])
    intro v_4 ev_4
    replace hq := hq _ ev_4
    refine lv_iadd hx hb dX11_biteTurn_52 ?_
    refine lv_iload_n hx hb dX11_biteTurn_53 rfl (lv_at hl 2 rfl) ?_
    refine lv_aload_n hx hb dX11_biteTurn_54 rfl (lv_at hl 1 rfl) ?_
    refine mg_37 C hW dX11_biteTurn_55 ?_
    refine (fun (K : ∀ v_5 : Int32, v_5 = ((if x1 = (σ_2.1 37) then 1 else 0) : Int32) → W p l e R s m args below meth c H locs 0 0 Q (F0 m 66 ls (.int v_5 :: [.int (1 + v_4)]))) => ?_) ?_
    · refine lv_icmp_ne (tgt := 65) hx hb dX11_biteTurn_58 (by decide) (fun h58 => ?_) (fun h58 => ?_)
      · refine lv_iconst (v := 0) hx hb dX11_biteTurn_65 (by decide) ?_
        exact K _ (by rw [if_neg h58])
      · refine lv_iconst (v := 1) hx hb dX11_biteTurn_61 (by decide) ?_
        refine lv_goto (tgt := 66) hx hb dX11_biteTurn_62 (by decide) ?_
        exact K _ (by rw [if_pos h58])
    intro v_5 ev_5
    replace hq := hq _ ev_5
    refine lv_iadd hx hb dX11_biteTurn_66 ?_
    refine lv_topi (fun x3_6 ex3_6 => ?_)
    replace hq := hq _ ex3_6
    refine lv_istore_n (lv' := [(3, .int x3_6), (2, .int v_3), (0, .ref g.2.1), (1, .int x1)]) hx hb dX11_biteTurn_67 rfl hl (by decide) rfl (fun ls hl => ?_)
    refine lv_iconst (v := 0) hx hb dX11_biteTurn_68 (by decide) ?_
    refine lv_istore (lv' := [(4, .int 0), (3, .int x3_6), (2, .int v_3), (0, .ref g.2.1), (1, .int x1)]) hx hb dX11_biteTurn_69 hl (by decide) rfl (fun ls hl => ?_)
    obtain ⟨f71, hq⟩ := hq
    exact wX11_biteTurn_L71 C hRf hRl hret f71 _ _ _ _ _ _ _ hW (lv_sub hl [3, 4, 1, 0] rfl) hq
set_option maxHeartbeats 4000000 in
set_option maxRecDepth 100000 in
theorem mX11_biteTurn {l : Launch} {g : MG} {σ : MS} {x1 : Int32} {P : MS → Prop} (hq : qX11_biteTurn σ x1 P) (sz : Nat) : Met l yX11_biteTurn (cws yX11_biteTurn cX11_biteTurn 5 none) ({ frames := 2, cells := 0, slots := 0, locals := 48 } : Room) (va_Pc [.ref g.2.1, .int x1] (WP g.1 (mw g) (mty g) σ sz)) (va_Qv P (WB g.1 (mw g) (mty g) σ sz) (va_A (mw g σ) sz)) 0 0 (va_A (mw g σ) sz) :=
  w_enter (by decide) (Nat.le_of_ble_eq_true rfl) (fun p e s m args below meth c ls C hr hk hn hs hW hl => wX11_biteTurn C (Nat.le_refl _) (Nat.le_refl _) (fun pc ls σ H locs hd hW hq => w_vret C hs hr hk hW hd hq) hW hl hq)
set_option maxHeartbeats 4000000 in
set_option maxRecDepth 100000 in
theorem kX11_biteTurn (C : CallFix p m c cc nL s args lwg RX11) {σ : MS} (hW : WI g.1 (mw g) (mty g) A s σ H locs) (hRf : 3 ≤ R.frames) (hRl : 72 ≤ R.locals) (hls : ls.size = nL) (hro : (rest.map fun v => v.category).sum ≤ 8) {x1 : Int32} (hd : decode cc pc = .ok (.invokevirtual 217, 3)) {P : MS → Prop} (hq : qX11_biteTurn σ x1 P) (kk : ∀ (σ1 : MS) (H : Heap) (locs : List Loc), P σ1 → WI g.1 (mw g) (mty g) A s σ1 H locs → W p l e R s m args below meth c H locs 0 0 Q (F0 m (pc + 3) ls rest)) : W p l e R s m args below meth c H locs 0 0 Q (F0 m pc ls (.int x1 :: .ref g.2.1 :: rest)) :=
  w_callv hW (w_runV C hW (mX11_biteTurn hq _) ⟨lwg_at 1217 (by decide +kernel) rfl, lwg_at 74 (by decide +kernel) rfl, lwg_at 1214 (by decide +kernel) rfl⟩ (lwg_at 1216 (by decide +kernel) rfl) (lwg_at 46 (by decide +kernel) rfl) (np := 1) (by decide +kernel) ⟨rfl, rfl⟩ ⟨hRf, hRl⟩ (ci := 12) rfl rfl (q0 := 0) rfl rfl hls rfl hro hd ⟨Nat.zero_le _, Nat.zero_le _⟩) kk
-- X11_takeBeats
set_option maxHeartbeats 4000000 in
set_option maxRecDepth 100000 in
theorem wX11_takeBeats (C : CallFix p m c cX11_takeBeats 2 s args lwg RX11) (hRf : 0 ≤ R.frames) (hRl : 0 ≤ R.locals) {P : MS → Prop} (hret : RetV g.1 (mw g) (mty g) A p l e R s m args below meth c 0 0 Q cX11_takeBeats P) {σ : MS} {x1 : Int32} {H : Heap} {locs : List Loc} {ls : Array Slot} (hW : WI g.1 (mw g) (mty g) A s σ H locs) (hl : lv_has ls 2 [(0, .ref g.2.1), (1, .int x1)]) (hq : qX11_takeBeats σ x1 P) : W p l e R s m args below meth c H locs 0 0 Q (F0 m 0 ls []) := by
  have hx := C.1
  have hb := C.2.1
  unfold qX11_takeBeats at hq
  refine lv_aload_n hx hb dX11_takeBeats_0 rfl (lv_at hl 0 rfl) ?_
  refine lv_dup hx hb dX11_takeBeats_1 rfl ?_
  refine mg_41 C hW dX11_takeBeats_2 ?_
  refine lv_iconst (v := 1) hx hb dX11_takeBeats_5 (by decide) ?_
  refine lv_iadd hx hb dX11_takeBeats_6 ?_
  refine mp_41 C hW dX11_takeBeats_7 (fun σ_1 H locs eσ_1 hW => ?_)
  replace hq := hq _ eσ_1
  refine lv_aload_n hx hb dX11_takeBeats_10 rfl (lv_at hl 0 rfl) ?_
  refine lv_dup hx hb dX11_takeBeats_11 rfl ?_
  refine mg_42 C hW dX11_takeBeats_12 ?_
  refine lv_iload_n hx hb dX11_takeBeats_15 rfl (lv_at hl 1 rfl) ?_
  refine lv_iadd hx hb dX11_takeBeats_16 ?_
  refine mp_42 C hW dX11_takeBeats_17 (fun σ_2 H locs eσ_2 hW => ?_)
  replace hq := hq _ eσ_2
  refine lv_aload_n hx hb dX11_takeBeats_20 rfl (lv_at hl 0 rfl) ?_
  refine lv_aload_n hx hb dX11_takeBeats_21 rfl (lv_at hl 0 rfl) ?_
  refine mg_40 C hW dX11_takeBeats_22 ?_
  refine lv_iload_n hx hb dX11_takeBeats_25 rfl (lv_at hl 1 rfl) ?_
  refine (fun (K : ∀ v_3 : Int32, v_3 = ((if x1 ≤ (σ_2.1 40) then ((σ_2.1 40) - x1) else 0) : Int32) → W p l e R s m args below meth c H locs 0 0 Q (F0 m 39 ls (.int v_3 :: [.ref g.2.1]))) => ?_) ?_
  · refine lv_icmp_ge (tgt := 33) hx hb dX11_takeBeats_26 (by decide) (fun h26 => ?_) (fun h26 => ?_)
    · refine lv_aload_n hx hb dX11_takeBeats_33 rfl (lv_at hl 0 rfl) ?_
      refine mg_40 C hW dX11_takeBeats_34 ?_
      refine lv_iload_n hx hb dX11_takeBeats_37 rfl (lv_at hl 1 rfl) ?_
      refine lv_isub hx hb dX11_takeBeats_38 ?_
      exact K _ (by rw [if_pos h26])
    · refine lv_iconst (v := 0) hx hb dX11_takeBeats_29 (by decide) ?_
      refine lv_goto (tgt := 39) hx hb dX11_takeBeats_30 (by decide) ?_
      exact K _ (by rw [if_neg h26])
  intro v_3 ev_3
  replace hq := hq _ ev_3
  refine mp_40 C hW dX11_takeBeats_39 (fun σ_4 H locs eσ_4 hW => ?_)
  replace hq := hq _ eσ_4
  exact hret _ _ _ _ _ dX11_takeBeats_42 hW hq
set_option maxHeartbeats 4000000 in
set_option maxRecDepth 100000 in
theorem mX11_takeBeats {l : Launch} {g : MG} {σ : MS} {x1 : Int32} {P : MS → Prop} (hq : qX11_takeBeats σ x1 P) (sz : Nat) : Met l yX11_takeBeats (cws yX11_takeBeats cX11_takeBeats 2 none) ({ frames := 0, cells := 0, slots := 0, locals := 0 } : Room) (va_Pc [.ref g.2.1, .int x1] (WP g.1 (mw g) (mty g) σ sz)) (va_Qv P (WB g.1 (mw g) (mty g) σ sz) (va_A (mw g σ) sz)) 0 0 (va_A (mw g σ) sz) :=
  w_enter (by decide) (Nat.le_of_ble_eq_true rfl) (fun p e s m args below meth c ls C hr hk hn hs hW hl => wX11_takeBeats C (Nat.le_refl _) (Nat.le_refl _) (fun pc ls σ H locs hd hW hq => w_vret C hs hr hk hW hd hq) hW hl hq)
set_option maxHeartbeats 4000000 in
set_option maxRecDepth 100000 in
theorem kX11_takeBeats (C : CallFix p m c cc nL s args lwg RX11) {σ : MS} (hW : WI g.1 (mw g) (mty g) A s σ H locs) (hRf : 1 ≤ R.frames) (hRl : 21 ≤ R.locals) (hls : ls.size = nL) (hro : (rest.map fun v => v.category).sum ≤ 8) {x1 : Int32} (hd : decode cc pc = .ok (.invokevirtual 223, 3)) {P : MS → Prop} (hq : qX11_takeBeats σ x1 P) (kk : ∀ (σ1 : MS) (H : Heap) (locs : List Loc), P σ1 → WI g.1 (mw g) (mty g) A s σ1 H locs → W p l e R s m args below meth c H locs 0 0 Q (F0 m (pc + 3) ls rest)) : W p l e R s m args below meth c H locs 0 0 Q (F0 m pc ls (.int x1 :: .ref g.2.1 :: rest)) :=
  w_callv hW (w_runV C hW (mX11_takeBeats hq _) ⟨lwg_at 1229 (by decide +kernel) rfl, lwg_at 74 (by decide +kernel) rfl, lwg_at 1226 (by decide +kernel) rfl⟩ (lwg_at 1228 (by decide +kernel) rfl) (lwg_at 49 (by decide +kernel) rfl) (np := 1) (by decide +kernel) ⟨rfl, rfl⟩ ⟨hRf, hRl⟩ (ci := 12) rfl rfl (q0 := 0) rfl rfl hls rfl hro hd ⟨Nat.zero_le _, Nat.zero_le _⟩) kk
-- X11_beatsOf
set_option maxHeartbeats 4000000 in
set_option maxRecDepth 100000 in
theorem wX11_beatsOf_J20 (C : CallFix p m c cX11_beatsOf 2 s args lwg RX11) (hRf : 0 ≤ R.frames) (hRl : 0 ≤ R.locals) {P : Int32 → MS → Prop} (hret : RetI g.1 (mw g) (mty g) A p l e R s m args below meth c 0 0 Q cX11_beatsOf P) {σ : MS} {x1 : Int32} {H : Heap} {locs : List Loc} {ls : Array Slot} (hW : WI g.1 (mw g) (mty g) A s σ H locs) (hl : lv_has ls 2 [(0, .ref g.2.1), (1, .int x1)]) (hq : qX11_beatsOf_J20  P σ x1) : W p l e R s m args below meth c H locs 0 0 Q (F0 m 20 ls []) := by
  have hx := C.1
  have hb := C.2.1
  unfold qX11_beatsOf_J20 at hq
  refine lv_aload_n hx hb dX11_beatsOf_20 rfl (lv_at hl 0 rfl) ?_
  refine mg_2 C hW dX11_beatsOf_21 ?_
  refine lv_iload_n hx hb dX11_beatsOf_24 rfl (lv_at hl 1 rfl) ?_
  obtain ⟨hin1, hq⟩ := hq
  refine ma_2 C hW hin1 dX11_beatsOf_25 ?_
  refine lv_goto (tgt := 30) hx hb dX11_beatsOf_26 (by decide) ?_
  exact hret _ _ _ _ _ _ dX11_beatsOf_30 hW hq
set_option maxHeartbeats 4000000 in
set_option maxRecDepth 100000 in
theorem wX11_beatsOf (C : CallFix p m c cX11_beatsOf 2 s args lwg RX11) (hRf : 0 ≤ R.frames) (hRl : 0 ≤ R.locals) {P : Int32 → MS → Prop} (hret : RetI g.1 (mw g) (mty g) A p l e R s m args below meth c 0 0 Q cX11_beatsOf P) {σ : MS} {x1 : Int32} {H : Heap} {locs : List Loc} {ls : Array Slot} (hW : WI g.1 (mw g) (mty g) A s σ H locs) (hl : lv_has ls 2 [(0, .ref g.2.1), (1, .int x1)]) (hq : qX11_beatsOf σ x1 P) : W p l e R s m args below meth c H locs 0 0 Q (F0 m 0 ls []) := by
  have hx := C.1
  have hb := C.2.1
  unfold qX11_beatsOf at hq
  refine lv_aload_n hx hb dX11_beatsOf_0 rfl (lv_at hl 0 rfl) ?_
  refine mg_1 C hW dX11_beatsOf_1 ?_
  refine lv_iload_n hx hb dX11_beatsOf_4 rfl (lv_at hl 1 rfl) ?_
  obtain ⟨hin1, hq⟩ := hq
  refine ma_1 C hW hin1 dX11_beatsOf_5 ?_
  refine lv_iconst (v := 1) hx hb dX11_beatsOf_6 (by decide) ?_
  refine lv_icmp_eq (tgt := 20) hx hb dX11_beatsOf_7 (by decide) (fun h => ?_) (fun h => ?_)
  · replace hq := br_pos h hq
    exact wX11_beatsOf_J20 C hRf hRl hret  hW hl hq
  · replace hq := br_neg h hq
    refine lv_aload_n hx hb dX11_beatsOf_10 rfl (lv_at hl 0 rfl) ?_
    refine mg_1 C hW dX11_beatsOf_11 ?_
    refine lv_iload_n hx hb dX11_beatsOf_14 rfl (lv_at hl 1 rfl) ?_
    refine ma_1 C hW hin1 dX11_beatsOf_15 ?_
    refine lv_iconst (v := 4) hx hb dX11_beatsOf_16 (by decide) ?_
    refine lv_icmp_ne (tgt := 29) hx hb dX11_beatsOf_17 (by decide) (fun h => ?_) (fun h => ?_)
    · replace hq := br_neg h hq
      refine lv_iconst (v := 1) hx hb dX11_beatsOf_29 (by decide) ?_
      exact hret _ _ _ _ _ _ dX11_beatsOf_30 hW hq
    · replace hq := br_pos h hq
      exact wX11_beatsOf_J20 C hRf hRl hret  hW hl hq
set_option maxHeartbeats 4000000 in
set_option maxRecDepth 100000 in
theorem mX11_beatsOf {l : Launch} {g : MG} {σ : MS} {x1 : Int32} {P : Int32 → MS → Prop} (hq : qX11_beatsOf σ x1 P) (sz : Nat) : Met l yX11_beatsOf (cws yX11_beatsOf cX11_beatsOf 2 (some .int)) ({ frames := 0, cells := 0, slots := 0, locals := 0 } : Room) (va_Pc [.ref g.2.1, .int x1] (WP g.1 (mw g) (mty g) σ sz)) (va_Qi P (WB g.1 (mw g) (mty g) σ sz) (va_A (mw g σ) sz)) 0 0 (va_A (mw g σ) sz) :=
  w_enter (by decide) (Nat.le_of_ble_eq_true rfl) (fun p e s m args below meth c ls C hr hk hn hs hW hl => wX11_beatsOf C (Nat.le_refl _) (Nat.le_refl _) (fun pc ls v σ H locs hd hW hq => w_iret C hs hr hk hW hd hq) hW hl hq)
set_option maxHeartbeats 4000000 in
set_option maxRecDepth 100000 in
theorem kX11_beatsOf (C : CallFix p m c cc nL s args lwg RX11) {σ : MS} (hW : WI g.1 (mw g) (mty g) A s σ H locs) (hRf : 1 ≤ R.frames) (hRl : 21 ≤ R.locals) (hls : ls.size = nL) (hro : (rest.map fun v => v.category).sum ≤ 8) {x1 : Int32} (hd : decode cc pc = .ok (.invokevirtual 220, 3)) {P : Int32 → MS → Prop} (hq : qX11_beatsOf σ x1 P) (kk : ∀ (r : Int32) (σ1 : MS) (H : Heap) (locs : List Loc), P r σ1 → WI g.1 (mw g) (mty g) A s σ1 H locs → W p l e R s m args below meth c H locs 0 0 Q (F0 m (pc + 3) ls (.int r :: rest))) : W p l e R s m args below meth c H locs 0 0 Q (F0 m pc ls (.int x1 :: .ref g.2.1 :: rest)) :=
  w_calli hW (w_runV C hW (mX11_beatsOf hq _) ⟨lwg_at 1225 (by decide +kernel) rfl, lwg_at 74 (by decide +kernel) rfl, lwg_at 1222 (by decide +kernel) rfl⟩ (lwg_at 1224 (by decide +kernel) rfl) (lwg_at 48 (by decide +kernel) rfl) (np := 1) (by decide +kernel) ⟨rfl, rfl⟩ ⟨hRf, hRl⟩ (ci := 12) rfl rfl (q0 := 0) rfl rfl hls rfl hro hd ⟨Nat.zero_le _, Nat.zero_le _⟩) kk
end
