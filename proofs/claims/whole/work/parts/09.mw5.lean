section
variable {p : Program} {l : Launch} {e : Env} {R : Room} {s : State} {m : MethodId} {args : Array Value} {below : List Frame} {meth : Method} {c : Code} {H : Heap} {locs : List Loc} {cells slots : Nat} {Q : State → Prop}
variable {cc : ByteArray} {pc : Nat} {ls : Array Slot} {rest : List Value} {own : String} {nL : Nat}
variable {g : MG} {A : Nat → Prop}
-- X11_digestDay
set_option maxHeartbeats 4000000 in
set_option maxRecDepth 100000 in
theorem wX11_digestDay_J105 (C : CallFix p m c cX11_digestDay 4 s args lwg RX11) (hRf : 0 ≤ R.frames) (hRl : 0 ≤ R.locals) {P : Int32 → MS → Prop} (hret : RetI g.1 (mw g) (mty g) A p l e R s m args below meth c 0 0 Q cX11_digestDay P) {k4 : MS → Int32 → Int32 → Prop} (hk4 : ∀ (σ : MS) (x1 : Int32) (x2 : Int32) (H : Heap) (locs : List Loc) (ls : Array Slot), WI g.1 (mw g) (mty g) A s σ H locs → lv_has ls 4 [(0, .ref g.2.1), (1, .int x1), (2, .int x2)] → k4 σ x1 x2 → W p l e R s m args below meth c H locs 0 0 Q (F0 m 4 ls [])) {σ : MS} {x1 : Int32} {x2 : Int32} {H : Heap} {locs : List Loc} {ls : Array Slot} (hW : WI g.1 (mw g) (mty g) A s σ H locs) (hl : lv_has ls 4 [(0, .ref g.2.1), (1, .int x1), (2, .int x2)]) (hq : qX11_digestDay_J105 k4 P σ x1 x2) : W p l e R s m args below meth c H locs 0 0 Q (F0 m 105 ls []) := by
  have hx := C.1
  have hb := C.2.1
  unfold qX11_digestDay_J105 at hq
  obtain ⟨x2_1, ex2_1⟩ : ∃ y : Int32, y = x2 + 1 := ⟨_, rfl⟩
  replace hq := hq _ ex2_1
  refine lv_iinc (v := x2_1) (lv' := [(2, .int x2_1), (0, .ref g.2.1), (1, .int x1)]) hx hb dX11_digestDay_105 hl (k := 2) rfl (by rw [ex2_1]; rfl) (by decide) rfl (fun ls hl => ?_)
  refine lv_goto (tgt := 4) hx hb dX11_digestDay_108 (by decide) ?_
  exact hk4 _ _ _ _ _ _ hW (lv_sub hl [1, 2, 0] rfl) hq
set_option maxHeartbeats 4000000 in
set_option maxRecDepth 100000 in
theorem wX11_digestDay_J85 (C : CallFix p m c cX11_digestDay 4 s args lwg RX11) (hRf : 0 ≤ R.frames) (hRl : 0 ≤ R.locals) {P : Int32 → MS → Prop} (hret : RetI g.1 (mw g) (mty g) A p l e R s m args below meth c 0 0 Q cX11_digestDay P) {k4 : MS → Int32 → Int32 → Prop} (hk4 : ∀ (σ : MS) (x1 : Int32) (x2 : Int32) (H : Heap) (locs : List Loc) (ls : Array Slot), WI g.1 (mw g) (mty g) A s σ H locs → lv_has ls 4 [(0, .ref g.2.1), (1, .int x1), (2, .int x2)] → k4 σ x1 x2 → W p l e R s m args below meth c H locs 0 0 Q (F0 m 4 ls [])) {σ : MS} {x1 : Int32} {x2 : Int32} {y0 : Int32} {y1 : Int32} {H : Heap} {locs : List Loc} {ls : Array Slot} (hW : WI g.1 (mw g) (mty g) A s σ H locs) (hl : lv_has ls 4 [(0, .ref g.2.1), (1, .int x1), (2, .int x2)]) (hq : qX11_digestDay_J85 k4 P σ x1 x2 y0 y1) : W p l e R s m args below meth c H locs 0 0 Q (F0 m 85 ls [.int y0, .int y1, .ref (g.2.2.1 38)]) := by
  have hx := C.1
  have hb := C.2.1
  unfold qX11_digestDay_J85 at hq
  obtain ⟨hin1, hq⟩ := hq
  refine ms_38 C hW hin1 dX11_digestDay_85 (fun σ_2 H locs eσ_2 hW => ?_)
  replace hq := hq _ eσ_2
  refine lv_iload_n hx hb dX11_digestDay_86 rfl (lv_at hl 1 rfl) ?_
  refine lv_aload_n hx hb dX11_digestDay_87 rfl (lv_at hl 0 rfl) ?_
  refine mg_38 C hW dX11_digestDay_88 ?_
  refine lv_iload_n hx hb dX11_digestDay_91 rfl (lv_at hl 2 rfl) ?_
  obtain ⟨hin3, hq⟩ := hq
  refine ma_38 C hW hin3 dX11_digestDay_92 ?_
  refine (fun (K : ∀ v_4 : Int32, v_4 = ((if 0 ≤ (mgeta σ_2 38 x2) then 0 else (jshl 1 x2)) : Int32) → W p l e R s m args below meth c H locs 0 0 Q (F0 m 103 ls (.int v_4 :: [.int x1]))) => ?_) ?_
  · refine lv_if_ge (tgt := 102) hx hb dX11_digestDay_93 (by decide) (fun h93 => ?_) (fun h93 => ?_)
    · refine lv_iconst (v := 0) hx hb dX11_digestDay_102 (by decide) ?_
      exact K _ (by rw [if_pos h93])
    · refine lv_iconst (v := 1) hx hb dX11_digestDay_96 (by decide) ?_
      refine lv_iload_n hx hb dX11_digestDay_97 rfl (lv_at hl 2 rfl) ?_
      refine w_ishl hx hb dX11_digestDay_98 ?_
      refine lv_goto (tgt := 103) hx hb dX11_digestDay_99 (by decide) ?_
      exact K _ (by rw [if_neg h93])
  intro v_4 ev_4
  replace hq := hq _ ev_4
  refine lv_ior hx hb dX11_digestDay_103 ?_
  refine lv_topi (fun x1_5 ex1_5 => ?_)
  replace hq := hq _ ex1_5
  refine lv_istore_n (lv' := [(1, .int x1_5), (0, .ref g.2.1), (2, .int x2)]) hx hb dX11_digestDay_104 rfl hl (by decide) rfl (fun ls hl => ?_)
  exact wX11_digestDay_J105 C hRf hRl hret hk4 hW (lv_sub hl [1, 0, 2] rfl) hq
set_option maxHeartbeats 4000000 in
set_option maxRecDepth 100000 in
theorem wX11_digestDay_J57 (C : CallFix p m c cX11_digestDay 4 s args lwg RX11) (hRf : 0 ≤ R.frames) (hRl : 0 ≤ R.locals) {P : Int32 → MS → Prop} (hret : RetI g.1 (mw g) (mty g) A p l e R s m args below meth c 0 0 Q cX11_digestDay P) {k4 : MS → Int32 → Int32 → Prop} (hk4 : ∀ (σ : MS) (x1 : Int32) (x2 : Int32) (H : Heap) (locs : List Loc) (ls : Array Slot), WI g.1 (mw g) (mty g) A s σ H locs → lv_has ls 4 [(0, .ref g.2.1), (1, .int x1), (2, .int x2)] → k4 σ x1 x2 → W p l e R s m args below meth c H locs 0 0 Q (F0 m 4 ls [])) {σ : MS} {x1 : Int32} {x2 : Int32} {y0 : Int32} {H : Heap} {locs : List Loc} {ls : Array Slot} (hW : WI g.1 (mw g) (mty g) A s σ H locs) (hl : lv_has ls 4 [(0, .ref g.2.1), (1, .int x1), (2, .int x2)]) (hq : qX11_digestDay_J57 k4 P σ x1 x2 y0) : W p l e R s m args below meth c H locs 0 0 Q (F0 m 57 ls [.int y0]) := by
  have hx := C.1
  have hb := C.2.1
  unfold qX11_digestDay_J57 at hq
  refine lv_istore_n (lv' := [(3, .int y0), (0, .ref g.2.1), (1, .int x1), (2, .int x2)]) hx hb dX11_digestDay_57 rfl hl (by decide) rfl (fun ls hl => ?_)
  refine lv_aload_n hx hb dX11_digestDay_58 rfl (lv_at hl 1 rfl) ?_
  refine mg_38 C hW dX11_digestDay_59 ?_
  refine lv_iload_n hx hb dX11_digestDay_62 rfl (lv_at hl 3 rfl) ?_
  refine lv_iload_n hx hb dX11_digestDay_63 rfl (lv_at hl 0 rfl) ?_
  refine lv_aload_n hx hb dX11_digestDay_64 rfl (lv_at hl 1 rfl) ?_
  refine mg_3 C hW dX11_digestDay_65 ?_
  refine lv_iload_n hx hb dX11_digestDay_68 rfl (lv_at hl 3 rfl) ?_
  obtain ⟨hin1, hq⟩ := hq
  refine ma_3 C hW hin1 dX11_digestDay_69 ?_
  refine lv_icmp_ge (tgt := 77) hx hb dX11_digestDay_70 (by decide) (fun h => ?_) (fun h => ?_)
  · replace hq := br_pos h hq
    refine lv_iload_n hx hb dX11_digestDay_77 rfl (lv_at hl 0 rfl) ?_
    refine lv_aload_n hx hb dX11_digestDay_78 rfl (lv_at hl 1 rfl) ?_
    refine mg_3 C hW dX11_digestDay_79 ?_
    refine lv_iload_n hx hb dX11_digestDay_82 rfl (lv_at hl 3 rfl) ?_
    refine ma_3 C hW hin1 dX11_digestDay_83 ?_
    refine lv_isub hx hb dX11_digestDay_84 ?_
    exact wX11_digestDay_J85 C hRf hRl hret hk4 hW (lv_sub hl [1, 2, 3] rfl) hq
  · replace hq := br_neg h hq
    refine lv_iconst (v := (-1)) hx hb dX11_digestDay_73 (by decide) ?_
    refine lv_goto (tgt := 85) hx hb dX11_digestDay_74 (by decide) ?_
    exact wX11_digestDay_J85 C hRf hRl hret hk4 hW (lv_sub hl [1, 2, 3] rfl) hq
set_option maxHeartbeats 4000000 in
set_option maxRecDepth 100000 in
theorem wX11_digestDay_L4 (C : CallFix p m c cX11_digestDay 4 s args lwg RX11) (hRf : 0 ≤ R.frames) (hRl : 0 ≤ R.locals) {P : Int32 → MS → Prop} (hret : RetI g.1 (mw g) (mty g) A p l e R s m args below meth c 0 0 Q cX11_digestDay P) : ∀ (n : Nat) (σ : MS) (x1 : Int32) (x2 : Int32) (H : Heap) (locs : List Loc) (ls : Array Slot), WI g.1 (mw g) (mty g) A s σ H locs → lv_has ls 4 [(0, .ref g.2.1), (1, .int x1), (2, .int x2)] → qX11_digestDay_L4  P n σ x1 x2 → W p l e R s m args below meth c H locs 0 0 Q (F0 m 4 ls []) := by
  have hx := C.1
  have hb := C.2.1
  intro n
  induction n with
  | zero =>
    intro σ x1 x2 H locs ls hW hl hq
    rw [qX11_digestDay_L4] at hq
    exact hq.elim
  | succ n ih =>
    intro σ x1 x2 H locs ls hW hl hq
    rw [qX11_digestDay_L4] at hq
    refine lv_iload_n hx hb dX11_digestDay_4 rfl (lv_at hl 2 rfl) ?_
    refine lv_aload_n hx hb dX11_digestDay_5 rfl (lv_at hl 0 rfl) ?_
    refine mg_0 C hW dX11_digestDay_6 ?_
    refine lv_icmp_ge (tgt := 111) hx hb dX11_digestDay_9 (by decide) (fun h => ?_) (fun h => ?_)
    · replace hq := br_pos h hq
      refine lv_iload_n hx hb dX11_digestDay_111 rfl (lv_at hl 1 rfl) ?_
      exact hret _ _ _ _ _ _ dX11_digestDay_112 hW hq
    · replace hq := br_neg h hq
      refine lv_aload_n hx hb dX11_digestDay_12 rfl (lv_at hl 0 rfl) ?_
      refine mg_38 C hW dX11_digestDay_13 ?_
      refine lv_iload_n hx hb dX11_digestDay_16 rfl (lv_at hl 2 rfl) ?_
      obtain ⟨hin1, hq⟩ := hq
      refine ma_38 C hW hin1 dX11_digestDay_17 ?_
      refine lv_if_lt (tgt := 105) hx hb dX11_digestDay_18 (by decide) (fun h => ?_) (fun h => ?_)
      · replace hq := br_pos h hq
        exact wX11_digestDay_J105 C hRf hRl hret ih hW hl hq
      · replace hq := br_neg h hq
        refine lv_aload_n hx hb dX11_digestDay_21 rfl (lv_at hl 0 rfl) ?_
        refine mg_38 C hW dX11_digestDay_22 ?_
        refine lv_iload_n hx hb dX11_digestDay_25 rfl (lv_at hl 2 rfl) ?_
        refine ma_38 C hW hin1 dX11_digestDay_26 ?_
        refine lv_aload_n hx hb dX11_digestDay_27 rfl (lv_at hl 0 rfl) ?_
        refine mg_45 C hW dX11_digestDay_28 ?_
        refine lv_iload_n hx hb dX11_digestDay_31 rfl (lv_at hl 2 rfl) ?_
        refine ma_45 C hW hin1 dX11_digestDay_32 ?_
        refine lv_iadd hx hb dX11_digestDay_33 ?_
        refine lv_bipush (v := 99) hx hb dX11_digestDay_34 (by decide) ?_
        refine lv_icmp_le (tgt := 44) hx hb dX11_digestDay_36 (by decide) (fun h => ?_) (fun h => ?_)
        · replace hq := br_pos h hq
          refine lv_aload_n hx hb dX11_digestDay_44 rfl (lv_at hl 0 rfl) ?_
          refine mg_38 C hW dX11_digestDay_45 ?_
          refine lv_iload_n hx hb dX11_digestDay_48 rfl (lv_at hl 2 rfl) ?_
          refine ma_38 C hW hin1 dX11_digestDay_49 ?_
          refine lv_aload_n hx hb dX11_digestDay_50 rfl (lv_at hl 0 rfl) ?_
          refine mg_45 C hW dX11_digestDay_51 ?_
          refine lv_iload_n hx hb dX11_digestDay_54 rfl (lv_at hl 2 rfl) ?_
          refine ma_45 C hW hin1 dX11_digestDay_55 ?_
          refine lv_iadd hx hb dX11_digestDay_56 ?_
          exact wX11_digestDay_J57 C hRf hRl hret ih hW hl hq
        · replace hq := br_neg h hq
          refine lv_bipush (v := 99) hx hb dX11_digestDay_39 (by decide) ?_
          refine lv_goto (tgt := 57) hx hb dX11_digestDay_41 (by decide) ?_
          exact wX11_digestDay_J57 C hRf hRl hret ih hW hl hq
set_option maxHeartbeats 4000000 in
set_option maxRecDepth 100000 in
theorem wX11_digestDay (C : CallFix p m c cX11_digestDay 4 s args lwg RX11) (hRf : 0 ≤ R.frames) (hRl : 0 ≤ R.locals) {P : Int32 → MS → Prop} (hret : RetI g.1 (mw g) (mty g) A p l e R s m args below meth c 0 0 Q cX11_digestDay P) {σ : MS} {H : Heap} {locs : List Loc} {ls : Array Slot} (hW : WI g.1 (mw g) (mty g) A s σ H locs) (hl : lv_has ls 4 [(0, .ref g.2.1)]) (hq : qX11_digestDay σ  P) : W p l e R s m args below meth c H locs 0 0 Q (F0 m 0 ls []) := by
  have hx := C.1
  have hb := C.2.1
  unfold qX11_digestDay at hq
  refine lv_iconst (v := 0) hx hb dX11_digestDay_0 (by decide) ?_
  refine lv_istore_n (lv' := [(1, .int 0), (0, .ref g.2.1)]) hx hb dX11_digestDay_1 rfl hl (by decide) rfl (fun ls hl => ?_)
  refine lv_iconst (v := 0) hx hb dX11_digestDay_2 (by decide) ?_
  refine lv_istore_n (lv' := [(2, .int 0), (1, .int 0), (0, .ref g.2.1)]) hx hb dX11_digestDay_3 rfl hl (by decide) rfl (fun ls hl => ?_)
  obtain ⟨f4, hq⟩ := hq
  exact wX11_digestDay_L4 C hRf hRl hret f4 _ _ _ _ _ _ hW (lv_sub hl [2, 1, 0] rfl) hq
set_option maxHeartbeats 4000000 in
set_option maxRecDepth 100000 in
theorem mX11_digestDay {l : Launch} {g : MG} {σ : MS} {P : Int32 → MS → Prop} (hq : qX11_digestDay σ  P) (sz : Nat) : Met l yX11_digestDay (cws yX11_digestDay cX11_digestDay 4 (some .int)) ({ frames := 0, cells := 0, slots := 0, locals := 0 } : Room) (va_Pc [.ref g.2.1] (WP g.1 (mw g) (mty g) σ sz)) (va_Qi P (WB g.1 (mw g) (mty g) σ sz) (va_A (mw g σ) sz)) 0 0 (va_A (mw g σ) sz) :=
  w_enter (by decide) (Nat.le_of_ble_eq_true rfl) (fun p e s m args below meth c ls C hr hk hn hs hW hl => wX11_digestDay C (Nat.le_refl _) (Nat.le_refl _) (fun pc ls v σ H locs hd hW hq => w_iret C hs hr hk hW hd hq) hW hl hq)
set_option maxHeartbeats 4000000 in
set_option maxRecDepth 100000 in
theorem kX11_digestDay (C : CallFix p m c cc nL s args lwg RX11) {σ : MS} (hW : WI g.1 (mw g) (mty g) A s σ H locs) (hRf : 1 ≤ R.frames) (hRl : 23 ≤ R.locals) (hls : ls.size = nL) (hro : (rest.map fun v => v.category).sum ≤ 8) (hd : decode cc pc = .ok (.invokevirtual 260, 3)) {P : Int32 → MS → Prop} (hq : qX11_digestDay σ  P) (kk : ∀ (r : Int32) (σ1 : MS) (H : Heap) (locs : List Loc), P r σ1 → WI g.1 (mw g) (mty g) A s σ1 H locs → W p l e R s m args below meth c H locs 0 0 Q (F0 m (pc + 3) ls (.int r :: rest))) : W p l e R s m args below meth c H locs 0 0 Q (F0 m pc ls (.ref g.2.1 :: rest)) :=
  w_calli hW (w_runV C hW (mX11_digestDay hq _) ⟨lwg_at 1278 (by decide +kernel) rfl, lwg_at 74 (by decide +kernel) rfl, lwg_at 1275 (by decide +kernel) rfl⟩ (lwg_at 1277 (by decide +kernel) rfl) (lwg_at 54 (by decide +kernel) rfl) (np := 0) (by decide +kernel) ⟨rfl, rfl⟩ ⟨hRf, hRl⟩ (ci := 12) rfl rfl (q0 := 0) rfl rfl hls rfl hro hd ⟨Nat.zero_le _, Nat.zero_le _⟩) kk
-- X11_live
set_option maxHeartbeats 4000000 in
set_option maxRecDepth 100000 in
theorem wX11_live_L39 (C : CallFix p m c cX11_live 6 s args lwg RX11) (hRf : 6 ≤ R.frames) (hRl : 132 ≤ R.locals) {P : Int32 → MS → Prop} (hret : RetI g.1 (mw g) (mty g) A p l e R s m args below meth c 0 0 Q cX11_live P) : ∀ (n : Nat) (σ : MS) (x4 : Int32) (x5 : Int32) (H : Heap) (locs : List Loc) (ls : Array Slot), WI g.1 (mw g) (mty g) A s σ H locs → lv_has ls 6 [(0, .ref g.2.1), (4, .int x4), (5, .int x5)] → qX11_live_L39  P n σ x4 x5 → W p l e R s m args below meth c H locs 0 0 Q (F0 m 39 ls []) := by
  have hx := C.1
  have hb := C.2.1
  intro n
  induction n with
  | zero =>
    intro σ x4 x5 H locs ls hW hl hq
    rw [qX11_live_L39] at hq
    exact hq.elim
  | succ n ih =>
    intro σ x4 x5 H locs ls hW hl hq
    rw [qX11_live_L39] at hq
    refine lv_iload hx hb dX11_live_39 (lv_at hl 2 rfl) ?_
    refine lv_bipush (v := 10) hx hb dX11_live_41 (by decide) ?_
    refine lv_icmp_ge (tgt := 66) hx hb dX11_live_43 (by decide) (fun h => ?_) (fun h => ?_)
    · replace hq := br_pos h hq
      refine lv_iload hx hb dX11_live_66 (lv_at hl 1 rfl) ?_
      exact hret _ _ _ _ _ _ dX11_live_68 hW hq
    · replace hq := br_neg h hq
      refine lv_aload_n hx hb dX11_live_46 rfl (lv_at hl 0 rfl) ?_
      refine mg_6 C hW dX11_live_47 ?_
      refine lv_iload hx hb dX11_live_50 (lv_at hl 2 rfl) ?_
      refine lv_aload_n hx hb dX11_live_52 rfl (lv_at hl 0 rfl) ?_
      refine mg_38 C hW dX11_live_53 ?_
      refine lv_iload hx hb dX11_live_56 (lv_at hl 2 rfl) ?_
      obtain ⟨hin1, hq⟩ := hq
      refine ma_38 C hW hin1 dX11_live_58 ?_
      refine ms_6 C hW hin1 dX11_live_59 (fun σ_2 H locs eσ_2 hW => ?_)
      replace hq := hq _ eσ_2
      obtain ⟨x5_3, ex5_3⟩ : ∃ y : Int32, y = x5 + 1 := ⟨_, rfl⟩
      replace hq := hq _ ex5_3
      refine lv_iinc (v := x5_3) (lv' := [(5, .int x5_3), (0, .ref g.2.1), (4, .int x4)]) hx hb dX11_live_60 hl (k := 2) rfl (by rw [ex5_3]; rfl) (by decide) rfl (fun ls hl => ?_)
      refine lv_goto (tgt := 39) hx hb dX11_live_63 (by decide) ?_
      exact ih _ _ _ _ _ _ hW (lv_sub hl [1, 2, 0] rfl) hq
set_option maxHeartbeats 4000000 in
set_option maxRecDepth 100000 in
theorem wX11_live (C : CallFix p m c cX11_live 6 s args lwg RX11) (hRf : 6 ≤ R.frames) (hRl : 132 ≤ R.locals) {P : Int32 → MS → Prop} (hret : RetI g.1 (mw g) (mty g) A p l e R s m args below meth c 0 0 Q cX11_live P) {σ : MS} {x1 : Int32} {x2 : Int32} {x3 : Int32} {H : Heap} {locs : List Loc} {ls : Array Slot} (hW : WI g.1 (mw g) (mty g) A s σ H locs) (hl : lv_has ls 6 [(0, .ref g.2.1), (1, .int x1), (2, .int x2), (3, .int x3)]) (hq : qX11_live σ x1 x2 x3 P) : W p l e R s m args below meth c H locs 0 0 Q (F0 m 0 ls []) := by
  have hx := C.1
  have hb := C.2.1
  unfold qX11_live at hq
  refine lv_aload_n hx hb dX11_live_0 rfl (lv_at hl 0 rfl) ?_
  refine lv_iload_n hx hb dX11_live_1 rfl (lv_at hl 1 rfl) ?_
  refine lv_iload_n hx hb dX11_live_2 rfl (lv_at hl 2 rfl) ?_
  refine kX11_isDay C hW (Nat.le_trans (by decide) hRf) (Nat.le_trans (by decide) hRl) hl.1 (Nat.le_of_ble_eq_true rfl) dX11_live_3 hq (fun r_2 σ_1 H locs hq hW => ?_)
  refine lv_if_ne (tgt := 12) hx hb dX11_live_6 (by decide) (fun h => ?_) (fun h => ?_)
  · replace hq := br_neg h hq
    refine lv_aload_n hx hb dX11_live_12 rfl (lv_at hl 0 rfl) ?_
    refine lv_iload_n hx hb dX11_live_13 rfl (lv_at hl 3 rfl) ?_
    refine kX11_areFasts C hW (Nat.le_trans (by decide) hRf) (Nat.le_trans (by decide) hRl) hl.1 (Nat.le_of_ble_eq_true rfl) dX11_live_14 hq (fun r_4 σ_3 H locs hq hW => ?_)
    refine lv_if_ne (tgt := 23) hx hb dX11_live_17 (by decide) (fun h => ?_) (fun h => ?_)
    · replace hq := br_neg h hq
      refine lv_aload_n hx hb dX11_live_23 rfl (lv_at hl 0 rfl) ?_
      refine lv_iload_n hx hb dX11_live_24 rfl (lv_at hl 1 rfl) ?_
      refine lv_iload_n hx hb dX11_live_25 rfl (lv_at hl 2 rfl) ?_
      refine lv_iload_n hx hb dX11_live_26 rfl (lv_at hl 3 rfl) ?_
      refine kX11_layDay C hW (Nat.le_trans (by decide) hRf) (Nat.le_trans (by decide) hRl) hl.1 (Nat.le_of_ble_eq_true rfl) dX11_live_27 hq (fun σ_5 H locs hq hW => ?_)
      refine lv_aload_n hx hb dX11_live_30 rfl (lv_at hl 0 rfl) ?_
      refine kX11_digestDay C hW (Nat.le_trans (by decide) hRf) (Nat.le_trans (by decide) hRl) hl.1 (Nat.le_of_ble_eq_true rfl) dX11_live_31 hq (fun r_7 σ_6 H locs hq hW => ?_)
      refine lv_istore (lv' := [(4, .int r_7), (0, .ref g.2.1), (1, .int x1), (2, .int x2), (3, .int x3)]) hx hb dX11_live_34 hl (by decide) rfl (fun ls hl => ?_)
      refine lv_iconst (v := 0) hx hb dX11_live_36 (by decide) ?_
      refine lv_istore (lv' := [(5, .int 0), (4, .int r_7), (0, .ref g.2.1), (1, .int x1), (2, .int x2), (3, .int x3)]) hx hb dX11_live_37 hl (by decide) rfl (fun ls hl => ?_)
      obtain ⟨f39, hq⟩ := hq
      exact wX11_live_L39 C hRf hRl hret f39 _ _ _ _ _ _ hW (lv_sub hl [2, 1, 0] rfl) hq
    · replace hq := br_pos h hq
      refine lv_bipush (v := (-102)) hx hb dX11_live_20 (by decide) ?_
      exact hret _ _ _ _ _ _ dX11_live_22 hW hq
  · replace hq := br_pos h hq
    refine lv_bipush (v := (-101)) hx hb dX11_live_9 (by decide) ?_
    exact hret _ _ _ _ _ _ dX11_live_11 hW hq
set_option maxHeartbeats 4000000 in
set_option maxRecDepth 100000 in
theorem mX11_live {l : Launch} {g : MG} {σ : MS} {x1 : Int32} {x2 : Int32} {x3 : Int32} {P : Int32 → MS → Prop} (hq : qX11_live σ x1 x2 x3 P) (sz : Nat) : Met l yX11_live (cws yX11_live cX11_live 6 (some .int)) ({ frames := 6, cells := 0, slots := 0, locals := 132 } : Room) (va_Pc [.ref g.2.1, .int x1, .int x2, .int x3] (WP g.1 (mw g) (mty g) σ sz)) (va_Qi P (WB g.1 (mw g) (mty g) σ sz) (va_A (mw g σ) sz)) 0 0 (va_A (mw g σ) sz) :=
  w_enter (by decide) (Nat.le_of_ble_eq_true rfl) (fun p e s m args below meth c ls C hr hk hn hs hW hl => wX11_live C (Nat.le_refl _) (Nat.le_refl _) (fun pc ls v σ H locs hd hW hq => w_iret C hs hr hk hW hd hq) hW hl hq)
-- X11_starves
set_option maxHeartbeats 4000000 in
set_option maxRecDepth 100000 in
theorem wX11_starves_L46 (C : CallFix p m c cX11_starves 6 s args lwg RX11) (hRf : 5 ≤ R.frames) (hRl : 109 ≤ R.locals) {P : Int32 → MS → Prop} (hret : RetI g.1 (mw g) (mty g) A p l e R s m args below meth c 0 0 Q cX11_starves P) : ∀ (n : Nat) (σ : MS) (x3 : Int32) (x4 : Int32) (x5 : Int32) (H : Heap) (locs : List Loc) (ls : Array Slot), WI g.1 (mw g) (mty g) A s σ H locs → lv_has ls 6 [(0, .ref g.2.1), (3, .int x3), (4, .int x4), (5, .int x5)] → qX11_starves_L46  P n σ x3 x4 x5 → W p l e R s m args below meth c H locs 0 0 Q (F0 m 46 ls []) := by
  have hx := C.1
  have hb := C.2.1
  intro n
  induction n with
  | zero =>
    intro σ x3 x4 x5 H locs ls hW hl hq
    rw [qX11_starves_L46] at hq
    exact hq.elim
  | succ n ih =>
    intro σ x3 x4 x5 H locs ls hW hl hq
    rw [qX11_starves_L46] at hq
    refine lv_iload hx hb dX11_starves_46 (lv_at hl 3 rfl) ?_
    refine lv_bipush (v := 60) hx hb dX11_starves_48 (by decide) ?_
    refine lv_icmp_gt (tgt := 93) hx hb dX11_starves_50 (by decide) (fun h => ?_) (fun h => ?_)
    · replace hq := br_pos h hq
      refine lv_iconst (v := (-1)) hx hb dX11_starves_93 (by decide) ?_
      exact hret _ _ _ _ _ _ dX11_starves_94 hW hq
    · replace hq := br_neg h hq
      refine lv_aload_n hx hb dX11_starves_53 rfl (lv_at hl 0 rfl) ?_
      refine lv_iload hx hb dX11_starves_54 (lv_at hl 2 rfl) ?_
      refine lv_ldc (own := RX11) (v := 268435456) hx hb C.2.2.2.1 (C.2.2.2.2 _ (lwg_at 1182 (by decide +kernel) rfl)) dX11_starves_56 ?_
      refine kX11_goDay C hW (Nat.le_trans (by decide) hRf) (Nat.le_trans (by decide) hRl) hl.1 (Nat.le_of_ble_eq_true rfl) dX11_starves_58 hq (fun σ_1 H locs hq hW => ?_)
      refine lv_aload_n hx hb dX11_starves_61 rfl (lv_at hl 0 rfl) ?_
      refine kX11_digestDay C hW (Nat.le_trans (by decide) hRf) (Nat.le_trans (by decide) hRl) hl.1 (Nat.le_of_ble_eq_true rfl) dX11_starves_62 hq (fun r_3 σ_2 H locs hq hW => ?_)
      refine lv_iload_n hx hb dX11_starves_65 rfl (lv_at hl 1 rfl) ?_
      refine kX11_has C hW (Nat.le_trans (by decide) hRf) (Nat.le_trans (by decide) hRl) hl.1 (Nat.le_of_ble_eq_true rfl) dX11_starves_66 hq (fun r_5 σ_4 H locs hq hW => ?_)
      refine lv_if_eq (tgt := 75) hx hb dX11_starves_69 (by decide) (fun h => ?_) (fun h => ?_)
      · replace hq := br_pos h hq
        refine lv_aload_n hx hb dX11_starves_75 rfl (lv_at hl 0 rfl) ?_
        refine lv_iload hx hb dX11_starves_76 (lv_at hl 2 rfl) ?_
        refine lv_aload_n hx hb dX11_starves_78 rfl (lv_at hl 0 rfl) ?_
        refine mg_32 C hW dX11_starves_79 ?_
        refine kX11_onward C hW (Nat.le_trans (by decide) hRf) (Nat.le_trans (by decide) hRl) hl.1 (Nat.le_of_ble_eq_true rfl) dX11_starves_82 hq (fun r_7 σ_6 H locs hq hW => ?_)
        refine lv_istore (lv' := [(4, .int r_7), (0, .ref g.2.1), (3, .int x3), (5, .int x5)]) hx hb dX11_starves_85 hl (by decide) rfl (fun ls hl => ?_)
        obtain ⟨x5_8, ex5_8⟩ : ∃ y : Int32, y = x5 + 1 := ⟨_, rfl⟩
        replace hq := hq _ ex5_8
        refine lv_iinc (v := x5_8) (lv' := [(5, .int x5_8), (4, .int r_7), (0, .ref g.2.1), (3, .int x3)]) hx hb dX11_starves_87 hl (k := 3) rfl (by rw [ex5_8]; rfl) (by decide) rfl (fun ls hl => ?_)
        refine lv_goto (tgt := 46) hx hb dX11_starves_90 (by decide) ?_
        exact ih _ _ _ _ _ _ _ hW (lv_sub hl [2, 3, 1, 0] rfl) hq
      · replace hq := br_neg h hq
        refine lv_iload hx hb dX11_starves_72 (lv_at hl 3 rfl) ?_
        exact hret _ _ _ _ _ _ dX11_starves_74 hW hq
set_option maxHeartbeats 4000000 in
set_option maxRecDepth 100000 in
theorem wX11_starves (C : CallFix p m c cX11_starves 6 s args lwg RX11) (hRf : 5 ≤ R.frames) (hRl : 109 ≤ R.locals) {P : Int32 → MS → Prop} (hret : RetI g.1 (mw g) (mty g) A p l e R s m args below meth c 0 0 Q cX11_starves P) {σ : MS} {x1 : Int32} {x2 : Int32} {x3 : Int32} {H : Heap} {locs : List Loc} {ls : Array Slot} (hW : WI g.1 (mw g) (mty g) A s σ H locs) (hl : lv_has ls 6 [(0, .ref g.2.1), (1, .int x1), (2, .int x2), (3, .int x3)]) (hq : qX11_starves σ x1 x2 x3 P) : W p l e R s m args below meth c H locs 0 0 Q (F0 m 0 ls []) := by
  have hx := C.1
  have hb := C.2.1
  unfold qX11_starves at hq
  refine lv_aload_n hx hb dX11_starves_0 rfl (lv_at hl 0 rfl) ?_
  refine lv_iload_n hx hb dX11_starves_1 rfl (lv_at hl 1 rfl) ?_
  refine lv_iload_n hx hb dX11_starves_2 rfl (lv_at hl 2 rfl) ?_
  refine kX11_isDay C hW (Nat.le_trans (by decide) hRf) (Nat.le_trans (by decide) hRl) hl.1 (Nat.le_of_ble_eq_true rfl) dX11_starves_3 hq (fun r_2 σ_1 H locs hq hW => ?_)
  refine lv_if_eq (tgt := 17) hx hb dX11_starves_6 (by decide) (fun h => ?_) (fun h => ?_)
  · replace hq := br_pos h hq
    refine lv_bipush (v := (-101)) hx hb dX11_starves_17 (by decide) ?_
    exact hret _ _ _ _ _ _ dX11_starves_19 hW hq
  · replace hq := br_neg h hq
    refine lv_aload_n hx hb dX11_starves_9 rfl (lv_at hl 0 rfl) ?_
    refine lv_iload_n hx hb dX11_starves_10 rfl (lv_at hl 3 rfl) ?_
    refine kX11_isHermit C hW (Nat.le_trans (by decide) hRf) (Nat.le_trans (by decide) hRl) hl.1 (Nat.le_of_ble_eq_true rfl) dX11_starves_11 hq (fun r_4 σ_3 H locs hq hW => ?_)
    refine lv_if_ne (tgt := 20) hx hb dX11_starves_14 (by decide) (fun h => ?_) (fun h => ?_)
    · replace hq := br_neg h hq
      refine lv_aload_n hx hb dX11_starves_20 rfl (lv_at hl 0 rfl) ?_
      refine mg_6 C hW dX11_starves_21 ?_
      refine lv_iload_n hx hb dX11_starves_24 rfl (lv_at hl 3 rfl) ?_
      obtain ⟨hin5, hq⟩ := hq
      refine ma_6 C hW hin5 dX11_starves_25 ?_
      refine lv_if_ge (tgt := 31) hx hb dX11_starves_26 (by decide) (fun h => ?_) (fun h => ?_)
      · replace hq := br_pos h hq
        refine lv_aload_n hx hb dX11_starves_31 rfl (lv_at hl 0 rfl) ?_
        refine lv_iload_n hx hb dX11_starves_32 rfl (lv_at hl 1 rfl) ?_
        refine kX11_useVow C hW (Nat.le_trans (by decide) hRf) (Nat.le_trans (by decide) hRl) hl.1 (Nat.le_of_ble_eq_true rfl) dX11_starves_33 hq (fun σ_6 H locs hq hW => ?_)
        refine lv_aload_n hx hb dX11_starves_36 rfl (lv_at hl 0 rfl) ?_
        refine kX11_useStores C hW (Nat.le_trans (by decide) hRf) (Nat.le_trans (by decide) hRl) hl.1 (Nat.le_of_ble_eq_true rfl) dX11_starves_37 hq (fun σ_7 H locs hq hW => ?_)
        refine lv_iload_n hx hb dX11_starves_40 rfl (lv_at hl 2 rfl) ?_
        refine lv_istore (lv' := [(4, .int x2), (0, .ref g.2.1), (1, .int x1), (2, .int x2), (3, .int x3)]) hx hb dX11_starves_41 hl (by decide) rfl (fun ls hl => ?_)
        refine lv_iconst (v := 1) hx hb dX11_starves_43 (by decide) ?_
        refine lv_istore (lv' := [(5, .int 1), (4, .int x2), (0, .ref g.2.1), (1, .int x1), (2, .int x2), (3, .int x3)]) hx hb dX11_starves_44 hl (by decide) rfl (fun ls hl => ?_)
        obtain ⟨f46, hq⟩ := hq
        exact wX11_starves_L46 C hRf hRl hret f46 _ _ _ _ _ _ _ hW (lv_sub hl [2, 5, 1, 0] rfl) hq
      · replace hq := br_neg h hq
        refine lv_iconst (v := 0) hx hb dX11_starves_29 (by decide) ?_
        exact hret _ _ _ _ _ _ dX11_starves_30 hW hq
    · replace hq := br_pos h hq
      refine lv_bipush (v := (-101)) hx hb dX11_starves_17 (by decide) ?_
      exact hret _ _ _ _ _ _ dX11_starves_19 hW hq
set_option maxHeartbeats 4000000 in
set_option maxRecDepth 100000 in
theorem mX11_starves {l : Launch} {g : MG} {σ : MS} {x1 : Int32} {x2 : Int32} {x3 : Int32} {P : Int32 → MS → Prop} (hq : qX11_starves σ x1 x2 x3 P) (sz : Nat) : Met l yX11_starves (cws yX11_starves cX11_starves 6 (some .int)) ({ frames := 5, cells := 0, slots := 0, locals := 109 } : Room) (va_Pc [.ref g.2.1, .int x1, .int x2, .int x3] (WP g.1 (mw g) (mty g) σ sz)) (va_Qi P (WB g.1 (mw g) (mty g) σ sz) (va_A (mw g σ) sz)) 0 0 (va_A (mw g σ) sz) :=
  w_enter (by decide) (Nat.le_of_ble_eq_true rfl) (fun p e s m args below meth c ls C hr hk hn hs hW hl => wX11_starves C (Nat.le_refl _) (Nat.le_refl _) (fun pc ls v σ H locs hd hW hq => w_iret C hs hr hk hW hd hq) hW hl hq)
-- X11_sittersFrom
set_option maxHeartbeats 4000000 in
set_option maxRecDepth 100000 in
theorem wX11_sittersFrom_L5 (C : CallFix p m c cX11_sittersFrom 5 s args lwg RX11) (hRf : 0 ≤ R.frames) (hRl : 0 ≤ R.locals) {P : Int32 → MS → Prop} (hret : RetI g.1 (mw g) (mty g) A p l e R s m args below meth c 0 0 Q cX11_sittersFrom P) : ∀ (n : Nat) (σ : MS) (x1 : Int32) (x2 : Int32) (x3 : Int32) (x4 : Int32) (H : Heap) (locs : List Loc) (ls : Array Slot), WI g.1 (mw g) (mty g) A s σ H locs → lv_has ls 5 [(0, .ref g.2.1), (1, .int x1), (2, .int x2), (3, .int x3), (4, .int x4)] → qX11_sittersFrom_L5  P n σ x1 x2 x3 x4 → W p l e R s m args below meth c H locs 0 0 Q (F0 m 5 ls []) := by
  have hx := C.1
  have hb := C.2.1
  intro n
  induction n with
  | zero =>
    intro σ x1 x2 x3 x4 H locs ls hW hl hq
    rw [qX11_sittersFrom_L5] at hq
    exact hq.elim
  | succ n ih =>
    intro σ x1 x2 x3 x4 H locs ls hW hl hq
    rw [qX11_sittersFrom_L5] at hq
    refine lv_iload hx hb dX11_sittersFrom_5 (lv_at hl 4 rfl) ?_
    refine lv_iload_n hx hb dX11_sittersFrom_7 rfl (lv_at hl 2 rfl) ?_
    refine lv_icmp_ge (tgt := 36) hx hb dX11_sittersFrom_8 (by decide) (fun h => ?_) (fun h => ?_)
    · replace hq := br_pos h hq
      refine lv_iload_n hx hb dX11_sittersFrom_36 rfl (lv_at hl 3 rfl) ?_
      exact hret _ _ _ _ _ _ dX11_sittersFrom_37 hW hq
    · replace hq := br_neg h hq
      refine lv_iload_n hx hb dX11_sittersFrom_11 rfl (lv_at hl 3 rfl) ?_
      refine lv_iconst (v := 1) hx hb dX11_sittersFrom_12 (by decide) ?_
      refine lv_aload_n hx hb dX11_sittersFrom_13 rfl (lv_at hl 0 rfl) ?_
      refine mg_8 C hW dX11_sittersFrom_14 ?_
      refine lv_iload_n hx hb dX11_sittersFrom_17 rfl (lv_at hl 1 rfl) ?_
      refine lv_iload hx hb dX11_sittersFrom_18 (lv_at hl 4 rfl) ?_
      refine lv_iadd hx hb dX11_sittersFrom_20 ?_
      refine lv_aload_n hx hb dX11_sittersFrom_21 rfl (lv_at hl 0 rfl) ?_
      refine mg_0 C hW dX11_sittersFrom_22 ?_
      obtain ⟨hne, hq⟩ := hq
      refine w_irem hx hb dX11_sittersFrom_25 hne ?_
      obtain ⟨hin1, hq⟩ := hq
      refine ma_8 C hW hin1 dX11_sittersFrom_26 ?_
      refine w_ishl hx hb dX11_sittersFrom_27 ?_
      refine lv_ior hx hb dX11_sittersFrom_28 ?_
      refine lv_topi (fun x3_2 ex3_2 => ?_)
      replace hq := hq _ ex3_2
      refine lv_istore_n (lv' := [(3, .int x3_2), (0, .ref g.2.1), (1, .int x1), (2, .int x2), (4, .int x4)]) hx hb dX11_sittersFrom_29 rfl hl (by decide) rfl (fun ls hl => ?_)
      obtain ⟨x4_3, ex4_3⟩ : ∃ y : Int32, y = x4 + 1 := ⟨_, rfl⟩
      replace hq := hq _ ex4_3
      refine lv_iinc (v := x4_3) (lv' := [(4, .int x4_3), (3, .int x3_2), (0, .ref g.2.1), (1, .int x1), (2, .int x2)]) hx hb dX11_sittersFrom_30 hl (k := 4) rfl (by rw [ex4_3]; rfl) (by decide) rfl (fun ls hl => ?_)
      refine lv_goto (tgt := 5) hx hb dX11_sittersFrom_33 (by decide) ?_
      exact ih _ _ _ _ _ _ _ _ hW (lv_sub hl [2, 3, 4, 1, 0] rfl) hq
set_option maxHeartbeats 4000000 in
set_option maxRecDepth 100000 in
theorem wX11_sittersFrom (C : CallFix p m c cX11_sittersFrom 5 s args lwg RX11) (hRf : 0 ≤ R.frames) (hRl : 0 ≤ R.locals) {P : Int32 → MS → Prop} (hret : RetI g.1 (mw g) (mty g) A p l e R s m args below meth c 0 0 Q cX11_sittersFrom P) {σ : MS} {x1 : Int32} {x2 : Int32} {H : Heap} {locs : List Loc} {ls : Array Slot} (hW : WI g.1 (mw g) (mty g) A s σ H locs) (hl : lv_has ls 5 [(0, .ref g.2.1), (1, .int x1), (2, .int x2)]) (hq : qX11_sittersFrom σ x1 x2 P) : W p l e R s m args below meth c H locs 0 0 Q (F0 m 0 ls []) := by
  have hx := C.1
  have hb := C.2.1
  unfold qX11_sittersFrom at hq
  refine lv_iconst (v := 0) hx hb dX11_sittersFrom_0 (by decide) ?_
  refine lv_istore_n (lv' := [(3, .int 0), (0, .ref g.2.1), (1, .int x1), (2, .int x2)]) hx hb dX11_sittersFrom_1 rfl hl (by decide) rfl (fun ls hl => ?_)
  refine lv_iconst (v := 0) hx hb dX11_sittersFrom_2 (by decide) ?_
  refine lv_istore (lv' := [(4, .int 0), (3, .int 0), (0, .ref g.2.1), (1, .int x1), (2, .int x2)]) hx hb dX11_sittersFrom_3 hl (by decide) rfl (fun ls hl => ?_)
  obtain ⟨f5, hq⟩ := hq
  exact wX11_sittersFrom_L5 C hRf hRl hret f5 _ _ _ _ _ _ _ _ hW (lv_sub hl [2, 3, 4, 1, 0] rfl) hq
set_option maxHeartbeats 4000000 in
set_option maxRecDepth 100000 in
theorem mX11_sittersFrom {l : Launch} {g : MG} {σ : MS} {x1 : Int32} {x2 : Int32} {P : Int32 → MS → Prop} (hq : qX11_sittersFrom σ x1 x2 P) (sz : Nat) : Met l yX11_sittersFrom (cws yX11_sittersFrom cX11_sittersFrom 5 (some .int)) ({ frames := 0, cells := 0, slots := 0, locals := 0 } : Room) (va_Pc [.ref g.2.1, .int x1, .int x2] (WP g.1 (mw g) (mty g) σ sz)) (va_Qi P (WB g.1 (mw g) (mty g) σ sz) (va_A (mw g σ) sz)) 0 0 (va_A (mw g σ) sz) :=
  w_enter (by decide) (Nat.le_of_ble_eq_true rfl) (fun p e s m args below meth c ls C hr hk hn hs hW hl => wX11_sittersFrom C (Nat.le_refl _) (Nat.le_refl _) (fun pc ls v σ H locs hd hW hq => w_iret C hs hr hk hW hd hq) hW hl hq)
set_option maxHeartbeats 4000000 in
set_option maxRecDepth 100000 in
theorem kX11_sittersFrom (C : CallFix p m c cc nL s args lwg RX11) {σ : MS} (hW : WI g.1 (mw g) (mty g) A s σ H locs) (hRf : 1 ≤ R.frames) (hRl : 24 ≤ R.locals) (hls : ls.size = nL) (hro : (rest.map fun v => v.category).sum ≤ 8) {x1 : Int32} {x2 : Int32} (hd : decode cc pc = .ok (.invokevirtual 263, 3)) {P : Int32 → MS → Prop} (hq : qX11_sittersFrom σ x1 x2 P) (kk : ∀ (r : Int32) (σ1 : MS) (H : Heap) (locs : List Loc), P r σ1 → WI g.1 (mw g) (mty g) A s σ1 H locs → W p l e R s m args below meth c H locs 0 0 Q (F0 m (pc + 3) ls (.int r :: rest))) : W p l e R s m args below meth c H locs 0 0 Q (F0 m pc ls (.int x2 :: .int x1 :: .ref g.2.1 :: rest)) :=
  w_calli hW (w_runV C hW (mX11_sittersFrom hq _) ⟨lwg_at 1294 (by decide +kernel) rfl, lwg_at 74 (by decide +kernel) rfl, lwg_at 1291 (by decide +kernel) rfl⟩ (lwg_at 1293 (by decide +kernel) rfl) (lwg_at 56 (by decide +kernel) rfl) (np := 2) (by decide +kernel) ⟨rfl, rfl⟩ ⟨hRf, hRl⟩ (ci := 12) rfl rfl (q0 := 0) rfl rfl hls rfl hro hd ⟨Nat.zero_le _, Nat.zero_le _⟩) kk
-- X11_areFed
set_option maxHeartbeats 4000000 in
set_option maxRecDepth 100000 in
theorem wX11_areFed_L18 (C : CallFix p m c cX11_areFed 8 s args lwg RX11) (hRf : 5 ≤ R.frames) (hRl : 109 ≤ R.locals) {P : Int32 → MS → Prop} (hret : RetZ g.1 (mw g) (mty g) A p l e R s m args below meth c 0 0 Q cX11_areFed P) : ∀ (n : Nat) (σ : MS) (x3 : Int32) (x4 : Int32) (x5 : Int32) (x6 : Int32) (x7 : Int32) (H : Heap) (locs : List Loc) (ls : Array Slot), WI g.1 (mw g) (mty g) A s σ H locs → lv_has ls 8 [(0, .ref g.2.1), (3, .int x3), (4, .int x4), (5, .int x5), (6, .int x6), (7, .int x7)] → qX11_areFed_L18  P n σ x3 x4 x5 x6 x7 → W p l e R s m args below meth c H locs 0 0 Q (F0 m 18 ls []) := by
  have hx := C.1
  have hb := C.2.1
  intro n
  induction n with
  | zero =>
    intro σ x3 x4 x5 x6 x7 H locs ls hW hl hq
    rw [qX11_areFed_L18] at hq
    exact hq.elim
  | succ n ih =>
    intro σ x3 x4 x5 x6 x7 H locs ls hW hl hq
    rw [qX11_areFed_L18] at hq
    refine lv_iload hx hb dX11_areFed_18 (lv_at hl 5 rfl) ?_
    refine lv_iload_n hx hb dX11_areFed_20 rfl (lv_at hl 1 rfl) ?_
    refine lv_icmp_ge (tgt := 84) hx hb dX11_areFed_21 (by decide) (fun h => ?_) (fun h => ?_)
    · replace hq := br_pos h hq
      refine lv_iload hx hb dX11_areFed_84 (lv_at hl 4 rfl) ?_
      obtain ⟨hib, hq⟩ := hq
      exact hret _ _ _ _ _ _ dX11_areFed_86 hW hib hq
    · replace hq := br_neg h hq
      refine lv_iload hx hb dX11_areFed_24 (lv_at hl 4 rfl) ?_
      refine lv_if_eq (tgt := 84) hx hb dX11_areFed_26 (by decide) (fun h => ?_) (fun h => ?_)
      · replace hq := br_pos h hq
        refine lv_iload hx hb dX11_areFed_84 (lv_at hl 4 rfl) ?_
        obtain ⟨hib, hq⟩ := hq
        exact hret _ _ _ _ _ _ dX11_areFed_86 hW hib hq
      · replace hq := br_neg h hq
        refine lv_aload_n hx hb dX11_areFed_29 rfl (lv_at hl 0 rfl) ?_
        refine lv_aload_n hx hb dX11_areFed_30 rfl (lv_at hl 0 rfl) ?_
        refine lv_iload hx hb dX11_areFed_31 (lv_at hl 5 rfl) ?_
        refine lv_iload hx hb dX11_areFed_33 (lv_at hl 2 rfl) ?_
        refine lv_imul hx hb dX11_areFed_35 ?_
        refine lv_iload hx hb dX11_areFed_36 (lv_at hl 2 rfl) ?_
        refine kX11_sittersFrom C hW (Nat.le_trans (by decide) hRf) (Nat.le_trans (by decide) hRl) hl.1 (Nat.le_of_ble_eq_true rfl) dX11_areFed_38 hq (fun r_2 σ_1 H locs hq hW => ?_)
        refine mp_36 C hW dX11_areFed_41 (fun σ_3 H locs eσ_3 hW => ?_)
        replace hq := hq _ eσ_3
        refine lv_aload_n hx hb dX11_areFed_44 rfl (lv_at hl 0 rfl) ?_
        refine lv_iload hx hb dX11_areFed_45 (lv_at hl 3 rfl) ?_
        refine lv_ldc (own := RX11) (v := 268435456) hx hb C.2.2.2.1 (C.2.2.2.2 _ (lwg_at 1182 (by decide +kernel) rfl)) dX11_areFed_47 ?_
        refine kX11_goDay C hW (Nat.le_trans (by decide) hRf) (Nat.le_trans (by decide) hRl) hl.1 (Nat.le_of_ble_eq_true rfl) dX11_areFed_49 hq (fun σ_4 H locs hq hW => ?_)
        refine lv_aload_n hx hb dX11_areFed_52 rfl (lv_at hl 0 rfl) ?_
        refine kX11_digestDay C hW (Nat.le_trans (by decide) hRf) (Nat.le_trans (by decide) hRl) hl.1 (Nat.le_of_ble_eq_true rfl) dX11_areFed_53 hq (fun r_6 σ_5 H locs hq hW => ?_)
        refine (fun (K : ∀ v_7 : Int32, v_7 = ((if r_6 = 0 then 1 else 0) : Int32) → W p l e R s m args below meth c H locs 0 0 Q (F0 m 64 ls (.int v_7 :: []))) => ?_) ?_
        · refine lv_if_ne (tgt := 63) hx hb dX11_areFed_56 (by decide) (fun h56 => ?_) (fun h56 => ?_)
          · refine lv_iconst (v := 0) hx hb dX11_areFed_63 (by decide) ?_
            exact K _ (by rw [if_neg h56])
          · refine lv_iconst (v := 1) hx hb dX11_areFed_59 (by decide) ?_
            refine lv_goto (tgt := 64) hx hb dX11_areFed_60 (by decide) ?_
            exact K _ (by rw [if_pos h56])
        intro v_7 ev_7
        replace hq := hq _ ev_7
        refine lv_istore (lv' := [(6, .int v_7), (0, .ref g.2.1), (3, .int x3), (4, .int x4), (5, .int x5), (7, .int x7)]) hx hb dX11_areFed_64 hl (by decide) rfl (fun ls hl => ?_)
        refine lv_aload_n hx hb dX11_areFed_66 rfl (lv_at hl 1 rfl) ?_
        refine lv_iload hx hb dX11_areFed_67 (lv_at hl 4 rfl) ?_
        refine lv_aload_n hx hb dX11_areFed_69 rfl (lv_at hl 1 rfl) ?_
        refine mg_32 C hW dX11_areFed_70 ?_
        refine kX11_onward C hW (Nat.le_trans (by decide) hRf) (Nat.le_trans (by decide) hRl) hl.1 (Nat.le_of_ble_eq_true rfl) dX11_areFed_73 hq (fun r_9 σ_8 H locs hq hW => ?_)
        refine lv_istore (lv' := [(5, .int r_9), (6, .int v_7), (0, .ref g.2.1), (3, .int x3), (4, .int x4), (7, .int x7)]) hx hb dX11_areFed_76 hl (by decide) rfl (fun ls hl => ?_)
        obtain ⟨x7_10, ex7_10⟩ : ∃ y : Int32, y = x7 + 1 := ⟨_, rfl⟩
        replace hq := hq _ ex7_10
        refine lv_iinc (v := x7_10) (lv' := [(7, .int x7_10), (5, .int r_9), (6, .int v_7), (0, .ref g.2.1), (3, .int x3), (4, .int x4)]) hx hb dX11_areFed_78 hl (k := 5) rfl (by rw [ex7_10]; rfl) (by decide) rfl (fun ls hl => ?_)
        refine lv_goto (tgt := 18) hx hb dX11_areFed_81 (by decide) ?_
        exact ih _ _ _ _ _ _ _ _ _ hW (lv_sub hl [3, 4, 5, 1, 2, 0] rfl) hq
set_option maxHeartbeats 4000000 in
set_option maxRecDepth 100000 in
theorem wX11_areFed (C : CallFix p m c cX11_areFed 8 s args lwg RX11) (hRf : 5 ≤ R.frames) (hRl : 109 ≤ R.locals) {P : Int32 → MS → Prop} (hret : RetZ g.1 (mw g) (mty g) A p l e R s m args below meth c 0 0 Q cX11_areFed P) {σ : MS} {x1 : Int32} {x2 : Int32} {x3 : Int32} {x4 : Int32} {H : Heap} {locs : List Loc} {ls : Array Slot} (hW : WI g.1 (mw g) (mty g) A s σ H locs) (hl : lv_has ls 8 [(0, .ref g.2.1), (1, .int x1), (2, .int x2), (3, .int x3), (4, .int x4)]) (hq : qX11_areFed σ x1 x2 x3 x4 P) : W p l e R s m args below meth c H locs 0 0 Q (F0 m 0 ls []) := by
  have hx := C.1
  have hb := C.2.1
  unfold qX11_areFed at hq
  refine lv_aload_n hx hb dX11_areFed_0 rfl (lv_at hl 0 rfl) ?_
  refine lv_iload_n hx hb dX11_areFed_1 rfl (lv_at hl 1 rfl) ?_
  refine kX11_useVow C hW (Nat.le_trans (by decide) hRf) (Nat.le_trans (by decide) hRl) hl.1 (Nat.le_of_ble_eq_true rfl) dX11_areFed_2 hq (fun σ_1 H locs hq hW => ?_)
  refine lv_aload_n hx hb dX11_areFed_5 rfl (lv_at hl 0 rfl) ?_
  refine kX11_useStores C hW (Nat.le_trans (by decide) hRf) (Nat.le_trans (by decide) hRl) hl.1 (Nat.le_of_ble_eq_true rfl) dX11_areFed_6 hq (fun σ_2 H locs hq hW => ?_)
  refine lv_iload_n hx hb dX11_areFed_9 rfl (lv_at hl 2 rfl) ?_
  refine lv_istore (lv' := [(5, .int x2), (0, .ref g.2.1), (1, .int x1), (2, .int x2), (3, .int x3), (4, .int x4)]) hx hb dX11_areFed_10 hl (by decide) rfl (fun ls hl => ?_)
  refine lv_iconst (v := 1) hx hb dX11_areFed_12 (by decide) ?_
  refine lv_istore (lv' := [(6, .int 1), (5, .int x2), (0, .ref g.2.1), (1, .int x1), (2, .int x2), (3, .int x3), (4, .int x4)]) hx hb dX11_areFed_13 hl (by decide) rfl (fun ls hl => ?_)
  refine lv_iconst (v := 0) hx hb dX11_areFed_15 (by decide) ?_
  refine lv_istore (lv' := [(7, .int 0), (6, .int 1), (5, .int x2), (0, .ref g.2.1), (1, .int x1), (2, .int x2), (3, .int x3), (4, .int x4)]) hx hb dX11_areFed_16 hl (by decide) rfl (fun ls hl => ?_)
  obtain ⟨f18, hq⟩ := hq
  exact wX11_areFed_L18 C hRf hRl hret f18 _ _ _ _ _ _ _ _ _ hW (lv_sub hl [3, 6, 7, 2, 1, 0] rfl) hq
set_option maxHeartbeats 4000000 in
set_option maxRecDepth 100000 in
theorem mX11_areFed {l : Launch} {g : MG} {σ : MS} {x1 : Int32} {x2 : Int32} {x3 : Int32} {x4 : Int32} {P : Int32 → MS → Prop} (hq : qX11_areFed σ x1 x2 x3 x4 P) (sz : Nat) : Met l yX11_areFed (cws yX11_areFed cX11_areFed 8 (some .boolean)) ({ frames := 5, cells := 0, slots := 0, locals := 109 } : Room) (va_Pc [.ref g.2.1, .int x1, .int x2, .int x3, .int x4] (WP g.1 (mw g) (mty g) σ sz)) (va_Qi P (WB g.1 (mw g) (mty g) σ sz) (va_A (mw g σ) sz)) 0 0 (va_A (mw g σ) sz) :=
  w_enter (by decide) (Nat.le_of_ble_eq_true rfl) (fun p e s m args below meth c ls C hr hk hn hs hW hl => wX11_areFed C (Nat.le_refl _) (Nat.le_refl _) (fun pc ls v σ H locs hd hW hv hq => w_zret C hs hr hk hW hd hv hq) hW hl hq)
set_option maxHeartbeats 4000000 in
set_option maxRecDepth 100000 in
theorem kX11_areFed (C : CallFix p m c cc nL s args lwg RX11) {σ : MS} (hW : WI g.1 (mw g) (mty g) A s σ H locs) (hRf : 6 ≤ R.frames) (hRl : 136 ≤ R.locals) (hls : ls.size = nL) (hro : (rest.map fun v => v.category).sum ≤ 8) {x1 : Int32} {x2 : Int32} {x3 : Int32} {x4 : Int32} (hd : decode cc pc = .ok (.invokevirtual 266, 3)) {P : Int32 → MS → Prop} (hq : qX11_areFed σ x1 x2 x3 x4 P) (kk : ∀ (r : Int32) (σ1 : MS) (H : Heap) (locs : List Loc), P r σ1 → WI g.1 (mw g) (mty g) A s σ1 H locs → W p l e R s m args below meth c H locs 0 0 Q (F0 m (pc + 3) ls (.int r :: rest))) : W p l e R s m args below meth c H locs 0 0 Q (F0 m pc ls (.int x4 :: .int x3 :: .int x2 :: .int x1 :: .ref g.2.1 :: rest)) :=
  w_calli hW (w_runV C hW (mX11_areFed hq _) ⟨lwg_at 1290 (by decide +kernel) rfl, lwg_at 74 (by decide +kernel) rfl, lwg_at 1287 (by decide +kernel) rfl⟩ (lwg_at 1289 (by decide +kernel) rfl) (lwg_at 55 (by decide +kernel) rfl) (np := 4) (by decide +kernel) ⟨rfl, rfl⟩ ⟨hRf, hRl⟩ (ci := 12) rfl rfl (q0 := 0) rfl rfl hls rfl hro hd ⟨Nat.zero_le _, Nat.zero_le _⟩) kk
-- X11_fasting
set_option maxHeartbeats 4000000 in
set_option maxRecDepth 100000 in
theorem wX11_fasting_L28 (C : CallFix p m c cX11_fasting 5 s args lwg RX11) (hRf : 6 ≤ R.frames) (hRl : 136 ≤ R.locals) {P : Int32 → MS → Prop} (hret : RetI g.1 (mw g) (mty g) A p l e R s m args below meth c 0 0 Q cX11_fasting P) : ∀ (n : Nat) (σ : MS) (x1 : Int32) (x2 : Int32) (x3 : Int32) (x4 : Int32) (H : Heap) (locs : List Loc) (ls : Array Slot), WI g.1 (mw g) (mty g) A s σ H locs → lv_has ls 5 [(0, .ref g.2.1), (1, .int x1), (2, .int x2), (3, .int x3), (4, .int x4)] → qX11_fasting_L28  P n σ x1 x2 x3 x4 → W p l e R s m args below meth c H locs 0 0 Q (F0 m 28 ls []) := by
  have hx := C.1
  have hb := C.2.1
  intro n
  induction n with
  | zero =>
    intro σ x1 x2 x3 x4 H locs ls hW hl hq
    rw [qX11_fasting_L28] at hq
    exact hq.elim
  | succ n ih =>
    intro σ x1 x2 x3 x4 H locs ls hW hl hq
    rw [qX11_fasting_L28] at hq
    refine lv_iload hx hb dX11_fasting_28 (lv_at hl 4 rfl) ?_
    refine lv_aload_n hx hb dX11_fasting_30 rfl (lv_at hl 0 rfl) ?_
    refine mg_0 C hW dX11_fasting_31 ?_
    refine lv_icmp_ge (tgt := 58) hx hb dX11_fasting_34 (by decide) (fun h => ?_) (fun h => ?_)
    · replace hq := br_pos h hq
      refine lv_iconst (v := (-1)) hx hb dX11_fasting_58 (by decide) ?_
      exact hret _ _ _ _ _ _ dX11_fasting_59 hW hq
    · replace hq := br_neg h hq
      refine lv_aload_n hx hb dX11_fasting_37 rfl (lv_at hl 0 rfl) ?_
      refine lv_iload_n hx hb dX11_fasting_38 rfl (lv_at hl 1 rfl) ?_
      refine lv_iload_n hx hb dX11_fasting_39 rfl (lv_at hl 2 rfl) ?_
      refine lv_iload_n hx hb dX11_fasting_40 rfl (lv_at hl 3 rfl) ?_
      refine lv_iload hx hb dX11_fasting_41 (lv_at hl 4 rfl) ?_
      refine kX11_areFed C hW (Nat.le_trans (by decide) hRf) (Nat.le_trans (by decide) hRl) hl.1 (Nat.le_of_ble_eq_true rfl) dX11_fasting_43 hq (fun r_2 σ_1 H locs hq hW => ?_)
      refine lv_if_eq (tgt := 52) hx hb dX11_fasting_46 (by decide) (fun h => ?_) (fun h => ?_)
      · replace hq := br_pos h hq
        obtain ⟨x4_3, ex4_3⟩ : ∃ y : Int32, y = x4 + 1 := ⟨_, rfl⟩
        replace hq := hq _ ex4_3
        refine lv_iinc (v := x4_3) (lv' := [(4, .int x4_3), (0, .ref g.2.1), (1, .int x1), (2, .int x2), (3, .int x3)]) hx hb dX11_fasting_52 hl (k := 4) rfl (by rw [ex4_3]; rfl) (by decide) rfl (fun ls hl => ?_)
        refine lv_goto (tgt := 28) hx hb dX11_fasting_55 (by decide) ?_
        exact ih _ _ _ _ _ _ _ _ hW (lv_sub hl [1, 2, 3, 4, 0] rfl) hq
      · replace hq := br_neg h hq
        refine lv_iload hx hb dX11_fasting_49 (lv_at hl 4 rfl) ?_
        exact hret _ _ _ _ _ _ dX11_fasting_51 hW hq
set_option maxHeartbeats 4000000 in
set_option maxRecDepth 100000 in
theorem wX11_fasting (C : CallFix p m c cX11_fasting 5 s args lwg RX11) (hRf : 6 ≤ R.frames) (hRl : 136 ≤ R.locals) {P : Int32 → MS → Prop} (hret : RetI g.1 (mw g) (mty g) A p l e R s m args below meth c 0 0 Q cX11_fasting P) {σ : MS} {x1 : Int32} {x2 : Int32} {x3 : Int32} {H : Heap} {locs : List Loc} {ls : Array Slot} (hW : WI g.1 (mw g) (mty g) A s σ H locs) (hl : lv_has ls 5 [(0, .ref g.2.1), (1, .int x1), (2, .int x2), (3, .int x3)]) (hq : qX11_fasting σ x1 x2 x3 P) : W p l e R s m args below meth c H locs 0 0 Q (F0 m 0 ls []) := by
  have hx := C.1
  have hb := C.2.1
  unfold qX11_fasting at hq
  refine lv_aload_n hx hb dX11_fasting_0 rfl (lv_at hl 0 rfl) ?_
  refine lv_iload_n hx hb dX11_fasting_1 rfl (lv_at hl 1 rfl) ?_
  refine lv_iload_n hx hb dX11_fasting_2 rfl (lv_at hl 2 rfl) ?_
  refine kX11_isDay C hW (Nat.le_trans (by decide) hRf) (Nat.le_trans (by decide) hRl) hl.1 (Nat.le_of_ble_eq_true rfl) dX11_fasting_3 hq (fun r_2 σ_1 H locs hq hW => ?_)
  refine lv_if_ne (tgt := 12) hx hb dX11_fasting_6 (by decide) (fun h => ?_) (fun h => ?_)
  · replace hq := br_neg h hq
    refine lv_iload_n hx hb dX11_fasting_12 rfl (lv_at hl 3 rfl) ?_
    refine lv_iconst (v := 1) hx hb dX11_fasting_13 (by decide) ?_
    refine lv_bipush (v := 30) hx hb dX11_fasting_14 (by decide) ?_
    refine kX11_within C hW (Nat.le_trans (by decide) hRf) (Nat.le_trans (by decide) hRl) hl.1 (Nat.le_of_ble_eq_true rfl) dX11_fasting_16 hq (fun r_4 σ_3 H locs hq hW => ?_)
    refine lv_if_ne (tgt := 25) hx hb dX11_fasting_19 (by decide) (fun h => ?_) (fun h => ?_)
    · replace hq := br_neg h hq
      refine lv_iconst (v := 0) hx hb dX11_fasting_25 (by decide) ?_
      refine lv_istore (lv' := [(4, .int 0), (0, .ref g.2.1), (1, .int x1), (2, .int x2), (3, .int x3)]) hx hb dX11_fasting_26 hl (by decide) rfl (fun ls hl => ?_)
      obtain ⟨f28, hq⟩ := hq
      exact wX11_fasting_L28 C hRf hRl hret f28 _ _ _ _ _ _ _ _ hW (lv_sub hl [1, 2, 3, 4, 0] rfl) hq
    · replace hq := br_pos h hq
      refine lv_bipush (v := (-102)) hx hb dX11_fasting_22 (by decide) ?_
      exact hret _ _ _ _ _ _ dX11_fasting_24 hW hq
  · replace hq := br_pos h hq
    refine lv_bipush (v := (-101)) hx hb dX11_fasting_9 (by decide) ?_
    exact hret _ _ _ _ _ _ dX11_fasting_11 hW hq
set_option maxHeartbeats 4000000 in
set_option maxRecDepth 100000 in
theorem mX11_fasting {l : Launch} {g : MG} {σ : MS} {x1 : Int32} {x2 : Int32} {x3 : Int32} {P : Int32 → MS → Prop} (hq : qX11_fasting σ x1 x2 x3 P) (sz : Nat) : Met l yX11_fasting (cws yX11_fasting cX11_fasting 5 (some .int)) ({ frames := 6, cells := 0, slots := 0, locals := 136 } : Room) (va_Pc [.ref g.2.1, .int x1, .int x2, .int x3] (WP g.1 (mw g) (mty g) σ sz)) (va_Qi P (WB g.1 (mw g) (mty g) σ sz) (va_A (mw g σ) sz)) 0 0 (va_A (mw g σ) sz) :=
  w_enter (by decide) (Nat.le_of_ble_eq_true rfl) (fun p e s m args below meth c ls C hr hk hn hs hW hl => wX11_fasting C (Nat.le_refl _) (Nat.le_refl _) (fun pc ls v σ H locs hd hW hq => w_iret C hs hr hk hW hd hq) hW hl hq)
-- X11_passSkipped
set_option maxHeartbeats 4000000 in
set_option maxRecDepth 100000 in
theorem wX11_passSkipped_L2 (C : CallFix p m c cX11_passSkipped 4 s args lwg RX11) (hRf : 2 ≤ R.frames) (hRl : 43 ≤ R.locals) {P : Int32 → MS → Prop} (hret : RetI g.1 (mw g) (mty g) A p l e R s m args below meth c 0 0 Q cX11_passSkipped P) : ∀ (n : Nat) (σ : MS) (x2 : Int32) (x3 : Int32) (H : Heap) (locs : List Loc) (ls : Array Slot), WI g.1 (mw g) (mty g) A s σ H locs → lv_has ls 4 [(0, .ref g.2.1), (2, .int x2), (3, .int x3)] → qX11_passSkipped_L2  P n σ x2 x3 → W p l e R s m args below meth c H locs 0 0 Q (F0 m 2 ls []) := by
  have hx := C.1
  have hb := C.2.1
  intro n
  induction n with
  | zero =>
    intro σ x2 x3 H locs ls hW hl hq
    rw [qX11_passSkipped_L2] at hq
    exact hq.elim
  | succ n ih =>
    intro σ x2 x3 H locs ls hW hl hq
    rw [qX11_passSkipped_L2] at hq
    refine lv_aload_n hx hb dX11_passSkipped_2 rfl (lv_at hl 0 rfl) ?_
    refine lv_aload_n hx hb dX11_passSkipped_3 rfl (lv_at hl 0 rfl) ?_
    refine mg_8 C hW dX11_passSkipped_4 ?_
    refine lv_iload_n hx hb dX11_passSkipped_7 rfl (lv_at hl 2 rfl) ?_
    obtain ⟨hin1, hq⟩ := hq
    refine ma_8 C hW hin1 dX11_passSkipped_8 ?_
    refine kX11_isSkipped C hW (Nat.le_trans (by decide) hRf) (Nat.le_trans (by decide) hRl) hl.1 (Nat.le_of_ble_eq_true rfl) dX11_passSkipped_9 hq (fun r_3 σ_2 H locs hq hW => ?_)
    refine lv_if_eq (tgt := 25) hx hb dX11_passSkipped_12 (by decide) (fun h => ?_) (fun h => ?_)
    · replace hq := br_pos h hq
      refine lv_iload_n hx hb dX11_passSkipped_25 rfl (lv_at hl 2 rfl) ?_
      exact hret _ _ _ _ _ _ dX11_passSkipped_26 hW hq
    · replace hq := br_neg h hq
      refine lv_aload_n hx hb dX11_passSkipped_15 rfl (lv_at hl 0 rfl) ?_
      refine lv_iload_n hx hb dX11_passSkipped_16 rfl (lv_at hl 2 rfl) ?_
      refine lv_iload_n hx hb dX11_passSkipped_17 rfl (lv_at hl 1 rfl) ?_
      refine kX11_onward C hW (Nat.le_trans (by decide) hRf) (Nat.le_trans (by decide) hRl) hl.1 (Nat.le_of_ble_eq_true rfl) dX11_passSkipped_18 hq (fun r_5 σ_4 H locs hq hW => ?_)
      refine lv_istore_n (lv' := [(3, .int r_5), (0, .ref g.2.1), (2, .int x2)]) hx hb dX11_passSkipped_21 rfl hl (by decide) rfl (fun ls hl => ?_)
      refine lv_goto (tgt := 2) hx hb dX11_passSkipped_22 (by decide) ?_
      exact ih _ _ _ _ _ _ hW (lv_sub hl [1, 2, 0] rfl) hq
set_option maxHeartbeats 4000000 in
set_option maxRecDepth 100000 in
theorem wX11_passSkipped (C : CallFix p m c cX11_passSkipped 4 s args lwg RX11) (hRf : 2 ≤ R.frames) (hRl : 43 ≤ R.locals) {P : Int32 → MS → Prop} (hret : RetI g.1 (mw g) (mty g) A p l e R s m args below meth c 0 0 Q cX11_passSkipped P) {σ : MS} {x1 : Int32} {x2 : Int32} {H : Heap} {locs : List Loc} {ls : Array Slot} (hW : WI g.1 (mw g) (mty g) A s σ H locs) (hl : lv_has ls 4 [(0, .ref g.2.1), (1, .int x1), (2, .int x2)]) (hq : qX11_passSkipped σ x1 x2 P) : W p l e R s m args below meth c H locs 0 0 Q (F0 m 0 ls []) := by
  have hx := C.1
  have hb := C.2.1
  unfold qX11_passSkipped at hq
  refine lv_iload_n hx hb dX11_passSkipped_0 rfl (lv_at hl 1 rfl) ?_
  refine lv_istore_n (lv' := [(3, .int x1), (0, .ref g.2.1), (1, .int x1), (2, .int x2)]) hx hb dX11_passSkipped_1 rfl hl (by decide) rfl (fun ls hl => ?_)
  obtain ⟨f2, hq⟩ := hq
  exact wX11_passSkipped_L2 C hRf hRl hret f2 _ _ _ _ _ _ hW (lv_sub hl [1, 3, 0] rfl) hq
set_option maxHeartbeats 4000000 in
set_option maxRecDepth 100000 in
theorem mX11_passSkipped {l : Launch} {g : MG} {σ : MS} {x1 : Int32} {x2 : Int32} {P : Int32 → MS → Prop} (hq : qX11_passSkipped σ x1 x2 P) (sz : Nat) : Met l yX11_passSkipped (cws yX11_passSkipped cX11_passSkipped 4 (some .int)) ({ frames := 2, cells := 0, slots := 0, locals := 43 } : Room) (va_Pc [.ref g.2.1, .int x1, .int x2] (WP g.1 (mw g) (mty g) σ sz)) (va_Qi P (WB g.1 (mw g) (mty g) σ sz) (va_A (mw g σ) sz)) 0 0 (va_A (mw g σ) sz) :=
  w_enter (by decide) (Nat.le_of_ble_eq_true rfl) (fun p e s m args below meth c ls C hr hk hn hs hW hl => wX11_passSkipped C (Nat.le_refl _) (Nat.le_refl _) (fun pc ls v σ H locs hd hW hq => w_iret C hs hr hk hW hd hq) hW hl hq)
set_option maxHeartbeats 4000000 in
set_option maxRecDepth 100000 in
theorem kX11_passSkipped (C : CallFix p m c cc nL s args lwg RX11) {σ : MS} (hW : WI g.1 (mw g) (mty g) A s σ H locs) (hRf : 3 ≤ R.frames) (hRl : 66 ≤ R.locals) (hls : ls.size = nL) (hro : (rest.map fun v => v.category).sum ≤ 8) {x1 : Int32} {x2 : Int32} (hd : decode cc pc = .ok (.invokevirtual 270, 3)) {P : Int32 → MS → Prop} (hq : qX11_passSkipped σ x1 x2 P) (kk : ∀ (r : Int32) (σ1 : MS) (H : Heap) (locs : List Loc), P r σ1 → WI g.1 (mw g) (mty g) A s σ1 H locs → W p l e R s m args below meth c H locs 0 0 Q (F0 m (pc + 3) ls (.int r :: rest))) : W p l e R s m args below meth c H locs 0 0 Q (F0 m pc ls (.int x2 :: .int x1 :: .ref g.2.1 :: rest)) :=
  w_calli hW (w_runV C hW (mX11_passSkipped hq _) ⟨lwg_at 1306 (by decide +kernel) rfl, lwg_at 74 (by decide +kernel) rfl, lwg_at 1303 (by decide +kernel) rfl⟩ (lwg_at 1305 (by decide +kernel) rfl) (lwg_at 58 (by decide +kernel) rfl) (np := 2) (by decide +kernel) ⟨rfl, rfl⟩ ⟨hRf, hRl⟩ (ci := 12) rfl rfl (q0 := 0) rfl rfl hls rfl hro hd ⟨Nat.zero_le _, Nat.zero_le _⟩) kk
-- X11_goSchism
set_option maxHeartbeats 4000000 in
set_option maxRecDepth 100000 in
theorem wX11_goSchism_J138 (C : CallFix p m c cX11_goSchism 7 s args lwg RX11) (hRf : 4 ≤ R.frames) (hRl : 85 ≤ R.locals) {P : MS → Prop} (hret : RetV g.1 (mw g) (mty g) A p l e R s m args below meth c 0 0 Q cX11_goSchism P) {k49 : MS → Int32 → Int32 → Prop} (hk49 : ∀ (σ : MS) (x2 : Int32) (x3 : Int32) (H : Heap) (locs : List Loc) (ls : Array Slot), WI g.1 (mw g) (mty g) A s σ H locs → lv_has ls 7 [(0, .ref g.2.1), (2, .int x2), (3, .int x3)] → k49 σ x2 x3 → W p l e R s m args below meth c H locs 0 0 Q (F0 m 49 ls [])) {σ : MS} {x2 : Int32} {x3 : Int32} {x4 : Int32} {x5 : Int32} {H : Heap} {locs : List Loc} {ls : Array Slot} (hW : WI g.1 (mw g) (mty g) A s σ H locs) (hl : lv_has ls 7 [(0, .ref g.2.1), (2, .int x2), (3, .int x3), (4, .int x4), (5, .int x5)]) (hq : qX11_goSchism_J138 k49 P σ x2 x3 x4 x5) : W p l e R s m args below meth c H locs 0 0 Q (F0 m 138 ls []) := by
  have hx := C.1
  have hb := C.2.1
  unfold qX11_goSchism_J138 at hq
  refine lv_aload_n hx hb dX11_goSchism_138 rfl (lv_at hl 0 rfl) ?_
  refine lv_iload hx hb dX11_goSchism_139 (lv_at hl 4 rfl) ?_
  refine lv_iload hx hb dX11_goSchism_141 (lv_at hl 3 rfl) ?_
  refine kX11_onward C hW (Nat.le_trans (by decide) hRf) (Nat.le_trans (by decide) hRl) hl.1 (Nat.le_of_ble_eq_true rfl) dX11_goSchism_143 hq (fun r_2 σ_1 H locs hq hW => ?_)
  refine lv_istore (lv' := [(5, .int r_2), (0, .ref g.2.1), (2, .int x2), (3, .int x3), (4, .int x4)]) hx hb dX11_goSchism_146 hl (by decide) rfl (fun ls hl => ?_)
  refine lv_iload hx hb dX11_goSchism_148 (lv_at hl 4 rfl) ?_
  refine (fun (K : ∀ v_3 : Int32, v_3 = ((if x4 = 0 then x2 else r_2) : Int32) → W p l e R s m args below meth c H locs 0 0 Q (F0 m 159 ls (.int v_3 :: []))) => ?_) ?_
  · refine lv_if_eq (tgt := 158) hx hb dX11_goSchism_150 (by decide) (fun h150 => ?_) (fun h150 => ?_)
    · refine lv_iload_n hx hb dX11_goSchism_158 rfl (lv_at hl 2 rfl) ?_
      exact K _ (by rw [if_pos h150])
    · refine lv_iload hx hb dX11_goSchism_153 (lv_at hl 0 rfl) ?_
      refine lv_goto (tgt := 159) hx hb dX11_goSchism_155 (by decide) ?_
      exact K _ (by rw [if_neg h150])
  intro v_3 ev_3
  replace hq := hq _ ev_3
  refine lv_istore_n (lv' := [(2, .int v_3), (5, .int r_2), (0, .ref g.2.1), (3, .int x3), (4, .int x4)]) hx hb dX11_goSchism_159 rfl hl (by decide) rfl (fun ls hl => ?_)
  refine lv_iload hx hb dX11_goSchism_160 (lv_at hl 4 rfl) ?_
  refine (fun (K : ∀ v_4 : Int32, v_4 = ((if x4 = 0 then r_2 else x3) : Int32) → W p l e R s m args below meth c H locs 0 0 Q (F0 m 171 ls (.int v_4 :: []))) => ?_) ?_
  · refine lv_if_eq (tgt := 169) hx hb dX11_goSchism_162 (by decide) (fun h162 => ?_) (fun h162 => ?_)
    · refine lv_iload hx hb dX11_goSchism_169 (lv_at hl 1 rfl) ?_
      exact K _ (by rw [if_pos h162])
    · refine lv_iload_n hx hb dX11_goSchism_165 rfl (lv_at hl 3 rfl) ?_
      refine lv_goto (tgt := 171) hx hb dX11_goSchism_166 (by decide) ?_
      exact K _ (by rw [if_neg h162])
  intro v_4 ev_4
  replace hq := hq _ ev_4
  refine lv_istore_n (lv' := [(3, .int v_4), (2, .int v_3), (5, .int r_2), (0, .ref g.2.1), (4, .int x4)]) hx hb dX11_goSchism_171 rfl hl (by decide) rfl (fun ls hl => ?_)
  refine lv_goto (tgt := 49) hx hb dX11_goSchism_172 (by decide) ?_
  exact hk49 _ _ _ _ _ _ hW (lv_sub hl [3, 1, 0] rfl) hq
set_option maxHeartbeats 4000000 in
set_option maxRecDepth 100000 in
theorem wX11_goSchism_L49 (C : CallFix p m c cX11_goSchism 7 s args lwg RX11) (hRf : 4 ≤ R.frames) (hRl : 85 ≤ R.locals) {P : MS → Prop} (hret : RetV g.1 (mw g) (mty g) A p l e R s m args below meth c 0 0 Q cX11_goSchism P) : ∀ (n : Nat) (σ : MS) (x2 : Int32) (x3 : Int32) (H : Heap) (locs : List Loc) (ls : Array Slot), WI g.1 (mw g) (mty g) A s σ H locs → lv_has ls 7 [(0, .ref g.2.1), (2, .int x2), (3, .int x3)] → qX11_goSchism_L49  P n σ x2 x3 → W p l e R s m args below meth c H locs 0 0 Q (F0 m 49 ls []) := by
  have hx := C.1
  have hb := C.2.1
  intro n
  induction n with
  | zero =>
    intro σ x2 x3 H locs ls hW hl hq
    rw [qX11_goSchism_L49] at hq
    exact hq.elim
  | succ n ih =>
    intro σ x2 x3 H locs ls hW hl hq
    rw [qX11_goSchism_L49] at hq
    refine lv_aload_n hx hb dX11_goSchism_49 rfl (lv_at hl 0 rfl) ?_
    refine kX11_isOver C hW (Nat.le_trans (by decide) hRf) (Nat.le_trans (by decide) hRl) hl.1 (Nat.le_of_ble_eq_true rfl) dX11_goSchism_50 hq (fun r_2 σ_1 H locs hq hW => ?_)
    refine lv_if_ne (tgt := 175) hx hb dX11_goSchism_53 (by decide) (fun h => ?_) (fun h => ?_)
    · replace hq := br_neg h hq
      exact hret _ _ _ _ _ dX11_goSchism_175 hW hq
    · replace hq := br_pos h hq
      refine lv_aload_n hx hb dX11_goSchism_56 rfl (lv_at hl 0 rfl) ?_
      refine mg_41 C hW dX11_goSchism_57 ?_
      refine lv_iconst (v := 2) hx hb dX11_goSchism_60 (by decide) ?_
      refine w_irem hx hb dX11_goSchism_61 (by decide) ?_
      refine (fun (K : ∀ v_3 : Int32, v_3 = ((if (jrem (σ_1.1 41) 2) = 0 then 1 else 0) : Int32) → W p l e R s m args below meth c H locs 0 0 Q (F0 m 70 ls (.int v_3 :: []))) => ?_) ?_
      · refine lv_if_ne (tgt := 69) hx hb dX11_goSchism_62 (by decide) (fun h62 => ?_) (fun h62 => ?_)
        · refine lv_iconst (v := 0) hx hb dX11_goSchism_69 (by decide) ?_
          exact K _ (by rw [if_neg h62])
        · refine lv_iconst (v := 1) hx hb dX11_goSchism_65 (by decide) ?_
          refine lv_goto (tgt := 70) hx hb dX11_goSchism_66 (by decide) ?_
          exact K _ (by rw [if_pos h62])
      intro v_3 ev_3
      replace hq := hq _ ev_3
      refine lv_istore (lv' := [(4, .int v_3), (0, .ref g.2.1), (2, .int x2), (3, .int x3)]) hx hb dX11_goSchism_70 hl (by decide) rfl (fun ls hl => ?_)
      refine lv_aload_n hx hb dX11_goSchism_72 rfl (lv_at hl 1 rfl) ?_
      refine lv_iload hx hb dX11_goSchism_73 (lv_at hl 0 rfl) ?_
      refine (fun (K : ∀ v_4 : Int32, v_4 = ((if v_3 = 0 then x3 else x2) : Int32) → W p l e R s m args below meth c H locs 0 0 Q (F0 m 83 ls (.int v_4 :: [.ref g.2.1]))) => ?_) ?_
      · refine lv_if_eq (tgt := 82) hx hb dX11_goSchism_75 (by decide) (fun h75 => ?_) (fun h75 => ?_)
        · refine lv_iload_n hx hb dX11_goSchism_82 rfl (lv_at hl 3 rfl) ?_
          exact K _ (by rw [if_pos h75])
        · refine lv_iload_n hx hb dX11_goSchism_78 rfl (lv_at hl 2 rfl) ?_
          refine lv_goto (tgt := 83) hx hb dX11_goSchism_79 (by decide) ?_
          exact K _ (by rw [if_neg h75])
      intro v_4 ev_4
      replace hq := hq _ ev_4
      refine lv_iload hx hb dX11_goSchism_83 (lv_at hl 0 rfl) ?_
      refine kX11_passSkipped C hW (Nat.le_trans (by decide) hRf) (Nat.le_trans (by decide) hRl) hl.1 (Nat.le_of_ble_eq_true rfl) dX11_goSchism_85 hq (fun r_6 σ_5 H locs hq hW => ?_)
      refine lv_istore (lv' := [(5, .int r_6), (4, .int v_3), (0, .ref g.2.1), (2, .int x2), (3, .int x3)]) hx hb dX11_goSchism_88 hl (by decide) rfl (fun ls hl => ?_)
      refine lv_iload hx hb dX11_goSchism_90 (lv_at hl 0 rfl) ?_
      refine lv_iload hx hb dX11_goSchism_92 (lv_at hl 1 rfl) ?_
      refine (fun (K : ∀ v_7 : Int32, v_7 = ((if v_3 = 0 then x2 else x3) : Int32) → W p l e R s m args below meth c H locs 0 0 Q (F0 m 102 ls (.int v_7 :: [.int r_6]))) => ?_) ?_
      · refine lv_if_eq (tgt := 101) hx hb dX11_goSchism_94 (by decide) (fun h94 => ?_) (fun h94 => ?_)
        · refine lv_iload_n hx hb dX11_goSchism_101 rfl (lv_at hl 3 rfl) ?_
          exact K _ (by rw [if_pos h94])
        · refine lv_iload_n hx hb dX11_goSchism_97 rfl (lv_at hl 4 rfl) ?_
          refine lv_goto (tgt := 102) hx hb dX11_goSchism_98 (by decide) ?_
          exact K _ (by rw [if_neg h94])
      intro v_7 ev_7
      replace hq := hq _ ev_7
      refine lv_icmp_ne (tgt := 113) hx hb dX11_goSchism_102 (by decide) (fun h => ?_) (fun h => ?_)
      · replace hq := br_neg h hq
        refine lv_aload_n hx hb dX11_goSchism_113 rfl (lv_at hl 2 rfl) ?_
        refine mg_8 C hW dX11_goSchism_114 ?_
        refine lv_iload hx hb dX11_goSchism_117 (lv_at hl 0 rfl) ?_
        obtain ⟨hin8, hq⟩ := hq
        refine ma_8 C hW hin8 dX11_goSchism_119 ?_
        refine lv_topi (fun x6_9 ex6_9 => ?_)
        replace hq := hq _ ex6_9
        refine lv_istore (lv' := [(6, .int x6_9), (5, .int r_6), (4, .int v_3), (0, .ref g.2.1), (2, .int x2), (3, .int x3)]) hx hb dX11_goSchism_120 hl (by decide) rfl (fun ls hl => ?_)
        refine lv_aload_n hx hb dX11_goSchism_122 rfl (lv_at hl 3 rfl) ?_
        refine lv_iload hx hb dX11_goSchism_123 (lv_at hl 0 rfl) ?_
        refine kX11_biteTurn C hW (Nat.le_trans (by decide) hRf) (Nat.le_trans (by decide) hRl) hl.1 (Nat.le_of_ble_eq_true rfl) dX11_goSchism_125 hq (fun σ_10 H locs hq hW => ?_)
        refine lv_aload_n hx hb dX11_goSchism_128 rfl (lv_at hl 3 rfl) ?_
        refine lv_aload_n hx hb dX11_goSchism_129 rfl (lv_at hl 3 rfl) ?_
        refine lv_iload hx hb dX11_goSchism_130 (lv_at hl 0 rfl) ?_
        refine kX11_beatsOf C hW (Nat.le_trans (by decide) hRf) (Nat.le_trans (by decide) hRl) hl.1 (Nat.le_of_ble_eq_true rfl) dX11_goSchism_132 hq (fun r_12 σ_11 H locs hq hW => ?_)
        refine kX11_takeBeats C hW (Nat.le_trans (by decide) hRf) (Nat.le_trans (by decide) hRl) hl.1 (Nat.le_of_ble_eq_true rfl) dX11_goSchism_135 hq (fun σ_13 H locs hq hW => ?_)
        exact wX11_goSchism_J138 C hRf hRl hret ih hW (lv_sub hl [3, 4, 5, 2, 1] rfl) hq
      · replace hq := br_pos h hq
        refine lv_aload_n hx hb dX11_goSchism_105 rfl (lv_at hl 2 rfl) ?_
        refine lv_iconst (v := 1) hx hb dX11_goSchism_106 (by decide) ?_
        refine kX11_takeBeats C hW (Nat.le_trans (by decide) hRf) (Nat.le_trans (by decide) hRl) hl.1 (Nat.le_of_ble_eq_true rfl) dX11_goSchism_107 hq (fun σ_14 H locs hq hW => ?_)
        refine lv_goto (tgt := 138) hx hb dX11_goSchism_110 (by decide) ?_
        exact wX11_goSchism_J138 C hRf hRl hret ih hW (lv_sub hl [2, 3, 4, 1, 0] rfl) hq
set_option maxHeartbeats 4000000 in
set_option maxRecDepth 100000 in
theorem wX11_goSchism (C : CallFix p m c cX11_goSchism 7 s args lwg RX11) (hRf : 4 ≤ R.frames) (hRl : 85 ≤ R.locals) {P : MS → Prop} (hret : RetV g.1 (mw g) (mty g) A p l e R s m args below meth c 0 0 Q cX11_goSchism P) {σ : MS} {x1 : Int32} {H : Heap} {locs : List Loc} {ls : Array Slot} (hW : WI g.1 (mw g) (mty g) A s σ H locs) (hl : lv_has ls 7 [(0, .ref g.2.1), (1, .int x1)]) (hq : qX11_goSchism σ x1 P) : W p l e R s m args below meth c H locs 0 0 Q (F0 m 0 ls []) := by
  have hx := C.1
  have hb := C.2.1
  unfold qX11_goSchism at hq
  refine lv_aload_n hx hb dX11_goSchism_0 rfl (lv_at hl 0 rfl) ?_
  refine lv_iconst (v := 0) hx hb dX11_goSchism_1 (by decide) ?_
  refine mp_33 C hW dX11_goSchism_2 (fun σ_1 H locs eσ_1 hW => ?_)
  replace hq := hq _ eσ_1
  refine lv_aload_n hx hb dX11_goSchism_5 rfl (lv_at hl 0 rfl) ?_
  refine lv_iconst (v := 0) hx hb dX11_goSchism_6 (by decide) ?_
  refine mp_34 C hW isB_0 dX11_goSchism_7 (fun σ_2 H locs eσ_2 hW => ?_)
  replace hq := hq _ eσ_2
  refine lv_aload_n hx hb dX11_goSchism_10 rfl (lv_at hl 0 rfl) ?_
  refine lv_iconst (v := 0) hx hb dX11_goSchism_11 (by decide) ?_
  refine mp_35 C hW dX11_goSchism_12 (fun σ_3 H locs eσ_3 hW => ?_)
  replace hq := hq _ eσ_3
  refine lv_aload_n hx hb dX11_goSchism_15 rfl (lv_at hl 0 rfl) ?_
  refine lv_iconst (v := 0) hx hb dX11_goSchism_16 (by decide) ?_
  refine mp_36 C hW dX11_goSchism_17 (fun σ_4 H locs eσ_4 hW => ?_)
  replace hq := hq _ eσ_4
  refine lv_aload_n hx hb dX11_goSchism_20 rfl (lv_at hl 0 rfl) ?_
  refine lv_iconst (v := (-1)) hx hb dX11_goSchism_21 (by decide) ?_
  refine mp_37 C hW dX11_goSchism_22 (fun σ_5 H locs eσ_5 hW => ?_)
  replace hq := hq _ eσ_5
  refine lv_aload_n hx hb dX11_goSchism_25 rfl (lv_at hl 0 rfl) ?_
  refine kX11_useStores C hW (Nat.le_trans (by decide) hRf) (Nat.le_trans (by decide) hRl) hl.1 (Nat.le_of_ble_eq_true rfl) dX11_goSchism_26 hq (fun σ_6 H locs hq hW => ?_)
  refine lv_aload_n hx hb dX11_goSchism_29 rfl (lv_at hl 0 rfl) ?_
  refine kX11_beginDay C hW (Nat.le_trans (by decide) hRf) (Nat.le_trans (by decide) hRl) hl.1 (Nat.le_of_ble_eq_true rfl) dX11_goSchism_30 hq (fun σ_7 H locs hq hW => ?_)
  refine lv_iload_n hx hb dX11_goSchism_33 rfl (lv_at hl 1 rfl) ?_
  refine lv_istore_n (lv' := [(2, .int x1), (0, .ref g.2.1), (1, .int x1)]) hx hb dX11_goSchism_34 rfl hl (by decide) rfl (fun ls hl => ?_)
  refine lv_iload_n hx hb dX11_goSchism_35 rfl (lv_at hl 2 rfl) ?_
  refine lv_aload_n hx hb dX11_goSchism_36 rfl (lv_at hl 1 rfl) ?_
  refine mg_0 C hW dX11_goSchism_37 ?_
  refine lv_iconst (v := 2) hx hb dX11_goSchism_40 (by decide) ?_
  refine lv_idiv hx hb dX11_goSchism_41 (by decide) ?_
  refine lv_iadd hx hb dX11_goSchism_42 ?_
  refine lv_aload_n hx hb dX11_goSchism_43 rfl (lv_at hl 1 rfl) ?_
  refine mg_0 C hW dX11_goSchism_44 ?_
  obtain ⟨hne, hq⟩ := hq
  refine w_irem hx hb dX11_goSchism_47 hne ?_
  refine lv_topi (fun x3_8 ex3_8 => ?_)
  replace hq := hq _ ex3_8
  refine lv_istore_n (lv' := [(3, .int x3_8), (2, .int x1), (0, .ref g.2.1), (1, .int x1)]) hx hb dX11_goSchism_48 rfl hl (by decide) rfl (fun ls hl => ?_)
  obtain ⟨f49, hq⟩ := hq
  exact wX11_goSchism_L49 C hRf hRl hret f49 _ _ _ _ _ _ hW (lv_sub hl [2, 1, 0] rfl) hq
set_option maxHeartbeats 4000000 in
set_option maxRecDepth 100000 in
theorem mX11_goSchism {l : Launch} {g : MG} {σ : MS} {x1 : Int32} {P : MS → Prop} (hq : qX11_goSchism σ x1 P) (sz : Nat) : Met l yX11_goSchism (cws yX11_goSchism cX11_goSchism 7 none) ({ frames := 4, cells := 0, slots := 0, locals := 85 } : Room) (va_Pc [.ref g.2.1, .int x1] (WP g.1 (mw g) (mty g) σ sz)) (va_Qv P (WB g.1 (mw g) (mty g) σ sz) (va_A (mw g σ) sz)) 0 0 (va_A (mw g σ) sz) :=
  w_enter (by decide) (Nat.le_of_ble_eq_true rfl) (fun p e s m args below meth c ls C hr hk hn hs hW hl => wX11_goSchism C (Nat.le_refl _) (Nat.le_refl _) (fun pc ls σ H locs hd hW hq => w_vret C hs hr hk hW hd hq) hW hl hq)
set_option maxHeartbeats 4000000 in
set_option maxRecDepth 100000 in
theorem kX11_goSchism (C : CallFix p m c cc nL s args lwg RX11) {σ : MS} (hW : WI g.1 (mw g) (mty g) A s σ H locs) (hRf : 5 ≤ R.frames) (hRl : 111 ≤ R.locals) (hls : ls.size = nL) (hro : (rest.map fun v => v.category).sum ≤ 8) {x1 : Int32} (hd : decode cc pc = .ok (.invokevirtual 273, 3)) {P : MS → Prop} (hq : qX11_goSchism σ x1 P) (kk : ∀ (σ1 : MS) (H : Heap) (locs : List Loc), P σ1 → WI g.1 (mw g) (mty g) A s σ1 H locs → W p l e R s m args below meth c H locs 0 0 Q (F0 m (pc + 3) ls rest)) : W p l e R s m args below meth c H locs 0 0 Q (F0 m pc ls (.int x1 :: .ref g.2.1 :: rest)) :=
  w_callv hW (w_runV C hW (mX11_goSchism hq _) ⟨lwg_at 1302 (by decide +kernel) rfl, lwg_at 74 (by decide +kernel) rfl, lwg_at 1299 (by decide +kernel) rfl⟩ (lwg_at 1301 (by decide +kernel) rfl) (lwg_at 57 (by decide +kernel) rfl) (np := 1) (by decide +kernel) ⟨rfl, rfl⟩ ⟨hRf, hRl⟩ (ci := 12) rfl rfl (q0 := 0) rfl rfl hls rfl hro hd ⟨Nat.zero_le _, Nat.zero_le _⟩) kk
-- X11_schism
set_option maxHeartbeats 4000000 in
set_option maxRecDepth 100000 in
theorem wX11_schism (C : CallFix p m c cX11_schism 3 s args lwg RX11) (hRf : 5 ≤ R.frames) (hRl : 111 ≤ R.locals) {P : Int32 → MS → Prop} (hret : RetI g.1 (mw g) (mty g) A p l e R s m args below meth c 0 0 Q cX11_schism P) {σ : MS} {x1 : Int32} {x2 : Int32} {H : Heap} {locs : List Loc} {ls : Array Slot} (hW : WI g.1 (mw g) (mty g) A s σ H locs) (hl : lv_has ls 3 [(0, .ref g.2.1), (1, .int x1), (2, .int x2)]) (hq : qX11_schism σ x1 x2 P) : W p l e R s m args below meth c H locs 0 0 Q (F0 m 0 ls []) := by
  have hx := C.1
  have hb := C.2.1
  unfold qX11_schism at hq
  refine lv_aload_n hx hb dX11_schism_0 rfl (lv_at hl 0 rfl) ?_
  refine lv_iload_n hx hb dX11_schism_1 rfl (lv_at hl 1 rfl) ?_
  refine kX11_isSeat C hW (Nat.le_trans (by decide) hRf) (Nat.le_trans (by decide) hRl) hl.1 (Nat.le_of_ble_eq_true rfl) dX11_schism_2 hq (fun r_2 σ_1 H locs hq hW => ?_)
  refine lv_if_ne (tgt := 11) hx hb dX11_schism_5 (by decide) (fun h => ?_) (fun h => ?_)
  · replace hq := br_neg h hq
    refine lv_iload_n hx hb dX11_schism_11 rfl (lv_at hl 2 rfl) ?_
    refine lv_iconst (v := 0) hx hb dX11_schism_12 (by decide) ?_
    refine lv_bipush (v := 11) hx hb dX11_schism_13 (by decide) ?_
    refine kX11_within C hW (Nat.le_trans (by decide) hRf) (Nat.le_trans (by decide) hRl) hl.1 (Nat.le_of_ble_eq_true rfl) dX11_schism_15 hq (fun r_4 σ_3 H locs hq hW => ?_)
    refine lv_if_ne (tgt := 24) hx hb dX11_schism_18 (by decide) (fun h => ?_) (fun h => ?_)
    · replace hq := br_neg h hq
      refine lv_aload_n hx hb dX11_schism_24 rfl (lv_at hl 0 rfl) ?_
      refine lv_iload_n hx hb dX11_schism_25 rfl (lv_at hl 1 rfl) ?_
      refine kX11_goSchism C hW (Nat.le_trans (by decide) hRf) (Nat.le_trans (by decide) hRl) hl.1 (Nat.le_of_ble_eq_true rfl) dX11_schism_26 hq (fun σ_5 H locs hq hW => ?_)
      refine lv_iload_n hx hb dX11_schism_29 rfl (lv_at hl 2 rfl) ?_
      refine lv_bipush (v := 11) hx hb dX11_schism_30 (by decide) ?_
      refine lv_icmp_ne (tgt := 42) hx hb dX11_schism_32 (by decide) (fun h => ?_) (fun h => ?_)
      · replace hq := br_neg h hq
        refine lv_iload_n hx hb dX11_schism_42 rfl (lv_at hl 2 rfl) ?_
        refine lv_bipush (v := 10) hx hb dX11_schism_43 (by decide) ?_
        refine lv_icmp_ne (tgt := 55) hx hb dX11_schism_45 (by decide) (fun h => ?_) (fun h => ?_)
        · replace hq := br_neg h hq
          refine lv_iload_n hx hb dX11_schism_55 rfl (lv_at hl 2 rfl) ?_
          refine lv_aload_n hx hb dX11_schism_56 rfl (lv_at hl 0 rfl) ?_
          refine mg_0 C hW dX11_schism_57 ?_
          refine lv_icmp_ge (tgt := 72) hx hb dX11_schism_60 (by decide) (fun h => ?_) (fun h => ?_)
          · replace hq := br_pos h hq
            refine lv_iconst (v := (-1)) hx hb dX11_schism_72 (by decide) ?_
            exact hret _ _ _ _ _ _ dX11_schism_73 hW hq
          · replace hq := br_neg h hq
            refine lv_aload_n hx hb dX11_schism_63 rfl (lv_at hl 0 rfl) ?_
            refine mg_45 C hW dX11_schism_64 ?_
            refine lv_iload_n hx hb dX11_schism_67 rfl (lv_at hl 2 rfl) ?_
            obtain ⟨hin6, hq⟩ := hq
            refine ma_45 C hW hin6 dX11_schism_68 ?_
            refine lv_goto (tgt := 73) hx hb dX11_schism_69 (by decide) ?_
            exact hret _ _ _ _ _ _ dX11_schism_73 hW hq
        · replace hq := br_pos h hq
          refine lv_aload_n hx hb dX11_schism_48 rfl (lv_at hl 0 rfl) ?_
          refine mg_41 C hW dX11_schism_49 ?_
          refine lv_goto (tgt := 73) hx hb dX11_schism_52 (by decide) ?_
          exact hret _ _ _ _ _ _ dX11_schism_73 hW hq
      · replace hq := br_pos h hq
        refine lv_aload_n hx hb dX11_schism_35 rfl (lv_at hl 0 rfl) ?_
        refine kX11_soupLeft C hW (Nat.le_trans (by decide) hRf) (Nat.le_trans (by decide) hRl) hl.1 (Nat.le_of_ble_eq_true rfl) dX11_schism_36 hq (fun r_8 σ_7 H locs hq hW => ?_)
        refine lv_goto (tgt := 73) hx hb dX11_schism_39 (by decide) ?_
        exact hret _ _ _ _ _ _ dX11_schism_73 hW hq
    · replace hq := br_pos h hq
      refine lv_bipush (v := (-102)) hx hb dX11_schism_21 (by decide) ?_
      exact hret _ _ _ _ _ _ dX11_schism_23 hW hq
  · replace hq := br_pos h hq
    refine lv_bipush (v := (-101)) hx hb dX11_schism_8 (by decide) ?_
    exact hret _ _ _ _ _ _ dX11_schism_10 hW hq
set_option maxHeartbeats 4000000 in
set_option maxRecDepth 100000 in
theorem mX11_schism {l : Launch} {g : MG} {σ : MS} {x1 : Int32} {x2 : Int32} {P : Int32 → MS → Prop} (hq : qX11_schism σ x1 x2 P) (sz : Nat) : Met l yX11_schism (cws yX11_schism cX11_schism 3 (some .int)) ({ frames := 5, cells := 0, slots := 0, locals := 111 } : Room) (va_Pc [.ref g.2.1, .int x1, .int x2] (WP g.1 (mw g) (mty g) σ sz)) (va_Qi P (WB g.1 (mw g) (mty g) σ sz) (va_A (mw g σ) sz)) 0 0 (va_A (mw g σ) sz) :=
  w_enter (by decide) (Nat.le_of_ble_eq_true rfl) (fun p e s m args below meth c ls C hr hk hn hs hW hl => wX11_schism C (Nat.le_refl _) (Nat.le_refl _) (fun pc ls v σ H locs hd hW hq => w_iret C hs hr hk hW hd hq) hW hl hq)
-- X11_explains
set_option maxHeartbeats 4000000 in
set_option maxRecDepth 100000 in
theorem wX11_explains (C : CallFix p m c cX11_explains 6 s args lwg RX11) (hRf : 5 ≤ R.frames) (hRl : 109 ≤ R.locals) {P : Int32 → MS → Prop} (hret : RetZ g.1 (mw g) (mty g) A p l e R s m args below meth c 0 0 Q cX11_explains P) {σ : MS} {x1 : Int32} {x2 : Int32} {x3 : Int32} {x4 : Int32} {x5 : Int32} {H : Heap} {locs : List Loc} {ls : Array Slot} (hW : WI g.1 (mw g) (mty g) A s σ H locs) (hl : lv_has ls 6 [(0, .ref g.2.1), (1, .int x1), (2, .int x2), (3, .int x3), (4, .int x4), (5, .int x5)]) (hq : qX11_explains σ x1 x2 x3 x4 x5 P) : W p l e R s m args below meth c H locs 0 0 Q (F0 m 0 ls []) := by
  have hx := C.1
  have hb := C.2.1
  unfold qX11_explains at hq
  refine lv_aload_n hx hb dX11_explains_0 rfl (lv_at hl 0 rfl) ?_
  refine lv_iload_n hx hb dX11_explains_1 rfl (lv_at hl 1 rfl) ?_
  refine kX11_useVow C hW (Nat.le_trans (by decide) hRf) (Nat.le_trans (by decide) hRl) hl.1 (Nat.le_of_ble_eq_true rfl) dX11_explains_2 hq (fun σ_1 H locs hq hW => ?_)
  refine lv_aload_n hx hb dX11_explains_5 rfl (lv_at hl 0 rfl) ?_
  refine kX11_useStores C hW (Nat.le_trans (by decide) hRf) (Nat.le_trans (by decide) hRl) hl.1 (Nat.le_of_ble_eq_true rfl) dX11_explains_6 hq (fun σ_2 H locs hq hW => ?_)
  refine lv_aload_n hx hb dX11_explains_9 rfl (lv_at hl 0 rfl) ?_
  refine lv_iload hx hb dX11_explains_10 (lv_at hl 5 rfl) ?_
  refine mp_37 C hW dX11_explains_12 (fun σ_3 H locs eσ_3 hW => ?_)
  replace hq := hq _ eσ_3
  refine lv_aload_n hx hb dX11_explains_15 rfl (lv_at hl 0 rfl) ?_
  refine lv_iload_n hx hb dX11_explains_16 rfl (lv_at hl 2 rfl) ?_
  refine lv_iload_n hx hb dX11_explains_17 rfl (lv_at hl 3 rfl) ?_
  refine kX11_goDay C hW (Nat.le_trans (by decide) hRf) (Nat.le_trans (by decide) hRl) hl.1 (Nat.le_of_ble_eq_true rfl) dX11_explains_18 hq (fun σ_4 H locs hq hW => ?_)
  refine lv_aload_n hx hb dX11_explains_21 rfl (lv_at hl 0 rfl) ?_
  refine kX11_soupLeft C hW (Nat.le_trans (by decide) hRf) (Nat.le_trans (by decide) hRl) hl.1 (Nat.le_of_ble_eq_true rfl) dX11_explains_22 hq (fun r_6 σ_5 H locs hq hW => ?_)
  refine lv_iload hx hb dX11_explains_25 (lv_at hl 4 rfl) ?_
  refine lv_icmp_ne (tgt := 34) hx hb dX11_explains_27 (by decide) (fun h => ?_) (fun h => ?_)
  · replace hq := br_neg h hq
    refine lv_iconst (v := 0) hx hb dX11_explains_34 (by decide) ?_
    exact hret _ _ _ _ _ _ dX11_explains_35 hW isB_0 hq
  · replace hq := br_pos h hq
    refine lv_iconst (v := 1) hx hb dX11_explains_30 (by decide) ?_
    refine lv_goto (tgt := 35) hx hb dX11_explains_31 (by decide) ?_
    exact hret _ _ _ _ _ _ dX11_explains_35 hW isB_1 hq
set_option maxHeartbeats 4000000 in
set_option maxRecDepth 100000 in
theorem mX11_explains {l : Launch} {g : MG} {σ : MS} {x1 : Int32} {x2 : Int32} {x3 : Int32} {x4 : Int32} {x5 : Int32} {P : Int32 → MS → Prop} (hq : qX11_explains σ x1 x2 x3 x4 x5 P) (sz : Nat) : Met l yX11_explains (cws yX11_explains cX11_explains 6 (some .boolean)) ({ frames := 5, cells := 0, slots := 0, locals := 109 } : Room) (va_Pc [.ref g.2.1, .int x1, .int x2, .int x3, .int x4, .int x5] (WP g.1 (mw g) (mty g) σ sz)) (va_Qi P (WB g.1 (mw g) (mty g) σ sz) (va_A (mw g σ) sz)) 0 0 (va_A (mw g σ) sz) :=
  w_enter (by decide) (Nat.le_of_ble_eq_true rfl) (fun p e s m args below meth c ls C hr hk hn hs hW hl => wX11_explains C (Nat.le_refl _) (Nat.le_refl _) (fun pc ls v σ H locs hd hW hv hq => w_zret C hs hr hk hW hd hv hq) hW hl hq)
set_option maxHeartbeats 4000000 in
set_option maxRecDepth 100000 in
theorem kX11_explains (C : CallFix p m c cc nL s args lwg RX11) {σ : MS} (hW : WI g.1 (mw g) (mty g) A s σ H locs) (hRf : 6 ≤ R.frames) (hRl : 134 ≤ R.locals) (hls : ls.size = nL) (hro : (rest.map fun v => v.category).sum ≤ 8) {x1 : Int32} {x2 : Int32} {x3 : Int32} {x4 : Int32} {x5 : Int32} (hd : decode cc pc = .ok (.invokevirtual 276, 3)) {P : Int32 → MS → Prop} (hq : qX11_explains σ x1 x2 x3 x4 x5 P) (kk : ∀ (r : Int32) (σ1 : MS) (H : Heap) (locs : List Loc), P r σ1 → WI g.1 (mw g) (mty g) A s σ1 H locs → W p l e R s m args below meth c H locs 0 0 Q (F0 m (pc + 3) ls (.int r :: rest))) : W p l e R s m args below meth c H locs 0 0 Q (F0 m pc ls (.int x5 :: .int x4 :: .int x3 :: .int x2 :: .int x1 :: .ref g.2.1 :: rest)) :=
  w_calli hW (w_runV C hW (mX11_explains hq _) ⟨lwg_at 1314 (by decide +kernel) rfl, lwg_at 74 (by decide +kernel) rfl, lwg_at 1311 (by decide +kernel) rfl⟩ (lwg_at 1313 (by decide +kernel) rfl) (lwg_at 59 (by decide +kernel) rfl) (np := 5) (by decide +kernel) ⟨rfl, rfl⟩ ⟨hRf, hRl⟩ (ci := 12) rfl rfl (q0 := 0) rfl rfl hls rfl hro hd ⟨Nat.zero_le _, Nat.zero_le _⟩) kk
end
