section
variable {p : Program} {l : Launch} {e : Env} {R : Room} {s : State} {m : MethodId} {args : Array Value} {below : List Frame} {meth : Method} {c : Code} {H : Heap} {locs : List Loc} {cells slots : Nat} {Q : State → Prop}
variable {cc : ByteArray} {pc : Nat} {ls : Array Slot} {rest : List Value} {own : String} {nL : Nat}
variable {g : MG} {A : Nat → Prop}
-- X11_within
set_option maxHeartbeats 4000000 in
set_option maxRecDepth 100000 in
theorem wX11_within (C : CallFix p m c cX11_within 3 s args lwg RX11) (hRf : 0 ≤ R.frames) (hRl : 0 ≤ R.locals) {P : Int32 → MS → Prop} (hret : RetZ g.1 (mw g) (mty g) A p l e R s m args below meth c 0 0 Q cX11_within P) {σ : MS} {x0 : Int32} {x1 : Int32} {x2 : Int32} {H : Heap} {locs : List Loc} {ls : Array Slot} (hW : WI g.1 (mw g) (mty g) A s σ H locs) (hl : lv_has ls 3 [(0, .int x0), (1, .int x1), (2, .int x2)]) (hq : qX11_within σ x0 x1 x2 P) : W p l e R s m args below meth c H locs 0 0 Q (F0 m 0 ls []) := by
  have hx := C.1
  have hb := C.2.1
  unfold qX11_within at hq
  refine lv_iload_n hx hb dX11_within_0 rfl (lv_at hl 0 rfl) ?_
  refine lv_iload_n hx hb dX11_within_1 rfl (lv_at hl 1 rfl) ?_
  refine lv_icmp_lt (tgt := 14) hx hb dX11_within_2 (by decide) (fun h => ?_) (fun h => ?_)
  · replace hq := br_pos h hq
    refine lv_iconst (v := 0) hx hb dX11_within_14 (by decide) ?_
    exact hret _ _ _ _ _ _ dX11_within_15 hW isB_0 hq
  · replace hq := br_neg h hq
    refine lv_iload_n hx hb dX11_within_5 rfl (lv_at hl 0 rfl) ?_
    refine lv_iload_n hx hb dX11_within_6 rfl (lv_at hl 2 rfl) ?_
    refine lv_icmp_gt (tgt := 14) hx hb dX11_within_7 (by decide) (fun h => ?_) (fun h => ?_)
    · replace hq := br_pos h hq
      refine lv_iconst (v := 0) hx hb dX11_within_14 (by decide) ?_
      exact hret _ _ _ _ _ _ dX11_within_15 hW isB_0 hq
    · replace hq := br_neg h hq
      refine lv_iconst (v := 1) hx hb dX11_within_10 (by decide) ?_
      refine lv_goto (tgt := 15) hx hb dX11_within_11 (by decide) ?_
      exact hret _ _ _ _ _ _ dX11_within_15 hW isB_1 hq
set_option maxHeartbeats 4000000 in
set_option maxRecDepth 100000 in
theorem mX11_within {l : Launch} {g : MG} {σ : MS} {x0 : Int32} {x1 : Int32} {x2 : Int32} {P : Int32 → MS → Prop} (hq : qX11_within σ x0 x1 x2 P) (sz : Nat) : Met l yX11_within (cws yX11_within cX11_within 3 (some .boolean)) ({ frames := 0, cells := 0, slots := 0, locals := 0 } : Room) (va_Pc [.int x0, .int x1, .int x2] (WP g.1 (mw g) (mty g) σ sz)) (va_Qi P (WB g.1 (mw g) (mty g) σ sz) (va_A (mw g σ) sz)) 0 0 (va_A (mw g σ) sz) :=
  w_enter (by decide) (Nat.le_of_ble_eq_true rfl) (fun p e s m args below meth c ls C hr hk hn hs hW hl => wX11_within C (Nat.le_refl _) (Nat.le_refl _) (fun pc ls v σ H locs hd hW hv hq => w_zret C hs hr hk hW hd hv hq) hW hl hq)
set_option maxHeartbeats 4000000 in
set_option maxRecDepth 100000 in
theorem kX11_within (C : CallFix p m c cc nL s args lwg RX11) {σ : MS} (hW : WI g.1 (mw g) (mty g) A s σ H locs) (hRf : 1 ≤ R.frames) (hRl : 22 ≤ R.locals) (hls : ls.size = nL) (hro : (rest.map fun v => v.category).sum ≤ 8) {x0 : Int32} {x1 : Int32} {x2 : Int32} (hd : decode cc pc = .ok (.invokestatic 90, 3)) {P : Int32 → MS → Prop} (hq : qX11_within σ x0 x1 x2 P) (kk : ∀ (r : Int32) (σ1 : MS) (H : Heap) (locs : List Loc), P r σ1 → WI g.1 (mw g) (mty g) A s σ1 H locs → W p l e R s m args below meth c H locs 0 0 Q (F0 m (pc + 3) ls (.int r :: rest))) : W p l e R s m args below meth c H locs 0 0 Q (F0 m pc ls (.int x2 :: .int x1 :: .int x0 :: rest)) :=
  w_calli hW (w_runS C hW (mX11_within hq _) ⟨lwg_at 1086 (by decide +kernel) rfl, lwg_at 74 (by decide +kernel) rfl, lwg_at 1084 (by decide +kernel) rfl⟩ (lwg_at 1085 (by decide +kernel) rfl) (np := 3) (by decide +kernel) ⟨rfl, rfl⟩ ⟨hRf, hRl⟩ rfl hls rfl hro hd ⟨Nat.zero_le _, Nat.zero_le _⟩) kk
-- X11_has
set_option maxHeartbeats 4000000 in
set_option maxRecDepth 100000 in
theorem wX11_has (C : CallFix p m c cX11_has 2 s args lwg RX11) (hRf : 0 ≤ R.frames) (hRl : 0 ≤ R.locals) {P : Int32 → MS → Prop} (hret : RetZ g.1 (mw g) (mty g) A p l e R s m args below meth c 0 0 Q cX11_has P) {σ : MS} {x0 : Int32} {x1 : Int32} {H : Heap} {locs : List Loc} {ls : Array Slot} (hW : WI g.1 (mw g) (mty g) A s σ H locs) (hl : lv_has ls 2 [(0, .int x0), (1, .int x1)]) (hq : qX11_has σ x0 x1 P) : W p l e R s m args below meth c H locs 0 0 Q (F0 m 0 ls []) := by
  have hx := C.1
  have hb := C.2.1
  unfold qX11_has at hq
  refine lv_iload_n hx hb dX11_has_0 rfl (lv_at hl 0 rfl) ?_
  refine lv_iload_n hx hb dX11_has_1 rfl (lv_at hl 1 rfl) ?_
  refine w_ishr hx hb dX11_has_2 ?_
  refine lv_iconst (v := 1) hx hb dX11_has_3 (by decide) ?_
  refine lv_iand hx hb dX11_has_4 ?_
  refine lv_iconst (v := 1) hx hb dX11_has_5 (by decide) ?_
  refine lv_icmp_ne (tgt := 13) hx hb dX11_has_6 (by decide) (fun h => ?_) (fun h => ?_)
  · replace hq := br_neg h hq
    refine lv_iconst (v := 0) hx hb dX11_has_13 (by decide) ?_
    exact hret _ _ _ _ _ _ dX11_has_14 hW isB_0 hq
  · replace hq := br_pos h hq
    refine lv_iconst (v := 1) hx hb dX11_has_9 (by decide) ?_
    refine lv_goto (tgt := 14) hx hb dX11_has_10 (by decide) ?_
    exact hret _ _ _ _ _ _ dX11_has_14 hW isB_1 hq
set_option maxHeartbeats 4000000 in
set_option maxRecDepth 100000 in
theorem mX11_has {l : Launch} {g : MG} {σ : MS} {x0 : Int32} {x1 : Int32} {P : Int32 → MS → Prop} (hq : qX11_has σ x0 x1 P) (sz : Nat) : Met l yX11_has (cws yX11_has cX11_has 2 (some .boolean)) ({ frames := 0, cells := 0, slots := 0, locals := 0 } : Room) (va_Pc [.int x0, .int x1] (WP g.1 (mw g) (mty g) σ sz)) (va_Qi P (WB g.1 (mw g) (mty g) σ sz) (va_A (mw g σ) sz)) 0 0 (va_A (mw g σ) sz) :=
  w_enter (by decide) (Nat.le_of_ble_eq_true rfl) (fun p e s m args below meth c ls C hr hk hn hs hW hl => wX11_has C (Nat.le_refl _) (Nat.le_refl _) (fun pc ls v σ H locs hd hW hv hq => w_zret C hs hr hk hW hd hv hq) hW hl hq)
set_option maxHeartbeats 4000000 in
set_option maxRecDepth 100000 in
theorem kX11_has (C : CallFix p m c cc nL s args lwg RX11) {σ : MS} (hW : WI g.1 (mw g) (mty g) A s σ H locs) (hRf : 1 ≤ R.frames) (hRl : 21 ≤ R.locals) (hls : ls.size = nL) (hro : (rest.map fun v => v.category).sum ≤ 8) {x0 : Int32} {x1 : Int32} (hd : decode cc pc = .ok (.invokestatic 190, 3)) {P : Int32 → MS → Prop} (hq : qX11_has σ x0 x1 P) (kk : ∀ (r : Int32) (σ1 : MS) (H : Heap) (locs : List Loc), P r σ1 → WI g.1 (mw g) (mty g) A s σ1 H locs → W p l e R s m args below meth c H locs 0 0 Q (F0 m (pc + 3) ls (.int r :: rest))) : W p l e R s m args below meth c H locs 0 0 Q (F0 m pc ls (.int x1 :: .int x0 :: rest)) :=
  w_calli hW (w_runS C hW (mX11_has hq _) ⟨lwg_at 1209 (by decide +kernel) rfl, lwg_at 74 (by decide +kernel) rfl, lwg_at 1207 (by decide +kernel) rfl⟩ (lwg_at 1208 (by decide +kernel) rfl) (np := 2) (by decide +kernel) ⟨rfl, rfl⟩ ⟨hRf, hRl⟩ rfl hls rfl hro hd ⟨Nat.zero_le _, Nat.zero_le _⟩) kk
-- X11_letters
set_option maxHeartbeats 4000000 in
set_option maxRecDepth 100000 in
theorem wX11_letters_L102 (C : CallFix p m c cX11_letters 7 s args lwg RX11) (hRf : 0 ≤ R.frames) (hRl : 0 ≤ R.locals) {P : Int32 → MS → Prop} (hret : RetI g.1 (mw g) (mty g) A p l e R s m args below meth c 0 0 Q cX11_letters P) {e135 : MS → Int32 → Prop} (he135 : ∀ (σ : MS) (x3 : Int32) (H : Heap) (locs : List Loc) (ls : Array Slot), WI g.1 (mw g) (mty g) A s σ H locs → lv_has ls 7 [(0, .ref g.2.1), (3, .int x3)] → e135 σ x3 → W p l e R s m args below meth c H locs 0 0 Q (F0 m 135 ls [])) : ∀ (n : Nat) (σ : MS) (x1 : Int64) (x3 : Int32) (x5 : Int32) (H : Heap) (locs : List Loc) (ls : Array Slot), WI g.1 (mw g) (mty g) A s σ H locs → lv_has ls 7 [(0, .ref g.2.1), (1, .long x1), (3, .int x3), (5, .int x5)] → qX11_letters_L102 e135 P n σ x1 x3 x5 → W p l e R s m args below meth c H locs 0 0 Q (F0 m 102 ls []) := by
  have hx := C.1
  have hb := C.2.1
  intro n
  induction n with
  | zero =>
    intro σ x1 x3 x5 H locs ls hW hl hq
    rw [qX11_letters_L102] at hq
    exact hq.elim
  | succ n ih =>
    intro σ x1 x3 x5 H locs ls hW hl hq
    rw [qX11_letters_L102] at hq
    refine lv_iload hx hb dX11_letters_102 (lv_at hl 3 rfl) ?_
    refine lv_iload_n hx hb dX11_letters_104 rfl (lv_at hl 2 rfl) ?_
    refine lv_icmp_ge (tgt := 135) hx hb dX11_letters_105 (by decide) (fun h => ?_) (fun h => ?_)
    · replace hq := br_pos h hq
      exact he135 _ _ _ _ _ hW (lv_sub hl [0, 2] rfl) hq
    · replace hq := br_neg h hq
      refine lv_aload_n hx hb dX11_letters_108 rfl (lv_at hl 0 rfl) ?_
      refine mg_18 C hW dX11_letters_109 ?_
      refine lv_aload_n hx hb dX11_letters_112 rfl (lv_at hl 0 rfl) ?_
      refine mg_17 C hW dX11_letters_113 ?_
      refine lv_iload hx hb dX11_letters_116 (lv_at hl 3 rfl) ?_
      refine lv_iadd hx hb dX11_letters_118 ?_
      refine lv_lload_n hx hb dX11_letters_119 rfl (lv_at hl 1 rfl) ?_
      refine lv_bipush (v := 8) hx hb dX11_letters_120 (by decide) ?_
      refine lv_iload hx hb dX11_letters_122 (lv_at hl 3 rfl) ?_
      refine lv_imul hx hb dX11_letters_124 ?_
      refine w_lshr hx hb dX11_letters_125 ?_
      refine lv_l2i hx hb dX11_letters_126 rfl ?_
      refine lv_i2b hx hb dX11_letters_127 rfl ?_
      obtain ⟨hin1, hq⟩ := hq
      refine ms_18 C hW hin1 dX11_letters_128 (fun σ_2 H locs eσ_2 hW => ?_)
      replace hq := hq _ eσ_2
      obtain ⟨x5_3, ex5_3⟩ : ∃ y : Int32, y = x5 + 1 := ⟨_, rfl⟩
      replace hq := hq _ ex5_3
      refine lv_iinc (v := x5_3) (lv' := [(5, .int x5_3), (0, .ref g.2.1), (1, .long x1), (3, .int x3)]) hx hb dX11_letters_129 hl (k := 3) rfl (by rw [ex5_3]; rfl) (by decide) rfl (fun ls hl => ?_)
      refine lv_goto (tgt := 102) hx hb dX11_letters_132 (by decide) ?_
      exact ih _ _ _ _ _ _ _ hW (lv_sub hl [1, 2, 3, 0] rfl) hq
set_option maxHeartbeats 4000000 in
set_option maxRecDepth 100000 in
theorem wX11_letters_J49 (C : CallFix p m c cX11_letters 7 s args lwg RX11) (hRf : 0 ≤ R.frames) (hRl : 0 ≤ R.locals) {P : Int32 → MS → Prop} (hret : RetI g.1 (mw g) (mty g) A p l e R s m args below meth c 0 0 Q cX11_letters P) {k8 : MS → Int64 → Int32 → Int32 → Int32 → Prop} (hk8 : ∀ (σ : MS) (x1 : Int64) (x3 : Int32) (x4 : Int32) (x5 : Int32) (H : Heap) (locs : List Loc) (ls : Array Slot), WI g.1 (mw g) (mty g) A s σ H locs → lv_has ls 7 [(0, .ref g.2.1), (1, .long x1), (3, .int x3), (4, .int x4), (5, .int x5)] → k8 σ x1 x3 x4 x5 → W p l e R s m args below meth c H locs 0 0 Q (F0 m 8 ls [])) {e85 : MS → Int64 → Int32 → Prop} (he85 : ∀ (σ : MS) (x1 : Int64) (x3 : Int32) (H : Heap) (locs : List Loc) (ls : Array Slot), WI g.1 (mw g) (mty g) A s σ H locs → lv_has ls 7 [(0, .ref g.2.1), (1, .long x1), (3, .int x3)] → e85 σ x1 x3 → W p l e R s m args below meth c H locs 0 0 Q (F0 m 85 ls [])) {σ : MS} {x1 : Int64} {x3 : Int32} {x4 : Int32} {x5 : Int32} {x6 : Int32} {H : Heap} {locs : List Loc} {ls : Array Slot} (hW : WI g.1 (mw g) (mty g) A s σ H locs) (hl : lv_has ls 7 [(0, .ref g.2.1), (1, .long x1), (3, .int x3), (4, .int x4), (5, .int x5), (6, .int x6)]) (hq : qX11_letters_J49 k8 e85 P σ x1 x3 x4 x5 x6) : W p l e R s m args below meth c H locs 0 0 Q (F0 m 49 ls []) := by
  have hx := C.1
  have hb := C.2.1
  unfold qX11_letters_J49 at hq
  refine lv_iload hx hb dX11_letters_49 (lv_at hl 3 rfl) ?_
  refine (fun (K : ∀ v_1 : Int32, v_1 = ((if x4 = 0 then (if x6 = 0 then 1 else 0) else 1) : Int32) → W p l e R s m args below meth c H locs 0 0 Q (F0 m 64 ls (.int v_1 :: []))) => ?_) ?_
  · refine lv_if_ne (tgt := 59) hx hb dX11_letters_51 (by decide) (fun h51 => ?_) (fun h51 => ?_)
    · refine lv_iconst (v := 1) hx hb dX11_letters_59 (by decide) ?_
      refine lv_goto (tgt := 64) hx hb dX11_letters_60 (by decide) ?_
      exact K _ (by rw [if_neg h51])
    · refine lv_iload hx hb dX11_letters_54 (lv_at hl 5 rfl) ?_
      refine lv_if_ne (tgt := 63) hx hb dX11_letters_56 (by decide) (fun h56 => ?_) (fun h56 => ?_)
      · refine lv_iconst (v := 0) hx hb dX11_letters_63 (by decide) ?_
        exact K _ (by rw [if_pos h51, if_neg h56])
      · refine lv_iconst (v := 1) hx hb dX11_letters_59 (by decide) ?_
        refine lv_goto (tgt := 64) hx hb dX11_letters_60 (by decide) ?_
        exact K _ (by rw [if_pos h51, if_pos h56])
  intro v_1 ev_1
  replace hq := hq _ ev_1
  refine lv_istore (lv' := [(4, .int v_1), (0, .ref g.2.1), (1, .long x1), (3, .int x3), (5, .int x5), (6, .int x6)]) hx hb dX11_letters_64 hl (by decide) rfl (fun ls hl => ?_)
  refine lv_iload_n hx hb dX11_letters_66 rfl (lv_at hl 3 rfl) ?_
  refine lv_iload hx hb dX11_letters_67 (lv_at hl 5 rfl) ?_
  refine (fun (K : ∀ v_2 : Int32, v_2 = ((if x6 = 0 then 0 else 1) : Int32) → W p l e R s m args below meth c H locs 0 0 Q (F0 m 77 ls (.int v_2 :: [.int x3]))) => ?_) ?_
  · refine lv_if_ne (tgt := 76) hx hb dX11_letters_69 (by decide) (fun h69 => ?_) (fun h69 => ?_)
    · refine lv_iconst (v := 1) hx hb dX11_letters_76 (by decide) ?_
      exact K _ (by rw [if_neg h69])
    · refine lv_iconst (v := 0) hx hb dX11_letters_72 (by decide) ?_
      refine lv_goto (tgt := 77) hx hb dX11_letters_73 (by decide) ?_
      exact K _ (by rw [if_pos h69])
  intro v_2 ev_2
  replace hq := hq _ ev_2
  refine lv_iadd hx hb dX11_letters_77 ?_
  refine lv_topi (fun x3_3 ex3_3 => ?_)
  replace hq := hq _ ex3_3
  refine lv_istore_n (lv' := [(3, .int x3_3), (4, .int v_1), (0, .ref g.2.1), (1, .long x1), (5, .int x5), (6, .int x6)]) hx hb dX11_letters_78 rfl hl (by decide) rfl (fun ls hl => ?_)
  obtain ⟨x5_4, ex5_4⟩ : ∃ y : Int32, y = x5 + 1 := ⟨_, rfl⟩
  replace hq := hq _ ex5_4
  refine lv_iinc (v := x5_4) (lv' := [(5, .int x5_4), (3, .int x3_3), (4, .int v_1), (0, .ref g.2.1), (1, .long x1), (6, .int x6)]) hx hb dX11_letters_79 hl (k := 4) rfl (by rw [ex5_4]; rfl) (by decide) rfl (fun ls hl => ?_)
  refine lv_goto (tgt := 8) hx hb dX11_letters_82 (by decide) ?_
  exact hk8 _ _ _ _ _ _ _ _ hW (lv_sub hl [3, 4, 1, 2, 0] rfl) hq
set_option maxHeartbeats 4000000 in
set_option maxRecDepth 100000 in
theorem wX11_letters_L8 (C : CallFix p m c cX11_letters 7 s args lwg RX11) (hRf : 0 ≤ R.frames) (hRl : 0 ≤ R.locals) {P : Int32 → MS → Prop} (hret : RetI g.1 (mw g) (mty g) A p l e R s m args below meth c 0 0 Q cX11_letters P) {e85 : MS → Int64 → Int32 → Prop} (he85 : ∀ (σ : MS) (x1 : Int64) (x3 : Int32) (H : Heap) (locs : List Loc) (ls : Array Slot), WI g.1 (mw g) (mty g) A s σ H locs → lv_has ls 7 [(0, .ref g.2.1), (1, .long x1), (3, .int x3)] → e85 σ x1 x3 → W p l e R s m args below meth c H locs 0 0 Q (F0 m 85 ls [])) : ∀ (n : Nat) (σ : MS) (x1 : Int64) (x3 : Int32) (x4 : Int32) (x5 : Int32) (H : Heap) (locs : List Loc) (ls : Array Slot), WI g.1 (mw g) (mty g) A s σ H locs → lv_has ls 7 [(0, .ref g.2.1), (1, .long x1), (3, .int x3), (4, .int x4), (5, .int x5)] → qX11_letters_L8 e85 P n σ x1 x3 x4 x5 → W p l e R s m args below meth c H locs 0 0 Q (F0 m 8 ls []) := by
  have hx := C.1
  have hb := C.2.1
  intro n
  induction n with
  | zero =>
    intro σ x1 x3 x4 x5 H locs ls hW hl hq
    rw [qX11_letters_L8] at hq
    exact hq.elim
  | succ n ih =>
    intro σ x1 x3 x4 x5 H locs ls hW hl hq
    rw [qX11_letters_L8] at hq
    refine lv_iload hx hb dX11_letters_8 (lv_at hl 4 rfl) ?_
    refine lv_bipush (v := 8) hx hb dX11_letters_10 (by decide) ?_
    refine lv_icmp_ge (tgt := 85) hx hb dX11_letters_12 (by decide) (fun h => ?_) (fun h => ?_)
    · replace hq := br_pos h hq
      exact he85 _ _ _ _ _ _ hW (lv_sub hl [0, 1, 2] rfl) hq
    · replace hq := br_neg h hq
      refine lv_lload_n hx hb dX11_letters_15 rfl (lv_at hl 1 rfl) ?_
      refine lv_bipush (v := 8) hx hb dX11_letters_16 (by decide) ?_
      refine lv_iload hx hb dX11_letters_18 (lv_at hl 4 rfl) ?_
      refine lv_imul hx hb dX11_letters_20 ?_
      refine w_lshr hx hb dX11_letters_21 ?_
      refine lv_ldc2 (own := RX11) (v := 255) hx hb C.2.2.2.1 (C.2.2.2.2 _ (lwg_at 1067 (by decide +kernel) rfl)) dX11_letters_22 ?_
      refine lv_land hx hb dX11_letters_25 ?_
      refine lv_l2i hx hb dX11_letters_26 rfl ?_
      refine lv_topi (fun x6_1 ex6_1 => ?_)
      replace hq := hq _ ex6_1
      refine lv_istore (lv' := [(6, .int x6_1), (0, .ref g.2.1), (1, .long x1), (3, .int x3), (4, .int x4), (5, .int x5)]) hx hb dX11_letters_27 hl (by decide) rfl (fun ls hl => ?_)
      refine lv_iload hx hb dX11_letters_29 (lv_at hl 0 rfl) ?_
      refine lv_bipush (v := 126) hx hb dX11_letters_31 (by decide) ?_
      refine lv_icmp_gt (tgt := 46) hx hb dX11_letters_33 (by decide) (fun h => ?_) (fun h => ?_)
      · replace hq := br_pos h hq
        refine lv_bipush (v := (-102)) hx hb dX11_letters_46 (by decide) ?_
        exact hret _ _ _ _ _ _ dX11_letters_48 hW hq
      · replace hq := br_neg h hq
        refine lv_iload hx hb dX11_letters_36 (lv_at hl 4 rfl) ?_
        refine lv_if_eq (tgt := 49) hx hb dX11_letters_38 (by decide) (fun h => ?_) (fun h => ?_)
        · replace hq := br_pos h hq
          exact wX11_letters_J49 C hRf hRl hret ih he85 hW (lv_sub hl [1, 2, 3, 4, 5, 0] rfl) hq
        · replace hq := br_neg h hq
          refine lv_iload hx hb dX11_letters_41 (lv_at hl 0 rfl) ?_
          refine lv_if_eq (tgt := 49) hx hb dX11_letters_43 (by decide) (fun h => ?_) (fun h => ?_)
          · replace hq := br_pos h hq
            exact wX11_letters_J49 C hRf hRl hret ih he85 hW (lv_sub hl [1, 2, 3, 4, 5, 0] rfl) hq
          · replace hq := br_neg h hq
            refine lv_bipush (v := (-102)) hx hb dX11_letters_46 (by decide) ?_
            exact hret _ _ _ _ _ _ dX11_letters_48 hW hq
set_option maxHeartbeats 4000000 in
set_option maxRecDepth 100000 in
theorem wX11_letters (C : CallFix p m c cX11_letters 7 s args lwg RX11) (hRf : 0 ≤ R.frames) (hRl : 0 ≤ R.locals) {P : Int32 → MS → Prop} (hret : RetI g.1 (mw g) (mty g) A p l e R s m args below meth c 0 0 Q cX11_letters P) {σ : MS} {x1 : Int64} {H : Heap} {locs : List Loc} {ls : Array Slot} (hW : WI g.1 (mw g) (mty g) A s σ H locs) (hl : lv_has ls 7 [(0, .ref g.2.1), (1, .long x1)]) (hq : qX11_letters σ x1 P) : W p l e R s m args below meth c H locs 0 0 Q (F0 m 0 ls []) := by
  have hx := C.1
  have hb := C.2.1
  unfold qX11_letters at hq
  refine lv_iconst (v := 0) hx hb dX11_letters_0 (by decide) ?_
  refine lv_istore_n (lv' := [(3, .int 0), (0, .ref g.2.1), (1, .long x1)]) hx hb dX11_letters_1 rfl hl (by decide) rfl (fun ls hl => ?_)
  refine lv_iconst (v := 0) hx hb dX11_letters_2 (by decide) ?_
  refine lv_istore (lv' := [(4, .int 0), (3, .int 0), (0, .ref g.2.1), (1, .long x1)]) hx hb dX11_letters_3 hl (by decide) rfl (fun ls hl => ?_)
  refine lv_iconst (v := 0) hx hb dX11_letters_5 (by decide) ?_
  refine lv_istore (lv' := [(5, .int 0), (4, .int 0), (3, .int 0), (0, .ref g.2.1), (1, .long x1)]) hx hb dX11_letters_6 hl (by decide) rfl (fun ls hl => ?_)
  obtain ⟨f8, hq⟩ := hq
  refine wX11_letters_L8 C hRf hRl hret ?_ f8 _ _ _ _ _ _ _ _ hW (lv_sub hl [3, 4, 2, 1, 0] rfl) hq
  · intro σ_3 x1_1 x3_2 H locs ls hW hl hq
    refine lv_aload_n hx hb dX11_letters_85 rfl (lv_at hl 0 rfl) ?_
    refine mg_17 C hW dX11_letters_86 ?_
    refine lv_iload_n hx hb dX11_letters_89 rfl (lv_at hl 2 rfl) ?_
    refine lv_iadd hx hb dX11_letters_90 ?_
    refine lv_bipush (v := 16) hx hb dX11_letters_91 (by decide) ?_
    refine lv_icmp_le (tgt := 99) hx hb dX11_letters_93 (by decide) (fun h => ?_) (fun h => ?_)
    · replace hq := br_pos h hq
      refine lv_iconst (v := 0) hx hb dX11_letters_99 (by decide) ?_
      refine lv_istore (lv' := [(5, .int 0), (0, .ref g.2.1), (1, .long x1_1), (3, .int x3_2)]) hx hb dX11_letters_100 hl (by decide) rfl (fun ls hl => ?_)
      obtain ⟨f102, hq⟩ := hq
      refine wX11_letters_L102 C hRf hRl hret ?_ f102 _ _ _ _ _ _ _ hW (lv_sub hl [1, 2, 3, 0] rfl) hq
      · intro σ_5 x3_4 H locs ls hW hl hq
        refine lv_aload_n hx hb dX11_letters_135 rfl (lv_at hl 0 rfl) ?_
        refine lv_dup hx hb dX11_letters_136 rfl ?_
        refine mg_17 C hW dX11_letters_137 ?_
        refine lv_iload_n hx hb dX11_letters_140 rfl (lv_at hl 1 rfl) ?_
        refine lv_iadd hx hb dX11_letters_141 ?_
        refine mp_17 C hW dX11_letters_142 (fun σ_6 H locs eσ_6 hW => ?_)
        replace hq := hq _ eσ_6
        refine lv_aload_n hx hb dX11_letters_145 rfl (lv_at hl 0 rfl) ?_
        refine mg_17 C hW dX11_letters_146 ?_
        exact hret _ _ _ _ _ _ dX11_letters_149 hW hq
    · replace hq := br_neg h hq
      refine lv_bipush (v := (-104)) hx hb dX11_letters_96 (by decide) ?_
      exact hret _ _ _ _ _ _ dX11_letters_98 hW hq
set_option maxHeartbeats 4000000 in
set_option maxRecDepth 100000 in
theorem mX11_letters {l : Launch} {g : MG} {σ : MS} {x1 : Int64} {P : Int32 → MS → Prop} (hq : qX11_letters σ x1 P) (sz : Nat) : Met l yX11_letters (cws yX11_letters cX11_letters 7 (some .int)) ({ frames := 0, cells := 0, slots := 0, locals := 0 } : Room) (va_Pc [.ref g.2.1, .long x1] (WP g.1 (mw g) (mty g) σ sz)) (va_Qi P (WB g.1 (mw g) (mty g) σ sz) (va_A (mw g σ) sz)) 0 0 (va_A (mw g σ) sz) :=
  w_enter (by decide) (Nat.le_of_ble_eq_true rfl) (fun p e s m args below meth c ls C hr hk hn hs hW hl => wX11_letters C (Nat.le_refl _) (Nat.le_refl _) (fun pc ls v σ H locs hd hW hq => w_iret C hs hr hk hW hd hq) hW hl hq)
-- X11_blank
set_option maxHeartbeats 4000000 in
set_option maxRecDepth 100000 in
theorem wX11_blank (C : CallFix p m c cX11_blank 2 s args lwg RX11) (hRf : 0 ≤ R.frames) (hRl : 0 ≤ R.locals) {P : Int32 → MS → Prop} (hret : RetI g.1 (mw g) (mty g) A p l e R s m args below meth c 0 0 Q cX11_blank P) {σ : MS} {H : Heap} {locs : List Loc} {ls : Array Slot} (hW : WI g.1 (mw g) (mty g) A s σ H locs) (hl : lv_has ls 2 [(0, .ref g.2.1)]) (hq : qX11_blank σ  P) : W p l e R s m args below meth c H locs 0 0 Q (F0 m 0 ls []) := by
  have hx := C.1
  have hb := C.2.1
  unfold qX11_blank at hq
  refine lv_aload_n hx hb dX11_blank_0 rfl (lv_at hl 0 rfl) ?_
  refine mg_17 C hW dX11_blank_1 ?_
  refine lv_topi (fun x1_1 ex1_1 => ?_)
  replace hq := hq _ ex1_1
  refine lv_istore_n (lv' := [(1, .int x1_1), (0, .ref g.2.1)]) hx hb dX11_blank_4 rfl hl (by decide) rfl (fun ls hl => ?_)
  refine lv_aload_n hx hb dX11_blank_5 rfl (lv_at hl 1 rfl) ?_
  refine lv_iconst (v := 0) hx hb dX11_blank_6 (by decide) ?_
  refine mp_17 C hW dX11_blank_7 (fun σ_2 H locs eσ_2 hW => ?_)
  replace hq := hq _ eσ_2
  refine lv_iload_n hx hb dX11_blank_10 rfl (lv_at hl 0 rfl) ?_
  exact hret _ _ _ _ _ _ dX11_blank_11 hW hq
set_option maxHeartbeats 4000000 in
set_option maxRecDepth 100000 in
theorem mX11_blank {l : Launch} {g : MG} {σ : MS} {P : Int32 → MS → Prop} (hq : qX11_blank σ  P) (sz : Nat) : Met l yX11_blank (cws yX11_blank cX11_blank 2 (some .int)) ({ frames := 0, cells := 0, slots := 0, locals := 0 } : Room) (va_Pc [.ref g.2.1] (WP g.1 (mw g) (mty g) σ sz)) (va_Qi P (WB g.1 (mw g) (mty g) σ sz) (va_A (mw g σ) sz)) 0 0 (va_A (mw g σ) sz) :=
  w_enter (by decide) (Nat.le_of_ble_eq_true rfl) (fun p e s m args below meth c ls C hr hk hn hs hW hl => wX11_blank C (Nat.le_refl _) (Nat.le_refl _) (fun pc ls v σ H locs hd hW hq => w_iret C hs hr hk hW hd hq) hW hl hq)
-- X11_afterTurns
set_option maxHeartbeats 4000000 in
set_option maxRecDepth 100000 in
theorem wX11_afterTurns (C : CallFix p m c cX11_afterTurns 2 s args lwg RX11) (hRf : 0 ≤ R.frames) (hRl : 0 ≤ R.locals) {P : Int32 → MS → Prop} (hret : RetI g.1 (mw g) (mty g) A p l e R s m args below meth c 0 0 Q cX11_afterTurns P) {σ : MS} {x1 : Int32} {H : Heap} {locs : List Loc} {ls : Array Slot} (hW : WI g.1 (mw g) (mty g) A s σ H locs) (hl : lv_has ls 2 [(0, .ref g.2.1), (1, .int x1)]) (hq : qX11_afterTurns σ x1 P) : W p l e R s m args below meth c H locs 0 0 Q (F0 m 0 ls []) := by
  have hx := C.1
  have hb := C.2.1
  unfold qX11_afterTurns at hq
  refine lv_aload_n hx hb dX11_afterTurns_0 rfl (lv_at hl 0 rfl) ?_
  refine lv_iload_n hx hb dX11_afterTurns_1 rfl (lv_at hl 1 rfl) ?_
  refine lv_bipush (v := 100) hx hb dX11_afterTurns_2 (by decide) ?_
  refine (fun (K : ∀ v_1 : Int32, v_1 = ((if x1 = 100 then 1 else 0) : Int32) → W p l e R s m args below meth c H locs 0 0 Q (F0 m 12 ls (.int v_1 :: [.ref g.2.1]))) => ?_) ?_
  · refine lv_icmp_ne (tgt := 11) hx hb dX11_afterTurns_4 (by decide) (fun h4 => ?_) (fun h4 => ?_)
    · refine lv_iconst (v := 0) hx hb dX11_afterTurns_11 (by decide) ?_
      exact K _ (by rw [if_neg h4])
    · refine lv_iconst (v := 1) hx hb dX11_afterTurns_7 (by decide) ?_
      refine lv_goto (tgt := 12) hx hb dX11_afterTurns_8 (by decide) ?_
      exact K _ (by rw [if_pos h4])
  intro v_1 ev_1
  replace hq := hq _ ev_1
  refine mp_30 C hW (by rw [ev_1]; exact (isB_ite isB_1 isB_0)) dX11_afterTurns_12 (fun σ_2 H locs eσ_2 hW => ?_)
  replace hq := hq _ eσ_2
  refine lv_iload_n hx hb dX11_afterTurns_15 rfl (lv_at hl 1 rfl) ?_
  refine lv_bipush (v := 100) hx hb dX11_afterTurns_16 (by decide) ?_
  refine lv_icmp_ne (tgt := 25) hx hb dX11_afterTurns_18 (by decide) (fun h => ?_) (fun h => ?_)
  · replace hq := br_neg h hq
    refine lv_iload_n hx hb dX11_afterTurns_25 rfl (lv_at hl 1 rfl) ?_
    refine lv_bipush (v := 120) hx hb dX11_afterTurns_26 (by decide) ?_
    refine lv_icmp_ne (tgt := 35) hx hb dX11_afterTurns_28 (by decide) (fun h => ?_) (fun h => ?_)
    · replace hq := br_neg h hq
      refine lv_iconst (v := (-1)) hx hb dX11_afterTurns_35 (by decide) ?_
      exact hret _ _ _ _ _ _ dX11_afterTurns_36 hW hq
    · replace hq := br_pos h hq
      refine lv_iconst (v := 5) hx hb dX11_afterTurns_31 (by decide) ?_
      refine lv_goto (tgt := 36) hx hb dX11_afterTurns_32 (by decide) ?_
      exact hret _ _ _ _ _ _ dX11_afterTurns_36 hW hq
  · replace hq := br_pos h hq
    refine lv_iconst (v := 4) hx hb dX11_afterTurns_21 (by decide) ?_
    refine lv_goto (tgt := 36) hx hb dX11_afterTurns_22 (by decide) ?_
    exact hret _ _ _ _ _ _ dX11_afterTurns_36 hW hq
set_option maxHeartbeats 4000000 in
set_option maxRecDepth 100000 in
theorem mX11_afterTurns {l : Launch} {g : MG} {σ : MS} {x1 : Int32} {P : Int32 → MS → Prop} (hq : qX11_afterTurns σ x1 P) (sz : Nat) : Met l yX11_afterTurns (cws yX11_afterTurns cX11_afterTurns 2 (some .int)) ({ frames := 0, cells := 0, slots := 0, locals := 0 } : Room) (va_Pc [.ref g.2.1, .int x1] (WP g.1 (mw g) (mty g) σ sz)) (va_Qi P (WB g.1 (mw g) (mty g) σ sz) (va_A (mw g σ) sz)) 0 0 (va_A (mw g σ) sz) :=
  w_enter (by decide) (Nat.le_of_ble_eq_true rfl) (fun p e s m args below meth c ls C hr hk hn hs hW hl => wX11_afterTurns C (Nat.le_refl _) (Nat.le_refl _) (fun pc ls v σ H locs hd hW hq => w_iret C hs hr hk hW hd hq) hW hl hq)
set_option maxHeartbeats 4000000 in
set_option maxRecDepth 100000 in
theorem kX11_afterTurns (C : CallFix p m c cc nL s args lwg RX11) {σ : MS} (hW : WI g.1 (mw g) (mty g) A s σ H locs) (hRf : 1 ≤ R.frames) (hRl : 21 ≤ R.locals) (hls : ls.size = nL) (hro : (rest.map fun v => v.category).sum ≤ 8) {x1 : Int32} (hd : decode cc pc = .ok (.invokevirtual 98, 3)) {P : Int32 → MS → Prop} (hq : qX11_afterTurns σ x1 P) (kk : ∀ (r : Int32) (σ1 : MS) (H : Heap) (locs : List Loc), P r σ1 → WI g.1 (mw g) (mty g) A s σ1 H locs → W p l e R s m args below meth c H locs 0 0 Q (F0 m (pc + 3) ls (.int r :: rest))) : W p l e R s m args below meth c H locs 0 0 Q (F0 m pc ls (.int x1 :: .ref g.2.1 :: rest)) :=
  w_calli hW (w_runV C hW (mX11_afterTurns hq _) ⟨lwg_at 1090 (by decide +kernel) rfl, lwg_at 74 (by decide +kernel) rfl, lwg_at 1087 (by decide +kernel) rfl⟩ (lwg_at 1089 (by decide +kernel) rfl) (lwg_at 27 (by decide +kernel) rfl) (np := 1) (by decide +kernel) ⟨rfl, rfl⟩ ⟨hRf, hRl⟩ (ci := 12) rfl rfl (q0 := 0) rfl rfl hls rfl hro hd ⟨Nat.zero_le _, Nat.zero_le _⟩) kk
-- X11_nextState
set_option maxHeartbeats 4000000 in
set_option maxRecDepth 100000 in
theorem wX11_nextState_J75 (C : CallFix p m c cX11_nextState 4 s args lwg RX11) (hRf : 1 ≤ R.frames) (hRl : 22 ≤ R.locals) {P : Int32 → MS → Prop} (hret : RetI g.1 (mw g) (mty g) A p l e R s m args below meth c 0 0 Q cX11_nextState P) {σ : MS} {H : Heap} {locs : List Loc} {ls : Array Slot} (hW : WI g.1 (mw g) (mty g) A s σ H locs) (hl : lv_has ls 4 [(0, .ref g.2.1)]) (hq : qX11_nextState_J75  P σ ) : W p l e R s m args below meth c H locs 0 0 Q (F0 m 75 ls []) := by
  have hx := C.1
  have hb := C.2.1
  unfold qX11_nextState_J75 at hq
  refine lv_iconst (v := 1) hx hb dX11_nextState_75 (by decide) ?_
  refine lv_goto (tgt := 80) hx hb dX11_nextState_76 (by decide) ?_
  exact hret _ _ _ _ _ _ dX11_nextState_80 hW hq
set_option maxHeartbeats 4000000 in
set_option maxRecDepth 100000 in
theorem wX11_nextState (C : CallFix p m c cX11_nextState 4 s args lwg RX11) (hRf : 1 ≤ R.frames) (hRl : 22 ≤ R.locals) {P : Int32 → MS → Prop} (hret : RetI g.1 (mw g) (mty g) A p l e R s m args below meth c 0 0 Q cX11_nextState P) {σ : MS} {x1 : Int32} {x2 : Int32} {H : Heap} {locs : List Loc} {ls : Array Slot} (hW : WI g.1 (mw g) (mty g) A s σ H locs) (hl : lv_has ls 4 [(0, .ref g.2.1), (1, .int x1), (2, .int x2)]) (hq : qX11_nextState σ x1 x2 P) : W p l e R s m args below meth c H locs 0 0 Q (F0 m 0 ls []) := by
  have hx := C.1
  have hb := C.2.1
  unfold qX11_nextState at hq
  refine lv_iload_n hx hb dX11_nextState_0 rfl (lv_at hl 2 rfl) ?_
  refine lv_bipush (v := 49) hx hb dX11_nextState_1 (by decide) ?_
  refine lv_bipush (v := 57) hx hb dX11_nextState_3 (by decide) ?_
  refine kX11_within C hW (Nat.le_trans (by decide) hRf) (Nat.le_trans (by decide) hRl) hl.1 (Nat.le_of_ble_eq_true rfl) dX11_nextState_5 hq (fun r_2 σ_1 H locs hq hW => ?_)
  refine lv_istore_n (lv' := [(3, .int r_2), (0, .ref g.2.1), (1, .int x1), (2, .int x2)]) hx hb dX11_nextState_8 rfl hl (by decide) rfl (fun ls hl => ?_)
  refine lv_iload_n hx hb dX11_nextState_9 rfl (lv_at hl 2 rfl) ?_
  by_cases h10_0 : x1 = 0
  · replace hq := br_pos h10_0 hq
    refine lv_tableIn (off := 38) (tgt := 48) hx hb dX11_nextState_10 (by rw [h10_0]; decide) (by rw [h10_0]; decide) (by rw [h10_0]; decide) (by decide) ?_
    refine lv_aload_n hx hb dX11_nextState_48 rfl (lv_at hl 1 rfl) ?_
    refine lv_iload_n hx hb dX11_nextState_49 rfl (lv_at hl 3 rfl) ?_
    refine lv_bipush (v := 108) hx hb dX11_nextState_50 (by decide) ?_
    refine (fun (K : ∀ v_3 : Int32, v_3 = ((if x2 = 108 then 1 else 0) : Int32) → W p l e R s m args below meth c H locs 0 0 Q (F0 m 60 ls (.int v_3 :: [.ref g.2.1]))) => ?_) ?_
    · refine lv_icmp_ne (tgt := 59) hx hb dX11_nextState_52 (by decide) (fun h52 => ?_) (fun h52 => ?_)
      · refine lv_iconst (v := 0) hx hb dX11_nextState_59 (by decide) ?_
        exact K _ (by rw [if_neg h52])
      · refine lv_iconst (v := 1) hx hb dX11_nextState_55 (by decide) ?_
        refine lv_goto (tgt := 60) hx hb dX11_nextState_56 (by decide) ?_
        exact K _ (by rw [if_pos h52])
    intro v_3 ev_3
    replace hq := hq _ ev_3
    refine mp_28 C hW (by rw [ev_3]; exact (isB_ite isB_1 isB_0)) dX11_nextState_60 (fun σ_4 H locs eσ_4 hW => ?_)
    replace hq := hq _ eσ_4
    refine lv_iload_n hx hb dX11_nextState_63 rfl (lv_at hl 3 rfl) ?_
    refine lv_bipush (v := 108) hx hb dX11_nextState_64 (by decide) ?_
    refine lv_icmp_eq (tgt := 75) hx hb dX11_nextState_66 (by decide) (fun h => ?_) (fun h => ?_)
    · replace hq := br_pos h hq
      exact wX11_nextState_J75 C hRf hRl hret  hW (lv_sub hl [1] rfl) hq
    · replace hq := br_neg h hq
      refine lv_iload_n hx hb dX11_nextState_69 rfl (lv_at hl 3 rfl) ?_
      refine lv_bipush (v := 114) hx hb dX11_nextState_70 (by decide) ?_
      refine lv_icmp_ne (tgt := 79) hx hb dX11_nextState_72 (by decide) (fun h => ?_) (fun h => ?_)
      · replace hq := br_neg h hq
        refine lv_iconst (v := (-1)) hx hb dX11_nextState_79 (by decide) ?_
        exact hret _ _ _ _ _ _ dX11_nextState_80 hW hq
      · replace hq := br_pos h hq
        exact wX11_nextState_J75 C hRf hRl hret  hW (lv_sub hl [1] rfl) hq
  · replace hq := br_neg h10_0 hq
    by_cases h10_1 : x1 = 1
    · replace hq := br_pos h10_1 hq
      refine lv_tableIn (off := 71) (tgt := 81) hx hb dX11_nextState_10 (by rw [h10_1]; decide) (by rw [h10_1]; decide) (by rw [h10_1]; decide) (by decide) ?_
      refine lv_iload_n hx hb dX11_nextState_81 rfl (lv_at hl 3 rfl) ?_
      refine lv_bipush (v := 116) hx hb dX11_nextState_82 (by decide) ?_
      refine lv_icmp_ne (tgt := 91) hx hb dX11_nextState_84 (by decide) (fun h => ?_) (fun h => ?_)
      · replace hq := br_neg h hq
        refine lv_aload_n hx hb dX11_nextState_91 rfl (lv_at hl 1 rfl) ?_
        refine lv_iload_n hx hb dX11_nextState_92 rfl (lv_at hl 3 rfl) ?_
        refine kX11_afterTurns C hW (Nat.le_trans (by decide) hRf) (Nat.le_trans (by decide) hRl) hl.1 (Nat.le_of_ble_eq_true rfl) dX11_nextState_93 hq (fun r_6 σ_5 H locs hq hW => ?_)
        exact hret _ _ _ _ _ _ dX11_nextState_96 hW hq
      · replace hq := br_pos h hq
        refine lv_iconst (v := 2) hx hb dX11_nextState_87 (by decide) ?_
        refine lv_goto (tgt := 96) hx hb dX11_nextState_88 (by decide) ?_
        exact hret _ _ _ _ _ _ dX11_nextState_96 hW hq
    · replace hq := br_neg h10_1 hq
      by_cases h10_2 : x1 = 2
      · replace hq := br_pos h10_2 hq
        refine lv_tableIn (off := 87) (tgt := 97) hx hb dX11_nextState_10 (by rw [h10_2]; decide) (by rw [h10_2]; decide) (by rw [h10_2]; decide) (by decide) ?_
        refine lv_aload_n hx hb dX11_nextState_97 rfl (lv_at hl 1 rfl) ?_
        refine lv_iload_n hx hb dX11_nextState_98 rfl (lv_at hl 0 rfl) ?_
        refine (fun (K : ∀ v_7 : Int32, v_7 = ((if r_2 = 0 then (σ_1.1 29) else (x2 - 48)) : Int32) → W p l e R s m args below meth c H locs 0 0 Q (F0 m 113 ls (.int v_7 :: [.ref g.2.1]))) => ?_) ?_
        · refine lv_if_eq (tgt := 109) hx hb dX11_nextState_99 (by decide) (fun h99 => ?_) (fun h99 => ?_)
          · refine lv_aload_n hx hb dX11_nextState_109 rfl (lv_at hl 1 rfl) ?_
            refine mg_29 C hW dX11_nextState_110 ?_
            exact K _ (by rw [if_pos h99])
          · refine lv_iload_n hx hb dX11_nextState_102 rfl (lv_at hl 3 rfl) ?_
            refine lv_bipush (v := 48) hx hb dX11_nextState_103 (by decide) ?_
            refine lv_isub hx hb dX11_nextState_105 ?_
            refine lv_goto (tgt := 113) hx hb dX11_nextState_106 (by decide) ?_
            exact K _ (by rw [if_neg h99])
        intro v_7 ev_7
        replace hq := hq _ ev_7
        refine mp_29 C hW dX11_nextState_113 (fun σ_8 H locs eσ_8 hW => ?_)
        replace hq := hq _ eσ_8
        refine lv_iload_n hx hb dX11_nextState_116 rfl (lv_at hl 0 rfl) ?_
        refine lv_if_eq (tgt := 124) hx hb dX11_nextState_117 (by decide) (fun h => ?_) (fun h => ?_)
        · replace hq := br_pos h hq
          refine lv_iconst (v := (-1)) hx hb dX11_nextState_124 (by decide) ?_
          exact hret _ _ _ _ _ _ dX11_nextState_125 hW hq
        · replace hq := br_neg h hq
          refine lv_iconst (v := 3) hx hb dX11_nextState_120 (by decide) ?_
          refine lv_goto (tgt := 125) hx hb dX11_nextState_121 (by decide) ?_
          exact hret _ _ _ _ _ _ dX11_nextState_125 hW hq
      · replace hq := br_neg h10_2 hq
        by_cases h10_3 : x1 = 3
        · replace hq := br_pos h10_3 hq
          refine lv_tableIn (off := 116) (tgt := 126) hx hb dX11_nextState_10 (by rw [h10_3]; decide) (by rw [h10_3]; decide) (by rw [h10_3]; decide) (by decide) ?_
          refine lv_aload_n hx hb dX11_nextState_126 rfl (lv_at hl 1 rfl) ?_
          refine lv_iload_n hx hb dX11_nextState_127 rfl (lv_at hl 3 rfl) ?_
          refine kX11_afterTurns C hW (Nat.le_trans (by decide) hRf) (Nat.le_trans (by decide) hRl) hl.1 (Nat.le_of_ble_eq_true rfl) dX11_nextState_128 hq (fun r_10 σ_9 H locs hq hW => ?_)
          exact hret _ _ _ _ _ _ dX11_nextState_131 hW hq
        · replace hq := br_neg h10_3 hq
          by_cases h10_4 : x1 = 4
          · replace hq := br_pos h10_4 hq
            refine lv_tableIn (off := 122) (tgt := 132) hx hb dX11_nextState_10 (by rw [h10_4]; decide) (by rw [h10_4]; decide) (by rw [h10_4]; decide) (by decide) ?_
            refine lv_iload_n hx hb dX11_nextState_132 rfl (lv_at hl 3 rfl) ?_
            refine lv_bipush (v := 120) hx hb dX11_nextState_133 (by decide) ?_
            refine lv_icmp_ne (tgt := 142) hx hb dX11_nextState_135 (by decide) (fun h => ?_) (fun h => ?_)
            · replace hq := br_neg h hq
              refine lv_iconst (v := (-1)) hx hb dX11_nextState_142 (by decide) ?_
              exact hret _ _ _ _ _ _ dX11_nextState_143 hW hq
            · replace hq := br_pos h hq
              refine lv_iconst (v := 5) hx hb dX11_nextState_138 (by decide) ?_
              refine lv_goto (tgt := 143) hx hb dX11_nextState_139 (by decide) ?_
              exact hret _ _ _ _ _ _ dX11_nextState_143 hW hq
          · replace hq := br_neg h10_4 hq
            by_cases h10_5 : x1 = 5
            · replace hq := br_pos h10_5 hq
              refine lv_tableIn (off := 134) (tgt := 144) hx hb dX11_nextState_10 (by rw [h10_5]; decide) (by rw [h10_5]; decide) (by rw [h10_5]; decide) (by decide) ?_
              refine lv_aload_n hx hb dX11_nextState_144 rfl (lv_at hl 1 rfl) ?_
              refine lv_iload_n hx hb dX11_nextState_145 rfl (lv_at hl 0 rfl) ?_
              refine (fun (K : ∀ v_11 : Int32, v_11 = ((if r_2 = 0 then (σ_1.1 31) else (x2 - 48)) : Int32) → W p l e R s m args below meth c H locs 0 0 Q (F0 m 160 ls (.int v_11 :: [.ref g.2.1]))) => ?_) ?_
              · refine lv_if_eq (tgt := 156) hx hb dX11_nextState_146 (by decide) (fun h146 => ?_) (fun h146 => ?_)
                · refine lv_aload_n hx hb dX11_nextState_156 rfl (lv_at hl 1 rfl) ?_
                  refine mg_31 C hW dX11_nextState_157 ?_
                  exact K _ (by rw [if_pos h146])
                · refine lv_iload_n hx hb dX11_nextState_149 rfl (lv_at hl 3 rfl) ?_
                  refine lv_bipush (v := 48) hx hb dX11_nextState_150 (by decide) ?_
                  refine lv_isub hx hb dX11_nextState_152 ?_
                  refine lv_goto (tgt := 160) hx hb dX11_nextState_153 (by decide) ?_
                  exact K _ (by rw [if_neg h146])
              intro v_11 ev_11
              replace hq := hq _ ev_11
              refine mp_31 C hW dX11_nextState_160 (fun σ_12 H locs eσ_12 hW => ?_)
              replace hq := hq _ eσ_12
              refine lv_iload_n hx hb dX11_nextState_163 rfl (lv_at hl 0 rfl) ?_
              refine lv_if_eq (tgt := 172) hx hb dX11_nextState_164 (by decide) (fun h => ?_) (fun h => ?_)
              · replace hq := br_pos h hq
                refine lv_iconst (v := (-1)) hx hb dX11_nextState_172 (by decide) ?_
                exact hret _ _ _ _ _ _ dX11_nextState_173 hW hq
              · replace hq := br_neg h hq
                refine lv_bipush (v := 6) hx hb dX11_nextState_167 (by decide) ?_
                refine lv_goto (tgt := 173) hx hb dX11_nextState_169 (by decide) ?_
                exact hret _ _ _ _ _ _ dX11_nextState_173 hW hq
            · replace hq := br_neg h10_5 hq
              refine lv_tableOut (tgt := 174) hx hb dX11_nextState_10 (ne_out6 h10_0 h10_1 h10_2 h10_3 h10_4 h10_5) (by decide) ?_
              refine lv_iconst (v := (-1)) hx hb dX11_nextState_174 (by decide) ?_
              exact hret _ _ _ _ _ _ dX11_nextState_175 hW hq
set_option maxHeartbeats 4000000 in
set_option maxRecDepth 100000 in
theorem mX11_nextState {l : Launch} {g : MG} {σ : MS} {x1 : Int32} {x2 : Int32} {P : Int32 → MS → Prop} (hq : qX11_nextState σ x1 x2 P) (sz : Nat) : Met l yX11_nextState (cws yX11_nextState cX11_nextState 4 (some .int)) ({ frames := 1, cells := 0, slots := 0, locals := 22 } : Room) (va_Pc [.ref g.2.1, .int x1, .int x2] (WP g.1 (mw g) (mty g) σ sz)) (va_Qi P (WB g.1 (mw g) (mty g) σ sz) (va_A (mw g σ) sz)) 0 0 (va_A (mw g σ) sz) :=
  w_enter (by decide) (Nat.le_of_ble_eq_true rfl) (fun p e s m args below meth c ls C hr hk hn hs hW hl => wX11_nextState C (Nat.le_refl _) (Nat.le_refl _) (fun pc ls v σ H locs hd hW hq => w_iret C hs hr hk hW hd hq) hW hl hq)
set_option maxHeartbeats 4000000 in
set_option maxRecDepth 100000 in
theorem kX11_nextState (C : CallFix p m c cc nL s args lwg RX11) {σ : MS} (hW : WI g.1 (mw g) (mty g) A s σ H locs) (hRf : 2 ≤ R.frames) (hRl : 45 ≤ R.locals) (hls : ls.size = nL) (hro : (rest.map fun v => v.category).sum ≤ 8) {x1 : Int32} {x2 : Int32} (hd : decode cc pc = .ok (.invokevirtual 111, 3)) {P : Int32 → MS → Prop} (hq : qX11_nextState σ x1 x2 P) (kk : ∀ (r : Int32) (σ1 : MS) (H : Heap) (locs : List Loc), P r σ1 → WI g.1 (mw g) (mty g) A s σ1 H locs → W p l e R s m args below meth c H locs 0 0 Q (F0 m (pc + 3) ls (.int r :: rest))) : W p l e R s m args below meth c H locs 0 0 Q (F0 m pc ls (.int x2 :: .int x1 :: .ref g.2.1 :: rest)) :=
  w_calli hW (w_runV C hW (mX11_nextState hq _) ⟨lwg_at 1083 (by decide +kernel) rfl, lwg_at 74 (by decide +kernel) rfl, lwg_at 1080 (by decide +kernel) rfl⟩ (lwg_at 1082 (by decide +kernel) rfl) (lwg_at 26 (by decide +kernel) rfl) (np := 2) (by decide +kernel) ⟨rfl, rfl⟩ ⟨hRf, hRl⟩ (ci := 12) rfl rfl (q0 := 0) rfl rfl hls rfl hro hd ⟨Nat.zero_le _, Nat.zero_le _⟩) kk
-- X11_readVow
set_option maxHeartbeats 4000000 in
set_option maxRecDepth 100000 in
theorem wX11_readVow_J120 (C : CallFix p m c cX11_readVow 6 s args lwg RX11) (hRf : 2 ≤ R.frames) (hRl : 45 ≤ R.locals) {P : MS → Prop} (hret : RetV g.1 (mw g) (mty g) A p l e R s m args below meth c 0 0 Q cX11_readVow P) {σ : MS} {x1 : Int32} {x2 : Int32} {H : Heap} {locs : List Loc} {ls : Array Slot} (hW : WI g.1 (mw g) (mty g) A s σ H locs) (hl : lv_has ls 6 [(0, .ref g.2.1), (1, .int x1), (2, .int x2)]) (hq : qX11_readVow_J120  P σ x1 x2) : W p l e R s m args below meth c H locs 0 0 Q (F0 m 120 ls []) := by
  have hx := C.1
  have hb := C.2.1
  unfold qX11_readVow_J120 at hq
  refine lv_aload_n hx hb dX11_readVow_120 rfl (lv_at hl 0 rfl) ?_
  refine lv_iload_n hx hb dX11_readVow_121 rfl (lv_at hl 2 rfl) ?_
  refine mp_26 C hW dX11_readVow_122 (fun σ_1 H locs eσ_1 hW => ?_)
  replace hq := hq _ eσ_1
  refine lv_aload_n hx hb dX11_readVow_125 rfl (lv_at hl 0 rfl) ?_
  refine lv_iload_n hx hb dX11_readVow_126 rfl (lv_at hl 2 rfl) ?_
  refine lv_aload_n hx hb dX11_readVow_127 rfl (lv_at hl 0 rfl) ?_
  refine mg_17 C hW dX11_readVow_128 ?_
  refine (fun (K : ∀ v_2 : Int32, v_2 = ((if x2 = (σ_1.1 17) then (if x1 = 1 then 1 else (if x1 = 3 then 1 else (if x1 = 4 then 1 else (if x1 = 6 then 1 else 0)))) else 0) : Int32) → W p l e R s m args below meth c H locs 0 0 Q (F0 m 160 ls (.int v_2 :: [.ref g.2.1]))) => ?_) ?_
  · refine lv_icmp_ne (tgt := 159) hx hb dX11_readVow_131 (by decide) (fun h131 => ?_) (fun h131 => ?_)
    · refine lv_iconst (v := 0) hx hb dX11_readVow_159 (by decide) ?_
      exact K _ (by rw [if_neg h131])
    · refine lv_iload_n hx hb dX11_readVow_134 rfl (lv_at hl 1 rfl) ?_
      refine lv_iconst (v := 1) hx hb dX11_readVow_135 (by decide) ?_
      refine lv_icmp_eq (tgt := 155) hx hb dX11_readVow_136 (by decide) (fun h136 => ?_) (fun h136 => ?_)
      · refine lv_iconst (v := 1) hx hb dX11_readVow_155 (by decide) ?_
        refine lv_goto (tgt := 160) hx hb dX11_readVow_156 (by decide) ?_
        exact K _ (by rw [if_pos h131, if_pos h136])
      · refine lv_iload_n hx hb dX11_readVow_139 rfl (lv_at hl 1 rfl) ?_
        refine lv_iconst (v := 3) hx hb dX11_readVow_140 (by decide) ?_
        refine lv_icmp_eq (tgt := 155) hx hb dX11_readVow_141 (by decide) (fun h141 => ?_) (fun h141 => ?_)
        · refine lv_iconst (v := 1) hx hb dX11_readVow_155 (by decide) ?_
          refine lv_goto (tgt := 160) hx hb dX11_readVow_156 (by decide) ?_
          exact K _ (by rw [if_pos h131, if_neg h136, if_pos h141])
        · refine lv_iload_n hx hb dX11_readVow_144 rfl (lv_at hl 1 rfl) ?_
          refine lv_iconst (v := 4) hx hb dX11_readVow_145 (by decide) ?_
          refine lv_icmp_eq (tgt := 155) hx hb dX11_readVow_146 (by decide) (fun h146 => ?_) (fun h146 => ?_)
          · refine lv_iconst (v := 1) hx hb dX11_readVow_155 (by decide) ?_
            refine lv_goto (tgt := 160) hx hb dX11_readVow_156 (by decide) ?_
            exact K _ (by rw [if_pos h131, if_neg h136, if_neg h141, if_pos h146])
          · refine lv_iload_n hx hb dX11_readVow_149 rfl (lv_at hl 1 rfl) ?_
            refine lv_bipush (v := 6) hx hb dX11_readVow_150 (by decide) ?_
            refine lv_icmp_ne (tgt := 159) hx hb dX11_readVow_152 (by decide) (fun h152 => ?_) (fun h152 => ?_)
            · refine lv_iconst (v := 0) hx hb dX11_readVow_159 (by decide) ?_
              exact K _ (by rw [if_pos h131, if_neg h136, if_neg h141, if_neg h146, if_neg h152])
            · refine lv_iconst (v := 1) hx hb dX11_readVow_155 (by decide) ?_
              refine lv_goto (tgt := 160) hx hb dX11_readVow_156 (by decide) ?_
              exact K _ (by rw [if_pos h131, if_neg h136, if_neg h141, if_neg h146, if_pos h152])
  intro v_2 ev_2
  replace hq := hq _ ev_2
  refine mp_27 C hW (by rw [ev_2]; exact (isB_ite (isB_ite isB_1 (isB_ite isB_1 (isB_ite isB_1 (isB_ite isB_1 isB_0)))) isB_0)) dX11_readVow_160 (fun σ_3 H locs eσ_3 hW => ?_)
  replace hq := hq _ eσ_3
  exact hret _ _ _ _ _ dX11_readVow_163 hW hq
set_option maxHeartbeats 4000000 in
set_option maxRecDepth 100000 in
theorem wX11_readVow_L21 (C : CallFix p m c cX11_readVow 6 s args lwg RX11) (hRf : 2 ≤ R.frames) (hRl : 45 ≤ R.locals) {P : MS → Prop} (hret : RetV g.1 (mw g) (mty g) A p l e R s m args below meth c 0 0 Q cX11_readVow P) {e120 : MS → Int32 → Int32 → Prop} (he120 : ∀ (σ : MS) (x1 : Int32) (x2 : Int32) (H : Heap) (locs : List Loc) (ls : Array Slot), WI g.1 (mw g) (mty g) A s σ H locs → lv_has ls 6 [(0, .ref g.2.1), (1, .int x1), (2, .int x2)] → e120 σ x1 x2 → W p l e R s m args below meth c H locs 0 0 Q (F0 m 120 ls [])) : ∀ (n : Nat) (σ : MS) (x1 : Int32) (x2 : Int32) (x3 : Int32) (H : Heap) (locs : List Loc) (ls : Array Slot), WI g.1 (mw g) (mty g) A s σ H locs → lv_has ls 6 [(0, .ref g.2.1), (1, .int x1), (2, .int x2), (3, .int x3)] → qX11_readVow_L21 e120 P n σ x1 x2 x3 → W p l e R s m args below meth c H locs 0 0 Q (F0 m 21 ls []) := by
  have hx := C.1
  have hb := C.2.1
  intro n
  induction n with
  | zero =>
    intro σ x1 x2 x3 H locs ls hW hl hq
    rw [qX11_readVow_L21] at hq
    exact hq.elim
  | succ n ih =>
    intro σ x1 x2 x3 H locs ls hW hl hq
    rw [qX11_readVow_L21] at hq
    refine lv_iload_n hx hb dX11_readVow_21 rfl (lv_at hl 2 rfl) ?_
    refine lv_aload_n hx hb dX11_readVow_22 rfl (lv_at hl 0 rfl) ?_
    refine mg_17 C hW dX11_readVow_23 ?_
    refine lv_icmp_ge (tgt := 120) hx hb dX11_readVow_26 (by decide) (fun h => ?_) (fun h => ?_)
    · replace hq := br_pos h hq
      exact he120 _ _ _ _ _ _ hW (lv_sub hl [0, 1, 2] rfl) hq
    · replace hq := br_neg h hq
      refine lv_iload_n hx hb dX11_readVow_29 rfl (lv_at hl 3 rfl) ?_
      refine lv_if_eq (tgt := 120) hx hb dX11_readVow_30 (by decide) (fun h => ?_) (fun h => ?_)
      · replace hq := br_pos h hq
        exact he120 _ _ _ _ _ _ hW (lv_sub hl [0, 1, 2] rfl) hq
      · replace hq := br_neg h hq
        refine lv_aload_n hx hb dX11_readVow_33 rfl (lv_at hl 0 rfl) ?_
        refine mg_30 C hW dX11_readVow_34 ?_
        refine lv_topi (fun x4_1 ex4_1 => ?_)
        replace hq := hq _ ex4_1
        refine lv_istore (lv' := [(4, .int x4_1), (0, .ref g.2.1), (1, .int x1), (2, .int x2), (3, .int x3)]) hx hb dX11_readVow_37 hl (by decide) rfl (fun ls hl => ?_)
        refine lv_aload_n hx hb dX11_readVow_39 rfl (lv_at hl 1 rfl) ?_
        refine lv_iload_n hx hb dX11_readVow_40 rfl (lv_at hl 2 rfl) ?_
        refine lv_aload_n hx hb dX11_readVow_41 rfl (lv_at hl 1 rfl) ?_
        refine mg_18 C hW dX11_readVow_42 ?_
        refine lv_iload_n hx hb dX11_readVow_45 rfl (lv_at hl 3 rfl) ?_
        obtain ⟨hin2, hq⟩ := hq
        refine ma_18 C hW hin2 dX11_readVow_46 ?_
        refine kX11_nextState C hW (Nat.le_trans (by decide) hRf) (Nat.le_trans (by decide) hRl) hl.1 (Nat.le_of_ble_eq_true rfl) dX11_readVow_47 hq (fun r_4 σ_3 H locs hq hW => ?_)
        refine lv_istore (lv' := [(5, .int r_4), (4, .int x4_1), (0, .ref g.2.1), (1, .int x1), (2, .int x2), (3, .int x3)]) hx hb dX11_readVow_50 hl (by decide) rfl (fun ls hl => ?_)
        refine lv_iload hx hb dX11_readVow_52 (lv_at hl 0 rfl) ?_
        refine lv_iconst (v := (-1)) hx hb dX11_readVow_54 (by decide) ?_
        refine (fun (K : ∀ v_5 : Int32, v_5 = ((if r_4 = (-1) then 0 else 1) : Int32) → W p l e R s m args below meth c H locs 0 0 Q (F0 m 63 ls (.int v_5 :: []))) => ?_) ?_
        · refine lv_icmp_eq (tgt := 62) hx hb dX11_readVow_55 (by decide) (fun h55 => ?_) (fun h55 => ?_)
          · refine lv_iconst (v := 0) hx hb dX11_readVow_62 (by decide) ?_
            exact K _ (by rw [if_pos h55])
          · refine lv_iconst (v := 1) hx hb dX11_readVow_58 (by decide) ?_
            refine lv_goto (tgt := 63) hx hb dX11_readVow_59 (by decide) ?_
            exact K _ (by rw [if_neg h55])
        intro v_5 ev_5
        replace hq := hq _ ev_5
        refine lv_istore_n (lv' := [(3, .int v_5), (5, .int r_4), (4, .int x4_1), (0, .ref g.2.1), (1, .int x1), (2, .int x2)]) hx hb dX11_readVow_63 rfl hl (by decide) rfl (fun ls hl => ?_)
        refine lv_aload_n hx hb dX11_readVow_64 rfl (lv_at hl 3 rfl) ?_
        refine lv_iload_n hx hb dX11_readVow_65 rfl (lv_at hl 0 rfl) ?_
        refine (fun (K : ∀ v_6 : Int32, v_6 = ((if v_5 = 0 then x4_1 else (if (σ_3.1 30) = 0 then (if x4_1 = 0 then 0 else 1) else 1)) : Int32) → W p l e R s m args below meth c H locs 0 0 Q (F0 m 91 ls (.int v_6 :: [.ref g.2.1]))) => ?_) ?_
        · refine lv_if_eq (tgt := 89) hx hb dX11_readVow_66 (by decide) (fun h66 => ?_) (fun h66 => ?_)
          · refine lv_iload hx hb dX11_readVow_89 (lv_at hl 2 rfl) ?_
            exact K _ (by rw [if_pos h66])
          · refine lv_aload_n hx hb dX11_readVow_69 rfl (lv_at hl 3 rfl) ?_
            refine mg_30 C hW dX11_readVow_70 ?_
            refine lv_if_ne (tgt := 81) hx hb dX11_readVow_73 (by decide) (fun h73 => ?_) (fun h73 => ?_)
            · refine lv_iconst (v := 1) hx hb dX11_readVow_81 (by decide) ?_
              refine lv_goto (tgt := 91) hx hb dX11_readVow_82 (by decide) ?_
              exact K _ (by rw [if_neg h66, if_neg h73])
            · refine lv_iload hx hb dX11_readVow_76 (lv_at hl 2 rfl) ?_
              refine lv_if_eq (tgt := 85) hx hb dX11_readVow_78 (by decide) (fun h78 => ?_) (fun h78 => ?_)
              · refine lv_iconst (v := 0) hx hb dX11_readVow_85 (by decide) ?_
                refine lv_goto (tgt := 91) hx hb dX11_readVow_86 (by decide) ?_
                exact K _ (by rw [if_neg h66, if_pos h73, if_pos h78])
              · refine lv_iconst (v := 1) hx hb dX11_readVow_81 (by decide) ?_
                refine lv_goto (tgt := 91) hx hb dX11_readVow_82 (by decide) ?_
                exact K _ (by rw [if_neg h66, if_pos h73, if_neg h78])
        intro v_6 ev_6
        replace hq := hq _ ev_6
        obtain ⟨hib, hq⟩ := hq
        refine mp_30 C hW hib dX11_readVow_91 (fun σ_7 H locs eσ_7 hW => ?_)
        replace hq := hq _ eσ_7
        refine lv_iload_n hx hb dX11_readVow_94 rfl (lv_at hl 0 rfl) ?_
        refine (fun (K : ∀ v_8 : Int32, v_8 = ((if v_5 = 0 then x1 else r_4) : Int32) → W p l e R s m args below meth c H locs 0 0 Q (F0 m 104 ls (.int v_8 :: []))) => ?_) ?_
        · refine lv_if_eq (tgt := 103) hx hb dX11_readVow_95 (by decide) (fun h95 => ?_) (fun h95 => ?_)
          · refine lv_iload_n hx hb dX11_readVow_103 rfl (lv_at hl 4 rfl) ?_
            exact K _ (by rw [if_pos h95])
          · refine lv_iload hx hb dX11_readVow_98 (lv_at hl 1 rfl) ?_
            refine lv_goto (tgt := 104) hx hb dX11_readVow_100 (by decide) ?_
            exact K _ (by rw [if_neg h95])
        intro v_8 ev_8
        replace hq := hq _ ev_8
        refine lv_istore_n (lv' := [(1, .int v_8), (3, .int v_5), (5, .int r_4), (4, .int x4_1), (0, .ref g.2.1), (2, .int x2)]) hx hb dX11_readVow_104 rfl hl (by decide) rfl (fun ls hl => ?_)
        refine lv_iload_n hx hb dX11_readVow_105 rfl (lv_at hl 5 rfl) ?_
        refine lv_iload_n hx hb dX11_readVow_106 rfl (lv_at hl 1 rfl) ?_
        refine (fun (K : ∀ v_9 : Int32, v_9 = ((if v_5 = 0 then 0 else 1) : Int32) → W p l e R s m args below meth c H locs 0 0 Q (F0 m 115 ls (.int v_9 :: [.int x2]))) => ?_) ?_
        · refine lv_if_eq (tgt := 114) hx hb dX11_readVow_107 (by decide) (fun h107 => ?_) (fun h107 => ?_)
          · refine lv_iconst (v := 0) hx hb dX11_readVow_114 (by decide) ?_
            exact K _ (by rw [if_pos h107])
          · refine lv_iconst (v := 1) hx hb dX11_readVow_110 (by decide) ?_
            refine lv_goto (tgt := 115) hx hb dX11_readVow_111 (by decide) ?_
            exact K _ (by rw [if_neg h107])
        intro v_9 ev_9
        replace hq := hq _ ev_9
        refine lv_iadd hx hb dX11_readVow_115 ?_
        refine lv_topi (fun x2_10 ex2_10 => ?_)
        replace hq := hq _ ex2_10
        refine lv_istore_n (lv' := [(2, .int x2_10), (1, .int v_8), (3, .int v_5), (5, .int r_4), (4, .int x4_1), (0, .ref g.2.1)]) hx hb dX11_readVow_116 rfl hl (by decide) rfl (fun ls hl => ?_)
        refine lv_goto (tgt := 21) hx hb dX11_readVow_117 (by decide) ?_
        exact ih _ _ _ _ _ _ _ hW (lv_sub hl [5, 1, 0, 2] rfl) hq
set_option maxHeartbeats 4000000 in
set_option maxRecDepth 100000 in
theorem wX11_readVow (C : CallFix p m c cX11_readVow 6 s args lwg RX11) (hRf : 2 ≤ R.frames) (hRl : 45 ≤ R.locals) {P : MS → Prop} (hret : RetV g.1 (mw g) (mty g) A p l e R s m args below meth c 0 0 Q cX11_readVow P) {σ : MS} {H : Heap} {locs : List Loc} {ls : Array Slot} (hW : WI g.1 (mw g) (mty g) A s σ H locs) (hl : lv_has ls 6 [(0, .ref g.2.1)]) (hq : qX11_readVow σ  P) : W p l e R s m args below meth c H locs 0 0 Q (F0 m 0 ls []) := by
  have hx := C.1
  have hb := C.2.1
  unfold qX11_readVow at hq
  refine lv_aload_n hx hb dX11_readVow_0 rfl (lv_at hl 0 rfl) ?_
  refine lv_iconst (v := 0) hx hb dX11_readVow_1 (by decide) ?_
  refine mp_29 C hW dX11_readVow_2 (fun σ_1 H locs eσ_1 hW => ?_)
  replace hq := hq _ eσ_1
  refine lv_aload_n hx hb dX11_readVow_5 rfl (lv_at hl 0 rfl) ?_
  refine lv_iconst (v := 0) hx hb dX11_readVow_6 (by decide) ?_
  refine mp_30 C hW isB_0 dX11_readVow_7 (fun σ_2 H locs eσ_2 hW => ?_)
  replace hq := hq _ eσ_2
  refine lv_aload_n hx hb dX11_readVow_10 rfl (lv_at hl 0 rfl) ?_
  refine lv_iconst (v := 0) hx hb dX11_readVow_11 (by decide) ?_
  refine mp_31 C hW dX11_readVow_12 (fun σ_3 H locs eσ_3 hW => ?_)
  replace hq := hq _ eσ_3
  refine lv_iconst (v := 0) hx hb dX11_readVow_15 (by decide) ?_
  refine lv_istore_n (lv' := [(1, .int 0), (0, .ref g.2.1)]) hx hb dX11_readVow_16 rfl hl (by decide) rfl (fun ls hl => ?_)
  refine lv_iconst (v := 0) hx hb dX11_readVow_17 (by decide) ?_
  refine lv_istore_n (lv' := [(2, .int 0), (1, .int 0), (0, .ref g.2.1)]) hx hb dX11_readVow_18 rfl hl (by decide) rfl (fun ls hl => ?_)
  refine lv_iconst (v := 1) hx hb dX11_readVow_19 (by decide) ?_
  refine lv_istore_n (lv' := [(3, .int 1), (2, .int 0), (1, .int 0), (0, .ref g.2.1)]) hx hb dX11_readVow_20 rfl hl (by decide) rfl (fun ls hl => ?_)
  obtain ⟨f21, hq⟩ := hq
  refine wX11_readVow_L21 C hRf hRl hret ?_ f21 _ _ _ _ _ _ _ hW (lv_sub hl [3, 2, 1, 0] rfl) hq
  · intro σ_6 x1_4 x2_5 H locs ls hW hl hq
    exact wX11_readVow_J120 C hRf hRl hret  hW hl hq
set_option maxHeartbeats 4000000 in
set_option maxRecDepth 100000 in
theorem mX11_readVow {l : Launch} {g : MG} {σ : MS} {P : MS → Prop} (hq : qX11_readVow σ  P) (sz : Nat) : Met l yX11_readVow (cws yX11_readVow cX11_readVow 6 none) ({ frames := 2, cells := 0, slots := 0, locals := 45 } : Room) (va_Pc [.ref g.2.1] (WP g.1 (mw g) (mty g) σ sz)) (va_Qv P (WB g.1 (mw g) (mty g) σ sz) (va_A (mw g σ) sz)) 0 0 (va_A (mw g σ) sz) :=
  w_enter (by decide) (Nat.le_of_ble_eq_true rfl) (fun p e s m args below meth c ls C hr hk hn hs hW hl => wX11_readVow C (Nat.le_refl _) (Nat.le_refl _) (fun pc ls σ H locs hd hW hq => w_vret C hs hr hk hW hd hq) hW hl hq)
set_option maxHeartbeats 4000000 in
set_option maxRecDepth 100000 in
theorem kX11_readVow (C : CallFix p m c cc nL s args lwg RX11) {σ : MS} (hW : WI g.1 (mw g) (mty g) A s σ H locs) (hRf : 3 ≤ R.frames) (hRl : 70 ≤ R.locals) (hls : ls.size = nL) (hro : (rest.map fun v => v.category).sum ≤ 8) (hd : decode cc pc = .ok (.invokevirtual 121, 3)) {P : MS → Prop} (hq : qX11_readVow σ  P) (kk : ∀ (σ1 : MS) (H : Heap) (locs : List Loc), P σ1 → WI g.1 (mw g) (mty g) A s σ1 H locs → W p l e R s m args below meth c H locs 0 0 Q (F0 m (pc + 3) ls rest)) : W p l e R s m args below meth c H locs 0 0 Q (F0 m pc ls (.ref g.2.1 :: rest)) :=
  w_callv hW (w_runV C hW (mX11_readVow hq _) ⟨lwg_at 1079 (by decide +kernel) rfl, lwg_at 74 (by decide +kernel) rfl, lwg_at 1076 (by decide +kernel) rfl⟩ (lwg_at 1078 (by decide +kernel) rfl) (lwg_at 25 (by decide +kernel) rfl) (np := 0) (by decide +kernel) ⟨rfl, rfl⟩ ⟨hRf, hRl⟩ (ci := 12) rfl rfl (q0 := 0) rfl rfl hls rfl hro hd ⟨Nat.zero_le _, Nat.zero_le _⟩) kk
-- X11_fault
set_option maxHeartbeats 4000000 in
set_option maxRecDepth 100000 in
theorem wX11_fault (C : CallFix p m c cX11_fault 1 s args lwg RX11) (hRf : 3 ≤ R.frames) (hRl : 70 ≤ R.locals) {P : Int32 → MS → Prop} (hret : RetI g.1 (mw g) (mty g) A p l e R s m args below meth c 0 0 Q cX11_fault P) {σ : MS} {H : Heap} {locs : List Loc} {ls : Array Slot} (hW : WI g.1 (mw g) (mty g) A s σ H locs) (hl : lv_has ls 1 [(0, .ref g.2.1)]) (hq : qX11_fault σ  P) : W p l e R s m args below meth c H locs 0 0 Q (F0 m 0 ls []) := by
  have hx := C.1
  have hb := C.2.1
  unfold qX11_fault at hq
  refine lv_aload_n hx hb dX11_fault_0 rfl (lv_at hl 0 rfl) ?_
  refine kX11_readVow C hW (Nat.le_trans (by decide) hRf) (Nat.le_trans (by decide) hRl) hl.1 (Nat.le_of_ble_eq_true rfl) dX11_fault_1 hq (fun σ_1 H locs hq hW => ?_)
  refine lv_aload_n hx hb dX11_fault_4 rfl (lv_at hl 0 rfl) ?_
  refine mg_26 C hW dX11_fault_5 ?_
  exact hret _ _ _ _ _ _ dX11_fault_8 hW hq
set_option maxHeartbeats 4000000 in
set_option maxRecDepth 100000 in
theorem mX11_fault {l : Launch} {g : MG} {σ : MS} {P : Int32 → MS → Prop} (hq : qX11_fault σ  P) (sz : Nat) : Met l yX11_fault (cws yX11_fault cX11_fault 1 (some .int)) ({ frames := 3, cells := 0, slots := 0, locals := 70 } : Room) (va_Pc [.ref g.2.1] (WP g.1 (mw g) (mty g) σ sz)) (va_Qi P (WB g.1 (mw g) (mty g) σ sz) (va_A (mw g σ) sz)) 0 0 (va_A (mw g σ) sz) :=
  w_enter (by decide) (Nat.le_of_ble_eq_true rfl) (fun p e s m args below meth c ls C hr hk hn hs hW hl => wX11_fault C (Nat.le_refl _) (Nat.le_refl _) (fun pc ls v σ H locs hd hW hq => w_iret C hs hr hk hW hd hq) hW hl hq)
-- X11_vow
set_option maxHeartbeats 4000000 in
set_option maxRecDepth 100000 in
theorem wX11_vow (C : CallFix p m c cX11_vow 1 s args lwg RX11) (hRf : 3 ≤ R.frames) (hRl : 70 ≤ R.locals) {P : Int32 → MS → Prop} (hret : RetI g.1 (mw g) (mty g) A p l e R s m args below meth c 0 0 Q cX11_vow P) {σ : MS} {H : Heap} {locs : List Loc} {ls : Array Slot} (hW : WI g.1 (mw g) (mty g) A s σ H locs) (hl : lv_has ls 1 [(0, .ref g.2.1)]) (hq : qX11_vow σ  P) : W p l e R s m args below meth c H locs 0 0 Q (F0 m 0 ls []) := by
  have hx := C.1
  have hb := C.2.1
  unfold qX11_vow at hq
  refine lv_aload_n hx hb dX11_vow_0 rfl (lv_at hl 0 rfl) ?_
  refine kX11_readVow C hW (Nat.le_trans (by decide) hRf) (Nat.le_trans (by decide) hRl) hl.1 (Nat.le_of_ble_eq_true rfl) dX11_vow_1 hq (fun σ_1 H locs hq hW => ?_)
  refine lv_aload_n hx hb dX11_vow_4 rfl (lv_at hl 0 rfl) ?_
  refine mg_27 C hW dX11_vow_5 ?_
  refine lv_if_ne (tgt := 14) hx hb dX11_vow_8 (by decide) (fun h => ?_) (fun h => ?_)
  · replace hq := br_neg h hq
    refine lv_aload_n hx hb dX11_vow_14 rfl (lv_at hl 0 rfl) ?_
    refine mg_12 C hW dX11_vow_15 ?_
    refine lv_bipush (v := 6) hx hb dX11_vow_18 (by decide) ?_
    refine lv_icmp_ne (tgt := 26) hx hb dX11_vow_20 (by decide) (fun h => ?_) (fun h => ?_)
    · replace hq := br_neg h hq
      refine lv_aload_n hx hb dX11_vow_26 rfl (lv_at hl 0 rfl) ?_
      refine mg_13 C hW dX11_vow_27 ?_
      refine lv_aload_n hx hb dX11_vow_30 rfl (lv_at hl 0 rfl) ?_
      refine mg_12 C hW dX11_vow_31 ?_
      refine lv_aload_n hx hb dX11_vow_34 rfl (lv_at hl 0 rfl) ?_
      refine mg_28 C hW dX11_vow_35 ?_
      obtain ⟨hin2, hq⟩ := hq
      obtain ⟨hib, hq⟩ := hq
      refine ms_13 C hW hib hin2 dX11_vow_38 (fun σ_3 H locs eσ_3 hW => ?_)
      replace hq := hq _ eσ_3
      refine lv_aload_n hx hb dX11_vow_39 rfl (lv_at hl 0 rfl) ?_
      refine mg_14 C hW dX11_vow_40 ?_
      refine lv_aload_n hx hb dX11_vow_43 rfl (lv_at hl 0 rfl) ?_
      refine mg_12 C hW dX11_vow_44 ?_
      refine lv_aload_n hx hb dX11_vow_47 rfl (lv_at hl 0 rfl) ?_
      refine mg_29 C hW dX11_vow_48 ?_
      obtain ⟨hin4, hq⟩ := hq
      refine ms_14 C hW hin4 dX11_vow_51 (fun σ_5 H locs eσ_5 hW => ?_)
      replace hq := hq _ eσ_5
      refine lv_aload_n hx hb dX11_vow_52 rfl (lv_at hl 0 rfl) ?_
      refine mg_15 C hW dX11_vow_53 ?_
      refine lv_aload_n hx hb dX11_vow_56 rfl (lv_at hl 0 rfl) ?_
      refine mg_12 C hW dX11_vow_57 ?_
      refine lv_aload_n hx hb dX11_vow_60 rfl (lv_at hl 0 rfl) ?_
      refine mg_30 C hW dX11_vow_61 ?_
      obtain ⟨hin6, hq⟩ := hq
      obtain ⟨hib, hq⟩ := hq
      refine ms_15 C hW hib hin6 dX11_vow_64 (fun σ_7 H locs eσ_7 hW => ?_)
      replace hq := hq _ eσ_7
      refine lv_aload_n hx hb dX11_vow_65 rfl (lv_at hl 0 rfl) ?_
      refine mg_16 C hW dX11_vow_66 ?_
      refine lv_aload_n hx hb dX11_vow_69 rfl (lv_at hl 0 rfl) ?_
      refine mg_12 C hW dX11_vow_70 ?_
      refine lv_aload_n hx hb dX11_vow_73 rfl (lv_at hl 0 rfl) ?_
      refine mg_31 C hW dX11_vow_74 ?_
      obtain ⟨hin8, hq⟩ := hq
      refine ms_16 C hW hin8 dX11_vow_77 (fun σ_9 H locs eσ_9 hW => ?_)
      replace hq := hq _ eσ_9
      refine lv_aload_n hx hb dX11_vow_78 rfl (lv_at hl 0 rfl) ?_
      refine lv_dup hx hb dX11_vow_79 rfl ?_
      refine mg_12 C hW dX11_vow_80 ?_
      refine lv_iconst (v := 1) hx hb dX11_vow_83 (by decide) ?_
      refine lv_iadd hx hb dX11_vow_84 ?_
      refine mp_12 C hW dX11_vow_85 (fun σ_10 H locs eσ_10 hW => ?_)
      replace hq := hq _ eσ_10
      refine lv_aload_n hx hb dX11_vow_88 rfl (lv_at hl 0 rfl) ?_
      refine lv_iconst (v := 0) hx hb dX11_vow_89 (by decide) ?_
      refine mp_17 C hW dX11_vow_90 (fun σ_11 H locs eσ_11 hW => ?_)
      replace hq := hq _ eσ_11
      refine lv_aload_n hx hb dX11_vow_93 rfl (lv_at hl 0 rfl) ?_
      refine mg_12 C hW dX11_vow_94 ?_
      refine lv_iconst (v := 1) hx hb dX11_vow_97 (by decide) ?_
      refine lv_isub hx hb dX11_vow_98 ?_
      exact hret _ _ _ _ _ _ dX11_vow_99 hW hq
    · replace hq := br_pos h hq
      refine lv_bipush (v := (-104)) hx hb dX11_vow_23 (by decide) ?_
      exact hret _ _ _ _ _ _ dX11_vow_25 hW hq
  · replace hq := br_pos h hq
    refine lv_bipush (v := (-103)) hx hb dX11_vow_11 (by decide) ?_
    exact hret _ _ _ _ _ _ dX11_vow_13 hW hq
set_option maxHeartbeats 4000000 in
set_option maxRecDepth 100000 in
theorem mX11_vow {l : Launch} {g : MG} {σ : MS} {P : Int32 → MS → Prop} (hq : qX11_vow σ  P) (sz : Nat) : Met l yX11_vow (cws yX11_vow cX11_vow 1 (some .int)) ({ frames := 3, cells := 0, slots := 0, locals := 70 } : Room) (va_Pc [.ref g.2.1] (WP g.1 (mw g) (mty g) σ sz)) (va_Qi P (WB g.1 (mw g) (mty g) σ sz) (va_A (mw g σ) sz)) 0 0 (va_A (mw g σ) sz) :=
  w_enter (by decide) (Nat.le_of_ble_eq_true rfl) (fun p e s m args below meth c ls C hr hk hn hs hW hl => wX11_vow C (Nat.le_refl _) (Nat.le_refl _) (fun pc ls v σ H locs hd hW hq => w_iret C hs hr hk hW hd hq) hW hl hq)
-- X11_isVow
set_option maxHeartbeats 4000000 in
set_option maxRecDepth 100000 in
theorem wX11_isVow (C : CallFix p m c cX11_isVow 2 s args lwg RX11) (hRf : 1 ≤ R.frames) (hRl : 22 ≤ R.locals) {P : Int32 → MS → Prop} (hret : RetZ g.1 (mw g) (mty g) A p l e R s m args below meth c 0 0 Q cX11_isVow P) {σ : MS} {x1 : Int32} {H : Heap} {locs : List Loc} {ls : Array Slot} (hW : WI g.1 (mw g) (mty g) A s σ H locs) (hl : lv_has ls 2 [(0, .ref g.2.1), (1, .int x1)]) (hq : qX11_isVow σ x1 P) : W p l e R s m args below meth c H locs 0 0 Q (F0 m 0 ls []) := by
  have hx := C.1
  have hb := C.2.1
  unfold qX11_isVow at hq
  refine lv_iload_n hx hb dX11_isVow_0 rfl (lv_at hl 1 rfl) ?_
  refine lv_iconst (v := 0) hx hb dX11_isVow_1 (by decide) ?_
  refine lv_aload_n hx hb dX11_isVow_2 rfl (lv_at hl 0 rfl) ?_
  refine mg_12 C hW dX11_isVow_3 ?_
  refine lv_iconst (v := 1) hx hb dX11_isVow_6 (by decide) ?_
  refine lv_isub hx hb dX11_isVow_7 ?_
  refine kX11_within C hW (Nat.le_trans (by decide) hRf) (Nat.le_trans (by decide) hRl) hl.1 (Nat.le_of_ble_eq_true rfl) dX11_isVow_8 hq (fun r_2 σ_1 H locs hq hW => ?_)
  obtain ⟨hib, hq⟩ := hq
  exact hret _ _ _ _ _ _ dX11_isVow_11 hW hib hq
set_option maxHeartbeats 4000000 in
set_option maxRecDepth 100000 in
theorem mX11_isVow {l : Launch} {g : MG} {σ : MS} {x1 : Int32} {P : Int32 → MS → Prop} (hq : qX11_isVow σ x1 P) (sz : Nat) : Met l yX11_isVow (cws yX11_isVow cX11_isVow 2 (some .boolean)) ({ frames := 1, cells := 0, slots := 0, locals := 22 } : Room) (va_Pc [.ref g.2.1, .int x1] (WP g.1 (mw g) (mty g) σ sz)) (va_Qi P (WB g.1 (mw g) (mty g) σ sz) (va_A (mw g σ) sz)) 0 0 (va_A (mw g σ) sz) :=
  w_enter (by decide) (Nat.le_of_ble_eq_true rfl) (fun p e s m args below meth c ls C hr hk hn hs hW hl => wX11_isVow C (Nat.le_refl _) (Nat.le_refl _) (fun pc ls v σ H locs hd hW hv hq => w_zret C hs hr hk hW hd hv hq) hW hl hq)
set_option maxHeartbeats 4000000 in
set_option maxRecDepth 100000 in
theorem kX11_isVow (C : CallFix p m c cc nL s args lwg RX11) {σ : MS} (hW : WI g.1 (mw g) (mty g) A s σ H locs) (hRf : 2 ≤ R.frames) (hRl : 43 ≤ R.locals) (hls : ls.size = nL) (hro : (rest.map fun v => v.category).sum ≤ 8) {x1 : Int32} (hd : decode cc pc = .ok (.invokevirtual 127, 3)) {P : Int32 → MS → Prop} (hq : qX11_isVow σ x1 P) (kk : ∀ (r : Int32) (σ1 : MS) (H : Heap) (locs : List Loc), P r σ1 → WI g.1 (mw g) (mty g) A s σ1 H locs → W p l e R s m args below meth c H locs 0 0 Q (F0 m (pc + 3) ls (.int r :: rest))) : W p l e R s m args below meth c H locs 0 0 Q (F0 m pc ls (.int x1 :: .ref g.2.1 :: rest)) :=
  w_calli hW (w_runV C hW (mX11_isVow hq _) ⟨lwg_at 1102 (by decide +kernel) rfl, lwg_at 74 (by decide +kernel) rfl, lwg_at 1099 (by decide +kernel) rfl⟩ (lwg_at 1101 (by decide +kernel) rfl) (lwg_at 28 (by decide +kernel) rfl) (np := 1) (by decide +kernel) ⟨rfl, rfl⟩ ⟨hRf, hRl⟩ (ci := 12) rfl rfl (q0 := 0) rfl rfl hls rfl hro hd ⟨Nat.zero_le _, Nat.zero_le _⟩) kk
-- X11_vowNow
set_option maxHeartbeats 4000000 in
set_option maxRecDepth 100000 in
theorem wX11_vowNow (C : CallFix p m c cX11_vowNow 3 s args lwg RX11) (hRf : 0 ≤ R.frames) (hRl : 0 ≤ R.locals) {P : Int32 → MS → Prop} (hret : RetI g.1 (mw g) (mty g) A p l e R s m args below meth c 0 0 Q cX11_vowNow P) {σ : MS} {x1 : Int32} {x2 : Int32} {H : Heap} {locs : List Loc} {ls : Array Slot} (hW : WI g.1 (mw g) (mty g) A s σ H locs) (hl : lv_has ls 3 [(0, .ref g.2.1), (1, .int x1), (2, .int x2)]) (hq : qX11_vowNow σ x1 x2 P) : W p l e R s m args below meth c H locs 0 0 Q (F0 m 0 ls []) := by
  have hx := C.1
  have hb := C.2.1
  unfold qX11_vowNow at hq
  refine lv_iload_n hx hb dX11_vowNow_0 rfl (lv_at hl 2 rfl) ?_
  by_cases h1_0 : x2 = 0
  · replace hq := br_pos h1_0 hq
    refine lv_tableIn (off := 27) (tgt := 28) hx hb dX11_vowNow_1 (by rw [h1_0]; decide) (by rw [h1_0]; decide) (by rw [h1_0]; decide) (by decide) ?_
    refine lv_aload_n hx hb dX11_vowNow_28 rfl (lv_at hl 0 rfl) ?_
    refine mg_13 C hW dX11_vowNow_29 ?_
    refine lv_iload_n hx hb dX11_vowNow_32 rfl (lv_at hl 1 rfl) ?_
    obtain ⟨hin1, hq⟩ := hq
    refine ma_13 C hW hin1 dX11_vowNow_33 ?_
    refine lv_if_eq (tgt := 41) hx hb dX11_vowNow_34 (by decide) (fun h => ?_) (fun h => ?_)
    · replace hq := br_pos h hq
      refine lv_iconst (v := 0) hx hb dX11_vowNow_41 (by decide) ?_
      exact hret _ _ _ _ _ _ dX11_vowNow_42 hW hq
    · replace hq := br_neg h hq
      refine lv_iconst (v := 1) hx hb dX11_vowNow_37 (by decide) ?_
      refine lv_goto (tgt := 42) hx hb dX11_vowNow_38 (by decide) ?_
      exact hret _ _ _ _ _ _ dX11_vowNow_42 hW hq
  · replace hq := br_neg h1_0 hq
    by_cases h1_1 : x2 = 1
    · replace hq := br_pos h1_1 hq
      refine lv_tableIn (off := 42) (tgt := 43) hx hb dX11_vowNow_1 (by rw [h1_1]; decide) (by rw [h1_1]; decide) (by rw [h1_1]; decide) (by decide) ?_
      refine lv_aload_n hx hb dX11_vowNow_43 rfl (lv_at hl 0 rfl) ?_
      refine mg_14 C hW dX11_vowNow_44 ?_
      refine lv_iload_n hx hb dX11_vowNow_47 rfl (lv_at hl 1 rfl) ?_
      obtain ⟨hin2, hq⟩ := hq
      refine ma_14 C hW hin2 dX11_vowNow_48 ?_
      exact hret _ _ _ _ _ _ dX11_vowNow_49 hW hq
    · replace hq := br_neg h1_1 hq
      by_cases h1_2 : x2 = 2
      · replace hq := br_pos h1_2 hq
        refine lv_tableIn (off := 49) (tgt := 50) hx hb dX11_vowNow_1 (by rw [h1_2]; decide) (by rw [h1_2]; decide) (by rw [h1_2]; decide) (by decide) ?_
        refine lv_aload_n hx hb dX11_vowNow_50 rfl (lv_at hl 0 rfl) ?_
        refine mg_15 C hW dX11_vowNow_51 ?_
        refine lv_iload_n hx hb dX11_vowNow_54 rfl (lv_at hl 1 rfl) ?_
        obtain ⟨hin3, hq⟩ := hq
        refine ma_15 C hW hin3 dX11_vowNow_55 ?_
        refine lv_if_eq (tgt := 63) hx hb dX11_vowNow_56 (by decide) (fun h => ?_) (fun h => ?_)
        · replace hq := br_pos h hq
          refine lv_iconst (v := 0) hx hb dX11_vowNow_63 (by decide) ?_
          exact hret _ _ _ _ _ _ dX11_vowNow_64 hW hq
        · replace hq := br_neg h hq
          refine lv_iconst (v := 1) hx hb dX11_vowNow_59 (by decide) ?_
          refine lv_goto (tgt := 64) hx hb dX11_vowNow_60 (by decide) ?_
          exact hret _ _ _ _ _ _ dX11_vowNow_64 hW hq
      · replace hq := br_neg h1_2 hq
        refine lv_tableOut (tgt := 65) hx hb dX11_vowNow_1 (ne_out3 h1_0 h1_1 h1_2) (by decide) ?_
        refine lv_aload_n hx hb dX11_vowNow_65 rfl (lv_at hl 0 rfl) ?_
        refine mg_16 C hW dX11_vowNow_66 ?_
        refine lv_iload_n hx hb dX11_vowNow_69 rfl (lv_at hl 1 rfl) ?_
        obtain ⟨hin4, hq⟩ := hq
        refine ma_16 C hW hin4 dX11_vowNow_70 ?_
        exact hret _ _ _ _ _ _ dX11_vowNow_71 hW hq
set_option maxHeartbeats 4000000 in
set_option maxRecDepth 100000 in
theorem mX11_vowNow {l : Launch} {g : MG} {σ : MS} {x1 : Int32} {x2 : Int32} {P : Int32 → MS → Prop} (hq : qX11_vowNow σ x1 x2 P) (sz : Nat) : Met l yX11_vowNow (cws yX11_vowNow cX11_vowNow 3 (some .int)) ({ frames := 0, cells := 0, slots := 0, locals := 0 } : Room) (va_Pc [.ref g.2.1, .int x1, .int x2] (WP g.1 (mw g) (mty g) σ sz)) (va_Qi P (WB g.1 (mw g) (mty g) σ sz) (va_A (mw g σ) sz)) 0 0 (va_A (mw g σ) sz) :=
  w_enter (by decide) (Nat.le_of_ble_eq_true rfl) (fun p e s m args below meth c ls C hr hk hn hs hW hl => wX11_vowNow C (Nat.le_refl _) (Nat.le_refl _) (fun pc ls v σ H locs hd hW hq => w_iret C hs hr hk hW hd hq) hW hl hq)
set_option maxHeartbeats 4000000 in
set_option maxRecDepth 100000 in
theorem kX11_vowNow (C : CallFix p m c cc nL s args lwg RX11) {σ : MS} (hW : WI g.1 (mw g) (mty g) A s σ H locs) (hRf : 1 ≤ R.frames) (hRl : 22 ≤ R.locals) (hls : ls.size = nL) (hro : (rest.map fun v => v.category).sum ≤ 8) {x1 : Int32} {x2 : Int32} (hd : decode cc pc = .ok (.invokevirtual 131, 3)) {P : Int32 → MS → Prop} (hq : qX11_vowNow σ x1 x2 P) (kk : ∀ (r : Int32) (σ1 : MS) (H : Heap) (locs : List Loc), P r σ1 → WI g.1 (mw g) (mty g) A s σ1 H locs → W p l e R s m args below meth c H locs 0 0 Q (F0 m (pc + 3) ls (.int r :: rest))) : W p l e R s m args below meth c H locs 0 0 Q (F0 m pc ls (.int x2 :: .int x1 :: .ref g.2.1 :: rest)) :=
  w_calli hW (w_runV C hW (mX11_vowNow hq _) ⟨lwg_at 1106 (by decide +kernel) rfl, lwg_at 74 (by decide +kernel) rfl, lwg_at 1103 (by decide +kernel) rfl⟩ (lwg_at 1105 (by decide +kernel) rfl) (lwg_at 29 (by decide +kernel) rfl) (np := 2) (by decide +kernel) ⟨rfl, rfl⟩ ⟨hRf, hRl⟩ (ci := 12) rfl rfl (q0 := 0) rfl rfl hls rfl hro hd ⟨Nat.zero_le _, Nat.zero_le _⟩) kk
-- X11_vowTold
set_option maxHeartbeats 4000000 in
set_option maxRecDepth 100000 in
theorem wX11_vowTold (C : CallFix p m c cX11_vowTold 3 s args lwg RX11) (hRf : 2 ≤ R.frames) (hRl : 43 ≤ R.locals) {P : Int32 → MS → Prop} (hret : RetI g.1 (mw g) (mty g) A p l e R s m args below meth c 0 0 Q cX11_vowTold P) {σ : MS} {x1 : Int32} {x2 : Int32} {H : Heap} {locs : List Loc} {ls : Array Slot} (hW : WI g.1 (mw g) (mty g) A s σ H locs) (hl : lv_has ls 3 [(0, .ref g.2.1), (1, .int x1), (2, .int x2)]) (hq : qX11_vowTold σ x1 x2 P) : W p l e R s m args below meth c H locs 0 0 Q (F0 m 0 ls []) := by
  have hx := C.1
  have hb := C.2.1
  unfold qX11_vowTold at hq
  refine lv_aload_n hx hb dX11_vowTold_0 rfl (lv_at hl 0 rfl) ?_
  refine lv_iload_n hx hb dX11_vowTold_1 rfl (lv_at hl 1 rfl) ?_
  refine kX11_isVow C hW (Nat.le_trans (by decide) hRf) (Nat.le_trans (by decide) hRl) hl.1 (Nat.le_of_ble_eq_true rfl) dX11_vowTold_2 hq (fun r_2 σ_1 H locs hq hW => ?_)
  refine lv_if_ne (tgt := 13) hx hb dX11_vowTold_5 (by decide) (fun h => ?_) (fun h => ?_)
  · replace hq := br_neg h hq
    refine lv_iload_n hx hb dX11_vowTold_13 rfl (lv_at hl 2 rfl) ?_
    refine lv_iconst (v := 0) hx hb dX11_vowTold_14 (by decide) ?_
    refine lv_iconst (v := 3) hx hb dX11_vowTold_15 (by decide) ?_
    refine kX11_within C hW (Nat.le_trans (by decide) hRf) (Nat.le_trans (by decide) hRl) hl.1 (Nat.le_of_ble_eq_true rfl) dX11_vowTold_16 hq (fun r_4 σ_3 H locs hq hW => ?_)
    refine lv_if_eq (tgt := 31) hx hb dX11_vowTold_19 (by decide) (fun h => ?_) (fun h => ?_)
    · replace hq := br_pos h hq
      refine lv_bipush (v := (-102)) hx hb dX11_vowTold_31 (by decide) ?_
      exact hret _ _ _ _ _ _ dX11_vowTold_33 hW hq
    · replace hq := br_neg h hq
      refine lv_aload_n hx hb dX11_vowTold_22 rfl (lv_at hl 0 rfl) ?_
      refine lv_iload_n hx hb dX11_vowTold_23 rfl (lv_at hl 1 rfl) ?_
      refine lv_iload_n hx hb dX11_vowTold_24 rfl (lv_at hl 2 rfl) ?_
      refine kX11_vowNow C hW (Nat.le_trans (by decide) hRf) (Nat.le_trans (by decide) hRl) hl.1 (Nat.le_of_ble_eq_true rfl) dX11_vowTold_25 hq (fun r_6 σ_5 H locs hq hW => ?_)
      refine lv_goto (tgt := 33) hx hb dX11_vowTold_28 (by decide) ?_
      exact hret _ _ _ _ _ _ dX11_vowTold_33 hW hq
  · replace hq := br_pos h hq
    refine lv_bipush (v := (-101)) hx hb dX11_vowTold_8 (by decide) ?_
    refine lv_goto (tgt := 33) hx hb dX11_vowTold_10 (by decide) ?_
    exact hret _ _ _ _ _ _ dX11_vowTold_33 hW hq
set_option maxHeartbeats 4000000 in
set_option maxRecDepth 100000 in
theorem mX11_vowTold {l : Launch} {g : MG} {σ : MS} {x1 : Int32} {x2 : Int32} {P : Int32 → MS → Prop} (hq : qX11_vowTold σ x1 x2 P) (sz : Nat) : Met l yX11_vowTold (cws yX11_vowTold cX11_vowTold 3 (some .int)) ({ frames := 2, cells := 0, slots := 0, locals := 43 } : Room) (va_Pc [.ref g.2.1, .int x1, .int x2] (WP g.1 (mw g) (mty g) σ sz)) (va_Qi P (WB g.1 (mw g) (mty g) σ sz) (va_A (mw g σ) sz)) 0 0 (va_A (mw g σ) sz) :=
  w_enter (by decide) (Nat.le_of_ble_eq_true rfl) (fun p e s m args below meth c ls C hr hk hn hs hW hl => wX11_vowTold C (Nat.le_refl _) (Nat.le_refl _) (fun pc ls v σ H locs hd hW hq => w_iret C hs hr hk hW hd hq) hW hl hq)
-- X11_isHermit
set_option maxHeartbeats 4000000 in
set_option maxRecDepth 100000 in
theorem wX11_isHermit (C : CallFix p m c cX11_isHermit 2 s args lwg RX11) (hRf : 1 ≤ R.frames) (hRl : 22 ≤ R.locals) {P : Int32 → MS → Prop} (hret : RetZ g.1 (mw g) (mty g) A p l e R s m args below meth c 0 0 Q cX11_isHermit P) {σ : MS} {x1 : Int32} {H : Heap} {locs : List Loc} {ls : Array Slot} (hW : WI g.1 (mw g) (mty g) A s σ H locs) (hl : lv_has ls 2 [(0, .ref g.2.1), (1, .int x1)]) (hq : qX11_isHermit σ x1 P) : W p l e R s m args below meth c H locs 0 0 Q (F0 m 0 ls []) := by
  have hx := C.1
  have hb := C.2.1
  unfold qX11_isHermit at hq
  refine lv_iload_n hx hb dX11_isHermit_0 rfl (lv_at hl 1 rfl) ?_
  refine lv_iconst (v := 0) hx hb dX11_isHermit_1 (by decide) ?_
  refine lv_aload_n hx hb dX11_isHermit_2 rfl (lv_at hl 0 rfl) ?_
  refine mg_0 C hW dX11_isHermit_3 ?_
  refine lv_iconst (v := 1) hx hb dX11_isHermit_6 (by decide) ?_
  refine lv_isub hx hb dX11_isHermit_7 ?_
  refine kX11_within C hW (Nat.le_trans (by decide) hRf) (Nat.le_trans (by decide) hRl) hl.1 (Nat.le_of_ble_eq_true rfl) dX11_isHermit_8 hq (fun r_2 σ_1 H locs hq hW => ?_)
  obtain ⟨hib, hq⟩ := hq
  exact hret _ _ _ _ _ _ dX11_isHermit_11 hW hib hq
set_option maxHeartbeats 4000000 in
set_option maxRecDepth 100000 in
theorem mX11_isHermit {l : Launch} {g : MG} {σ : MS} {x1 : Int32} {P : Int32 → MS → Prop} (hq : qX11_isHermit σ x1 P) (sz : Nat) : Met l yX11_isHermit (cws yX11_isHermit cX11_isHermit 2 (some .boolean)) ({ frames := 1, cells := 0, slots := 0, locals := 22 } : Room) (va_Pc [.ref g.2.1, .int x1] (WP g.1 (mw g) (mty g) σ sz)) (va_Qi P (WB g.1 (mw g) (mty g) σ sz) (va_A (mw g σ) sz)) 0 0 (va_A (mw g σ) sz) :=
  w_enter (by decide) (Nat.le_of_ble_eq_true rfl) (fun p e s m args below meth c ls C hr hk hn hs hW hl => wX11_isHermit C (Nat.le_refl _) (Nat.le_refl _) (fun pc ls v σ H locs hd hW hv hq => w_zret C hs hr hk hW hd hv hq) hW hl hq)
set_option maxHeartbeats 4000000 in
set_option maxRecDepth 100000 in
theorem kX11_isHermit (C : CallFix p m c cc nL s args lwg RX11) {σ : MS} (hW : WI g.1 (mw g) (mty g) A s σ H locs) (hRf : 2 ≤ R.frames) (hRl : 43 ≤ R.locals) (hls : ls.size = nL) (hro : (rest.map fun v => v.category).sum ≤ 8) {x1 : Int32} (hd : decode cc pc = .ok (.invokevirtual 141, 3)) {P : Int32 → MS → Prop} (hq : qX11_isHermit σ x1 P) (kk : ∀ (r : Int32) (σ1 : MS) (H : Heap) (locs : List Loc), P r σ1 → WI g.1 (mw g) (mty g) A s σ1 H locs → W p l e R s m args below meth c H locs 0 0 Q (F0 m (pc + 3) ls (.int r :: rest))) : W p l e R s m args below meth c H locs 0 0 Q (F0 m pc ls (.int x1 :: .ref g.2.1 :: rest)) :=
  w_calli hW (w_runV C hW (mX11_isHermit hq _) ⟨lwg_at 1121 (by decide +kernel) rfl, lwg_at 74 (by decide +kernel) rfl, lwg_at 1118 (by decide +kernel) rfl⟩ (lwg_at 1120 (by decide +kernel) rfl) (lwg_at 30 (by decide +kernel) rfl) (np := 1) (by decide +kernel) ⟨rfl, rfl⟩ ⟨hRf, hRl⟩ (ci := 12) rfl rfl (q0 := 0) rfl rfl hls rfl hro hd ⟨Nat.zero_le _, Nat.zero_le _⟩) kk
-- X11_isNumber
set_option maxHeartbeats 4000000 in
set_option maxRecDepth 100000 in
theorem wX11_isNumber (C : CallFix p m c cX11_isNumber 3 s args lwg RX11) (hRf : 1 ≤ R.frames) (hRl : 22 ≤ R.locals) {P : Int32 → MS → Prop} (hret : RetZ g.1 (mw g) (mty g) A p l e R s m args below meth c 0 0 Q cX11_isNumber P) {σ : MS} {x0 : Int32} {x1 : Int32} {H : Heap} {locs : List Loc} {ls : Array Slot} (hW : WI g.1 (mw g) (mty g) A s σ H locs) (hl : lv_has ls 3 [(0, .int x0), (1, .int x1)]) (hq : qX11_isNumber σ x0 x1 P) : W p l e R s m args below meth c H locs 0 0 Q (F0 m 0 ls []) := by
  have hx := C.1
  have hb := C.2.1
  unfold qX11_isNumber at hq
  refine lv_iload_n hx hb dX11_isNumber_0 rfl (lv_at hl 0 rfl) ?_
  refine lv_iconst (v := 1) hx hb dX11_isNumber_1 (by decide) ?_
  refine (fun (K : ∀ v_1 : Int32, v_1 = ((if x0 = 1 then 1 else (if x0 = 4 then 1 else 0)) : Int32) → W p l e R s m args below meth c H locs 0 0 Q (F0 m 15 ls (.int v_1 :: []))) => ?_) ?_
  · refine lv_icmp_eq (tgt := 10) hx hb dX11_isNumber_2 (by decide) (fun h2 => ?_) (fun h2 => ?_)
    · refine lv_iconst (v := 1) hx hb dX11_isNumber_10 (by decide) ?_
      refine lv_goto (tgt := 15) hx hb dX11_isNumber_11 (by decide) ?_
      exact K _ (by rw [if_pos h2])
    · refine lv_iload_n hx hb dX11_isNumber_5 rfl (lv_at hl 0 rfl) ?_
      refine lv_iconst (v := 4) hx hb dX11_isNumber_6 (by decide) ?_
      refine lv_icmp_ne (tgt := 14) hx hb dX11_isNumber_7 (by decide) (fun h7 => ?_) (fun h7 => ?_)
      · refine lv_iconst (v := 0) hx hb dX11_isNumber_14 (by decide) ?_
        exact K _ (by rw [if_neg h2, if_neg h7])
      · refine lv_iconst (v := 1) hx hb dX11_isNumber_10 (by decide) ?_
        refine lv_goto (tgt := 15) hx hb dX11_isNumber_11 (by decide) ?_
        exact K _ (by rw [if_neg h2, if_pos h7])
  intro v_1 ev_1
  replace hq := hq _ ev_1
  refine lv_istore_n (lv' := [(2, .int v_1), (0, .int x0), (1, .int x1)]) hx hb dX11_isNumber_15 rfl hl (by decide) rfl (fun ls hl => ?_)
  refine lv_iload_n hx hb dX11_isNumber_16 rfl (lv_at hl 0 rfl) ?_
  refine lv_if_eq (tgt := 29) hx hb dX11_isNumber_17 (by decide) (fun h => ?_) (fun h => ?_)
  · replace hq := br_pos h hq
    refine lv_iload_n hx hb dX11_isNumber_29 rfl (lv_at hl 1 rfl) ?_
    refine lv_iconst (v := 3) hx hb dX11_isNumber_30 (by decide) ?_
    refine lv_icmp_ne (tgt := 43) hx hb dX11_isNumber_31 (by decide) (fun h => ?_) (fun h => ?_)
    · replace hq := br_neg h hq
      refine lv_iload_n hx hb dX11_isNumber_43 rfl (lv_at hl 2 rfl) ?_
      refine lv_if_ne (tgt := 51) hx hb dX11_isNumber_44 (by decide) (fun h => ?_) (fun h => ?_)
      · replace hq := br_neg h hq
        refine lv_iconst (v := 0) hx hb dX11_isNumber_51 (by decide) ?_
        exact hret _ _ _ _ _ _ dX11_isNumber_52 hW isB_0 hq
      · replace hq := br_pos h hq
        refine lv_iconst (v := 1) hx hb dX11_isNumber_47 (by decide) ?_
        refine lv_goto (tgt := 52) hx hb dX11_isNumber_48 (by decide) ?_
        exact hret _ _ _ _ _ _ dX11_isNumber_52 hW isB_1 hq
    · replace hq := br_pos h hq
      refine lv_iload_n hx hb dX11_isNumber_34 rfl (lv_at hl 2 rfl) ?_
      refine lv_iconst (v := 1) hx hb dX11_isNumber_35 (by decide) ?_
      refine lv_iconst (v := 4) hx hb dX11_isNumber_36 (by decide) ?_
      refine kX11_within C hW (Nat.le_trans (by decide) hRf) (Nat.le_trans (by decide) hRl) hl.1 (Nat.le_of_ble_eq_true rfl) dX11_isNumber_37 hq (fun r_3 σ_2 H locs hq hW => ?_)
      refine lv_goto (tgt := 52) hx hb dX11_isNumber_40 (by decide) ?_
      obtain ⟨hib, hq⟩ := hq
      exact hret _ _ _ _ _ _ dX11_isNumber_52 hW hib hq
  · replace hq := br_neg h hq
    refine lv_iload_n hx hb dX11_isNumber_20 rfl (lv_at hl 2 rfl) ?_
    refine lv_iconst (v := 2) hx hb dX11_isNumber_21 (by decide) ?_
    refine lv_iconst (v := 4) hx hb dX11_isNumber_22 (by decide) ?_
    refine kX11_within C hW (Nat.le_trans (by decide) hRf) (Nat.le_trans (by decide) hRl) hl.1 (Nat.le_of_ble_eq_true rfl) dX11_isNumber_23 hq (fun r_5 σ_4 H locs hq hW => ?_)
    refine lv_goto (tgt := 52) hx hb dX11_isNumber_26 (by decide) ?_
    obtain ⟨hib, hq⟩ := hq
    exact hret _ _ _ _ _ _ dX11_isNumber_52 hW hib hq
set_option maxHeartbeats 4000000 in
set_option maxRecDepth 100000 in
theorem mX11_isNumber {l : Launch} {g : MG} {σ : MS} {x0 : Int32} {x1 : Int32} {P : Int32 → MS → Prop} (hq : qX11_isNumber σ x0 x1 P) (sz : Nat) : Met l yX11_isNumber (cws yX11_isNumber cX11_isNumber 3 (some .boolean)) ({ frames := 1, cells := 0, slots := 0, locals := 22 } : Room) (va_Pc [.int x0, .int x1] (WP g.1 (mw g) (mty g) σ sz)) (va_Qi P (WB g.1 (mw g) (mty g) σ sz) (va_A (mw g σ) sz)) 0 0 (va_A (mw g σ) sz) :=
  w_enter (by decide) (Nat.le_of_ble_eq_true rfl) (fun p e s m args below meth c ls C hr hk hn hs hW hl => wX11_isNumber C (Nat.le_refl _) (Nat.le_refl _) (fun pc ls v σ H locs hd hW hv hq => w_zret C hs hr hk hW hd hv hq) hW hl hq)
set_option maxHeartbeats 4000000 in
set_option maxRecDepth 100000 in
theorem kX11_isNumber (C : CallFix p m c cc nL s args lwg RX11) {σ : MS} (hW : WI g.1 (mw g) (mty g) A s σ H locs) (hRf : 2 ≤ R.frames) (hRl : 44 ≤ R.locals) (hls : ls.size = nL) (hro : (rest.map fun v => v.category).sum ≤ 8) {x0 : Int32} {x1 : Int32} (hd : decode cc pc = .ok (.invokestatic 137, 3)) {P : Int32 → MS → Prop} (hq : qX11_isNumber σ x0 x1 P) (kk : ∀ (r : Int32) (σ1 : MS) (H : Heap) (locs : List Loc), P r σ1 → WI g.1 (mw g) (mty g) A s σ1 H locs → W p l e R s m args below meth c H locs 0 0 Q (F0 m (pc + 3) ls (.int r :: rest))) : W p l e R s m args below meth c H locs 0 0 Q (F0 m pc ls (.int x1 :: .int x0 :: rest)) :=
  w_calli hW (w_runS C hW (mX11_isNumber hq _) ⟨lwg_at 1113 (by decide +kernel) rfl, lwg_at 74 (by decide +kernel) rfl, lwg_at 1111 (by decide +kernel) rfl⟩ (lwg_at 1112 (by decide +kernel) rfl) (np := 2) (by decide +kernel) ⟨rfl, rfl⟩ ⟨hRf, hRl⟩ rfl hls rfl hro hd ⟨Nat.zero_le _, Nat.zero_le _⟩) kk
end
