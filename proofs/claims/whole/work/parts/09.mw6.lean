section
variable {p : Program} {l : Launch} {e : Env} {R : Room} {s : State} {m : MethodId} {args : Array Value} {below : List Frame} {meth : Method} {c : Code} {H : Heap} {locs : List Loc} {cells slots : Nat} {Q : State → Prop}
variable {cc : ByteArray} {pc : Nat} {ls : Array Slot} {rest : List Value} {own : String} {nL : Nat}
variable {g : MG} {A : Nat → Prop}
-- X11_twice
set_option maxHeartbeats 4000000 in
set_option maxRecDepth 100000 in
theorem wX11_twice_L62 (C : CallFix p m c cX11_twice 7 s args lwg RX11) (hRf : 6 ≤ R.frames) (hRl : 134 ≤ R.locals) {P : Int32 → MS → Prop} (hret : RetI g.1 (mw g) (mty g) A p l e R s m args below meth c 0 0 Q cX11_twice P) : ∀ (n : Nat) (σ : MS) (x1 : Int32) (x2 : Int32) (x3 : Int32) (x4 : Int32) (x5 : Int32) (x6 : Int32) (H : Heap) (locs : List Loc) (ls : Array Slot), WI g.1 (mw g) (mty g) A s σ H locs → lv_has ls 7 [(0, .ref g.2.1), (1, .int x1), (2, .int x2), (3, .int x3), (4, .int x4), (5, .int x5), (6, .int x6)] → qX11_twice_L62  P n σ x1 x2 x3 x4 x5 x6 → W p l e R s m args below meth c H locs 0 0 Q (F0 m 62 ls []) := by
  have hx := C.1
  have hb := C.2.1
  intro n
  induction n with
  | zero =>
    intro σ x1 x2 x3 x4 x5 x6 H locs ls hW hl hq
    rw [qX11_twice_L62] at hq
    exact hq.elim
  | succ n ih =>
    intro σ x1 x2 x3 x4 x5 x6 H locs ls hW hl hq
    rw [qX11_twice_L62] at hq
    refine lv_iload hx hb dX11_twice_62 (lv_at hl 6 rfl) ?_
    refine lv_aload_n hx hb dX11_twice_64 rfl (lv_at hl 0 rfl) ?_
    refine mg_0 C hW dX11_twice_65 ?_
    refine lv_icmp_ge (tgt := 104) hx hb dX11_twice_68 (by decide) (fun h => ?_) (fun h => ?_)
    · replace hq := br_pos h hq
      refine lv_iload hx hb dX11_twice_104 (lv_at hl 5 rfl) ?_
      exact hret _ _ _ _ _ _ dX11_twice_106 hW hq
    · replace hq := br_neg h hq
      refine lv_iload hx hb dX11_twice_71 (lv_at hl 5 rfl) ?_
      refine lv_aload_n hx hb dX11_twice_73 rfl (lv_at hl 0 rfl) ?_
      refine lv_iload_n hx hb dX11_twice_74 rfl (lv_at hl 1 rfl) ?_
      refine lv_iload_n hx hb dX11_twice_75 rfl (lv_at hl 2 rfl) ?_
      refine lv_iload_n hx hb dX11_twice_76 rfl (lv_at hl 3 rfl) ?_
      refine lv_iload hx hb dX11_twice_77 (lv_at hl 4 rfl) ?_
      refine lv_iload hx hb dX11_twice_79 (lv_at hl 6 rfl) ?_
      refine kX11_explains C hW (Nat.le_trans (by decide) hRf) (Nat.le_trans (by decide) hRl) hl.1 (Nat.le_of_ble_eq_true rfl) dX11_twice_81 hq (fun r_2 σ_1 H locs hq hW => ?_)
      refine (fun (K : ∀ v_3 : Int32, v_3 = ((if r_2 = 0 then 0 else (jshl 1 x6)) : Int32) → W p l e R s m args below meth c H locs 0 0 Q (F0 m 95 ls (.int v_3 :: [.int x5]))) => ?_) ?_
      · refine lv_if_eq (tgt := 94) hx hb dX11_twice_84 (by decide) (fun h84 => ?_) (fun h84 => ?_)
        · refine lv_iconst (v := 0) hx hb dX11_twice_94 (by decide) ?_
          exact K _ (by rw [if_pos h84])
        · refine lv_iconst (v := 1) hx hb dX11_twice_87 (by decide) ?_
          refine lv_iload hx hb dX11_twice_88 (lv_at hl 6 rfl) ?_
          refine w_ishl hx hb dX11_twice_90 ?_
          refine lv_goto (tgt := 95) hx hb dX11_twice_91 (by decide) ?_
          exact K _ (by rw [if_neg h84])
      intro v_3 ev_3
      replace hq := hq _ ev_3
      refine lv_ior hx hb dX11_twice_95 ?_
      refine lv_topi (fun x5_4 ex5_4 => ?_)
      replace hq := hq _ ex5_4
      refine lv_istore (lv' := [(5, .int x5_4), (0, .ref g.2.1), (1, .int x1), (2, .int x2), (3, .int x3), (4, .int x4), (6, .int x6)]) hx hb dX11_twice_96 hl (by decide) rfl (fun ls hl => ?_)
      obtain ⟨x6_5, ex6_5⟩ : ∃ y : Int32, y = x6 + 1 := ⟨_, rfl⟩
      replace hq := hq _ ex6_5
      refine lv_iinc (v := x6_5) (lv' := [(6, .int x6_5), (5, .int x5_4), (0, .ref g.2.1), (1, .int x1), (2, .int x2), (3, .int x3), (4, .int x4)]) hx hb dX11_twice_98 hl (k := 6) rfl (by rw [ex6_5]; rfl) (by decide) rfl (fun ls hl => ?_)
      refine lv_goto (tgt := 62) hx hb dX11_twice_101 (by decide) ?_
      exact ih _ _ _ _ _ _ _ _ _ _ hW (lv_sub hl [2, 3, 4, 5, 6, 1, 0] rfl) hq
set_option maxHeartbeats 4000000 in
set_option maxRecDepth 100000 in
theorem wX11_twice (C : CallFix p m c cX11_twice 7 s args lwg RX11) (hRf : 6 ≤ R.frames) (hRl : 134 ≤ R.locals) {P : Int32 → MS → Prop} (hret : RetI g.1 (mw g) (mty g) A p l e R s m args below meth c 0 0 Q cX11_twice P) {σ : MS} {x1 : Int32} {x2 : Int32} {x3 : Int32} {x4 : Int32} {H : Heap} {locs : List Loc} {ls : Array Slot} (hW : WI g.1 (mw g) (mty g) A s σ H locs) (hl : lv_has ls 7 [(0, .ref g.2.1), (1, .int x1), (2, .int x2), (3, .int x3), (4, .int x4)]) (hq : qX11_twice σ x1 x2 x3 x4 P) : W p l e R s m args below meth c H locs 0 0 Q (F0 m 0 ls []) := by
  have hx := C.1
  have hb := C.2.1
  unfold qX11_twice at hq
  refine lv_aload_n hx hb dX11_twice_0 rfl (lv_at hl 0 rfl) ?_
  refine lv_iload_n hx hb dX11_twice_1 rfl (lv_at hl 1 rfl) ?_
  refine lv_iload_n hx hb dX11_twice_2 rfl (lv_at hl 2 rfl) ?_
  refine kX11_isDay C hW (Nat.le_trans (by decide) hRf) (Nat.le_trans (by decide) hRl) hl.1 (Nat.le_of_ble_eq_true rfl) dX11_twice_3 hq (fun r_2 σ_1 H locs hq hW => ?_)
  refine lv_if_ne (tgt := 12) hx hb dX11_twice_6 (by decide) (fun h => ?_) (fun h => ?_)
  · replace hq := br_neg h hq
    refine lv_iload_n hx hb dX11_twice_12 rfl (lv_at hl 3 rfl) ?_
    refine lv_iconst (v := 1) hx hb dX11_twice_13 (by decide) ?_
    refine lv_bipush (v := 60) hx hb dX11_twice_14 (by decide) ?_
    refine kX11_within C hW (Nat.le_trans (by decide) hRf) (Nat.le_trans (by decide) hRl) hl.1 (Nat.le_of_ble_eq_true rfl) dX11_twice_16 hq (fun r_4 σ_3 H locs hq hW => ?_)
    refine lv_if_eq (tgt := 34) hx hb dX11_twice_19 (by decide) (fun h => ?_) (fun h => ?_)
    · replace hq := br_pos h hq
      refine lv_bipush (v := (-102)) hx hb dX11_twice_34 (by decide) ?_
      exact hret _ _ _ _ _ _ dX11_twice_36 hW hq
    · replace hq := br_neg h hq
      refine lv_iload hx hb dX11_twice_22 (lv_at hl 4 rfl) ?_
      refine lv_iconst (v := 0) hx hb dX11_twice_24 (by decide) ?_
      refine lv_sipush (v := 495) hx hb dX11_twice_25 (by decide) ?_
      refine kX11_within C hW (Nat.le_trans (by decide) hRf) (Nat.le_trans (by decide) hRl) hl.1 (Nat.le_of_ble_eq_true rfl) dX11_twice_28 hq (fun r_6 σ_5 H locs hq hW => ?_)
      refine lv_if_ne (tgt := 37) hx hb dX11_twice_31 (by decide) (fun h => ?_) (fun h => ?_)
      · replace hq := br_neg h hq
        refine lv_aload_n hx hb dX11_twice_37 rfl (lv_at hl 0 rfl) ?_
        refine lv_iload_n hx hb dX11_twice_38 rfl (lv_at hl 1 rfl) ?_
        refine lv_iload_n hx hb dX11_twice_39 rfl (lv_at hl 2 rfl) ?_
        refine lv_iload_n hx hb dX11_twice_40 rfl (lv_at hl 3 rfl) ?_
        refine lv_iload hx hb dX11_twice_41 (lv_at hl 4 rfl) ?_
        refine lv_iconst (v := (-1)) hx hb dX11_twice_43 (by decide) ?_
        refine kX11_explains C hW (Nat.le_trans (by decide) hRf) (Nat.le_trans (by decide) hRl) hl.1 (Nat.le_of_ble_eq_true rfl) dX11_twice_44 hq (fun r_8 σ_7 H locs hq hW => ?_)
        refine (fun (K : ∀ v_9 : Int32, v_9 = ((if r_8 = 0 then 0 else 1024) : Int32) → W p l e R s m args below meth c H locs 0 0 Q (F0 m 57 ls (.int v_9 :: []))) => ?_) ?_
        · refine lv_if_eq (tgt := 56) hx hb dX11_twice_47 (by decide) (fun h47 => ?_) (fun h47 => ?_)
          · refine lv_iconst (v := 0) hx hb dX11_twice_56 (by decide) ?_
            exact K _ (by rw [if_pos h47])
          · refine lv_sipush (v := 1024) hx hb dX11_twice_50 (by decide) ?_
            refine lv_goto (tgt := 57) hx hb dX11_twice_53 (by decide) ?_
            exact K _ (by rw [if_neg h47])
        intro v_9 ev_9
        replace hq := hq _ ev_9
        refine lv_istore (lv' := [(5, .int v_9), (0, .ref g.2.1), (1, .int x1), (2, .int x2), (3, .int x3), (4, .int x4)]) hx hb dX11_twice_57 hl (by decide) rfl (fun ls hl => ?_)
        refine lv_iconst (v := 0) hx hb dX11_twice_59 (by decide) ?_
        refine lv_istore (lv' := [(6, .int 0), (5, .int v_9), (0, .ref g.2.1), (1, .int x1), (2, .int x2), (3, .int x3), (4, .int x4)]) hx hb dX11_twice_60 hl (by decide) rfl (fun ls hl => ?_)
        obtain ⟨f62, hq⟩ := hq
        exact wX11_twice_L62 C hRf hRl hret f62 _ _ _ _ _ _ _ _ _ _ hW (lv_sub hl [2, 3, 4, 5, 6, 1, 0] rfl) hq
      · replace hq := br_pos h hq
        refine lv_bipush (v := (-102)) hx hb dX11_twice_34 (by decide) ?_
        exact hret _ _ _ _ _ _ dX11_twice_36 hW hq
  · replace hq := br_pos h hq
    refine lv_bipush (v := (-101)) hx hb dX11_twice_9 (by decide) ?_
    exact hret _ _ _ _ _ _ dX11_twice_11 hW hq
set_option maxHeartbeats 4000000 in
set_option maxRecDepth 100000 in
theorem mX11_twice {l : Launch} {g : MG} {σ : MS} {x1 : Int32} {x2 : Int32} {x3 : Int32} {x4 : Int32} {P : Int32 → MS → Prop} (hq : qX11_twice σ x1 x2 x3 x4 P) (sz : Nat) : Met l yX11_twice (cws yX11_twice cX11_twice 7 (some .int)) ({ frames := 6, cells := 0, slots := 0, locals := 134 } : Room) (va_Pc [.ref g.2.1, .int x1, .int x2, .int x3, .int x4] (WP g.1 (mw g) (mty g) σ sz)) (va_Qi P (WB g.1 (mw g) (mty g) σ sz) (va_A (mw g σ) sz)) 0 0 (va_A (mw g σ) sz) :=
  w_enter (by decide) (Nat.le_of_ble_eq_true rfl) (fun p e s m args below meth c ls C hr hk hn hs hW hl => wX11_twice C (Nat.le_refl _) (Nat.le_refl _) (fun pc ls v σ H locs hd hW hq => w_iret C hs hr hk hW hd hq) hW hl hq)
-- X11_image
set_option maxHeartbeats 4000000 in
set_option maxRecDepth 100000 in
theorem wX11_image_L69 (C : CallFix p m c cX11_image 2 s args lwg RX11) (hRf : 0 ≤ R.frames) (hRl : 0 ≤ R.locals) {P : Int32 → MS → Prop} (hret : RetI g.1 (mw g) (mty g) A p l e R s m args below meth c 0 0 Q cX11_image P) : ∀ (n : Nat) (σ : MS) (x1 : Int32) (H : Heap) (locs : List Loc) (ls : Array Slot), WI g.1 (mw g) (mty g) A s σ H locs → lv_has ls 2 [(0, .ref g.2.1), (1, .int x1)] → qX11_image_L69  P n σ x1 → W p l e R s m args below meth c H locs 0 0 Q (F0 m 69 ls []) := by
  have hx := C.1
  have hb := C.2.1
  intro n
  induction n with
  | zero =>
    intro σ x1 H locs ls hW hl hq
    rw [qX11_image_L69] at hq
    exact hq.elim
  | succ n ih =>
    intro σ x1 H locs ls hW hl hq
    rw [qX11_image_L69] at hq
    refine lv_iload_n hx hb dX11_image_69 rfl (lv_at hl 1 rfl) ?_
    refine lv_iconst (v := 5) hx hb dX11_image_70 (by decide) ?_
    refine lv_icmp_ge (tgt := 92) hx hb dX11_image_71 (by decide) (fun h => ?_) (fun h => ?_)
    · replace hq := br_pos h hq
      refine lv_aload_n hx hb dX11_image_92 rfl (lv_at hl 0 rfl) ?_
      refine mg_0 C hW dX11_image_93 ?_
      exact hret _ _ _ _ _ _ dX11_image_96 hW hq
    · replace hq := br_neg h hq
      refine lv_aload_n hx hb dX11_image_74 rfl (lv_at hl 0 rfl) ?_
      refine mg_25 C hW dX11_image_75 ?_
      refine lv_iload_n hx hb dX11_image_78 rfl (lv_at hl 1 rfl) ?_
      refine lv_aload_n hx hb dX11_image_79 rfl (lv_at hl 0 rfl) ?_
      refine mg_9 C hW dX11_image_80 ?_
      refine lv_iload_n hx hb dX11_image_83 rfl (lv_at hl 1 rfl) ?_
      obtain ⟨hin1, hq⟩ := hq
      refine ma_9 C hW hin1 dX11_image_84 ?_
      refine ms_25 C hW hin1 dX11_image_85 (fun σ_2 H locs eσ_2 hW => ?_)
      replace hq := hq _ eσ_2
      obtain ⟨x1_3, ex1_3⟩ : ∃ y : Int32, y = x1 + 1 := ⟨_, rfl⟩
      replace hq := hq _ ex1_3
      refine lv_iinc (v := x1_3) (lv' := [(1, .int x1_3), (0, .ref g.2.1)]) hx hb dX11_image_86 hl (k := 1) rfl (by rw [ex1_3]; rfl) (by decide) rfl (fun ls hl => ?_)
      refine lv_goto (tgt := 69) hx hb dX11_image_89 (by decide) ?_
      exact ih _ _ _ _ _ hW (lv_sub hl [1, 0] rfl) hq
set_option maxHeartbeats 4000000 in
set_option maxRecDepth 100000 in
theorem wX11_image_L31 (C : CallFix p m c cX11_image 2 s args lwg RX11) (hRf : 0 ≤ R.frames) (hRl : 0 ≤ R.locals) {P : Int32 → MS → Prop} (hret : RetI g.1 (mw g) (mty g) A p l e R s m args below meth c 0 0 Q cX11_image P) {e67 : MS → Prop} (he67 : ∀ (σ : MS) (H : Heap) (locs : List Loc) (ls : Array Slot), WI g.1 (mw g) (mty g) A s σ H locs → lv_has ls 2 [(0, .ref g.2.1)] → e67 σ → W p l e R s m args below meth c H locs 0 0 Q (F0 m 67 ls [])) : ∀ (n : Nat) (σ : MS) (x1 : Int32) (H : Heap) (locs : List Loc) (ls : Array Slot), WI g.1 (mw g) (mty g) A s σ H locs → lv_has ls 2 [(0, .ref g.2.1), (1, .int x1)] → qX11_image_L31 e67 P n σ x1 → W p l e R s m args below meth c H locs 0 0 Q (F0 m 31 ls []) := by
  have hx := C.1
  have hb := C.2.1
  intro n
  induction n with
  | zero =>
    intro σ x1 H locs ls hW hl hq
    rw [qX11_image_L31] at hq
    exact hq.elim
  | succ n ih =>
    intro σ x1 H locs ls hW hl hq
    rw [qX11_image_L31] at hq
    refine lv_iload_n hx hb dX11_image_31 rfl (lv_at hl 1 rfl) ?_
    refine lv_bipush (v := 10) hx hb dX11_image_32 (by decide) ?_
    refine lv_icmp_ge (tgt := 67) hx hb dX11_image_34 (by decide) (fun h => ?_) (fun h => ?_)
    · replace hq := br_pos h hq
      exact he67 _ _ _ _ hW (lv_sub hl [0] rfl) hq
    · replace hq := br_neg h hq
      refine lv_aload_n hx hb dX11_image_37 rfl (lv_at hl 0 rfl) ?_
      refine mg_23 C hW dX11_image_38 ?_
      refine lv_iload_n hx hb dX11_image_41 rfl (lv_at hl 1 rfl) ?_
      refine lv_aload_n hx hb dX11_image_42 rfl (lv_at hl 0 rfl) ?_
      refine mg_6 C hW dX11_image_43 ?_
      refine lv_iload_n hx hb dX11_image_46 rfl (lv_at hl 1 rfl) ?_
      obtain ⟨hin1, hq⟩ := hq
      refine ma_6 C hW hin1 dX11_image_47 ?_
      refine ms_23 C hW hin1 dX11_image_48 (fun σ_2 H locs eσ_2 hW => ?_)
      replace hq := hq _ eσ_2
      refine lv_aload_n hx hb dX11_image_49 rfl (lv_at hl 0 rfl) ?_
      refine mg_24 C hW dX11_image_50 ?_
      refine lv_iload_n hx hb dX11_image_53 rfl (lv_at hl 1 rfl) ?_
      refine lv_aload_n hx hb dX11_image_54 rfl (lv_at hl 0 rfl) ?_
      refine mg_7 C hW dX11_image_55 ?_
      refine lv_iload_n hx hb dX11_image_58 rfl (lv_at hl 1 rfl) ?_
      refine ma_7 C hW hin1 dX11_image_59 ?_
      refine ms_24 C hW hin1 dX11_image_60 (fun σ_3 H locs eσ_3 hW => ?_)
      replace hq := hq _ eσ_3
      obtain ⟨x1_4, ex1_4⟩ : ∃ y : Int32, y = x1 + 1 := ⟨_, rfl⟩
      replace hq := hq _ ex1_4
      refine lv_iinc (v := x1_4) (lv' := [(1, .int x1_4), (0, .ref g.2.1)]) hx hb dX11_image_61 hl (k := 1) rfl (by rw [ex1_4]; rfl) (by decide) rfl (fun ls hl => ?_)
      refine lv_goto (tgt := 31) hx hb dX11_image_64 (by decide) ?_
      exact ih _ _ _ _ _ hW (lv_sub hl [1, 0] rfl) hq
set_option maxHeartbeats 4000000 in
set_option maxRecDepth 100000 in
theorem wX11_image (C : CallFix p m c cX11_image 2 s args lwg RX11) (hRf : 0 ≤ R.frames) (hRl : 0 ≤ R.locals) {P : Int32 → MS → Prop} (hret : RetI g.1 (mw g) (mty g) A p l e R s m args below meth c 0 0 Q cX11_image P) {σ : MS} {H : Heap} {locs : List Loc} {ls : Array Slot} (hW : WI g.1 (mw g) (mty g) A s σ H locs) (hl : lv_has ls 2 [(0, .ref g.2.1)]) (hq : qX11_image σ  P) : W p l e R s m args below meth c H locs 0 0 Q (F0 m 0 ls []) := by
  have hx := C.1
  have hb := C.2.1
  unfold qX11_image at hq
  refine lv_aload_n hx hb dX11_image_0 rfl (lv_at hl 0 rfl) ?_
  refine lv_iconst (v := 1) hx hb dX11_image_1 (by decide) ?_
  refine mp_19 C hW isB_1 dX11_image_2 (fun σ_1 H locs eσ_1 hW => ?_)
  replace hq := hq _ eσ_1
  refine lv_aload_n hx hb dX11_image_5 rfl (lv_at hl 0 rfl) ?_
  refine lv_aload_n hx hb dX11_image_6 rfl (lv_at hl 0 rfl) ?_
  refine mg_0 C hW dX11_image_7 ?_
  refine mp_20 C hW dX11_image_10 (fun σ_2 H locs eσ_2 hW => ?_)
  replace hq := hq _ eσ_2
  refine lv_aload_n hx hb dX11_image_13 rfl (lv_at hl 0 rfl) ?_
  refine lv_aload_n hx hb dX11_image_14 rfl (lv_at hl 0 rfl) ?_
  refine mg_10 C hW dX11_image_15 ?_
  refine mp_21 C hW dX11_image_18 (fun σ_3 H locs eσ_3 hW => ?_)
  replace hq := hq _ eσ_3
  refine lv_aload_n hx hb dX11_image_21 rfl (lv_at hl 0 rfl) ?_
  refine lv_aload_n hx hb dX11_image_22 rfl (lv_at hl 0 rfl) ?_
  refine mg_11 C hW dX11_image_23 ?_
  obtain ⟨hib, hq⟩ := hq
  refine mp_22 C hW hib dX11_image_26 (fun σ_4 H locs eσ_4 hW => ?_)
  replace hq := hq _ eσ_4
  refine lv_iconst (v := 0) hx hb dX11_image_29 (by decide) ?_
  refine lv_istore_n (lv' := [(1, .int 0), (0, .ref g.2.1)]) hx hb dX11_image_30 rfl hl (by decide) rfl (fun ls hl => ?_)
  obtain ⟨f31, hq⟩ := hq
  refine wX11_image_L31 C hRf hRl hret ?_ f31 _ _ _ _ _ hW (lv_sub hl [1, 0] rfl) hq
  · intro σ_5 H locs ls hW hl hq
    refine lv_iconst (v := 0) hx hb dX11_image_67 (by decide) ?_
    refine lv_istore_n (lv' := [(1, .int 0), (0, .ref g.2.1)]) hx hb dX11_image_68 rfl hl (by decide) rfl (fun ls hl => ?_)
    obtain ⟨f69, hq⟩ := hq
    exact wX11_image_L69 C hRf hRl hret f69 _ _ _ _ _ hW (lv_sub hl [1, 0] rfl) hq
set_option maxHeartbeats 4000000 in
set_option maxRecDepth 100000 in
theorem mX11_image {l : Launch} {g : MG} {σ : MS} {P : Int32 → MS → Prop} (hq : qX11_image σ  P) (sz : Nat) : Met l yX11_image (cws yX11_image cX11_image 2 (some .int)) ({ frames := 0, cells := 0, slots := 0, locals := 0 } : Room) (va_Pc [.ref g.2.1] (WP g.1 (mw g) (mty g) σ sz)) (va_Qi P (WB g.1 (mw g) (mty g) σ sz) (va_A (mw g σ) sz)) 0 0 (va_A (mw g σ) sz) :=
  w_enter (by decide) (Nat.le_of_ble_eq_true rfl) (fun p e s m args below meth c ls C hr hk hn hs hW hl => wX11_image C (Nat.le_refl _) (Nat.le_refl _) (fun pc ls v σ H locs hd hW hq => w_iret C hs hr hk hW hd hq) hW hl hq)
-- X11_restore
set_option maxHeartbeats 4000000 in
set_option maxRecDepth 100000 in
theorem wX11_restore_L125 (C : CallFix p m c cX11_restore 2 s args lwg RX11) (hRf : 0 ≤ R.frames) (hRl : 0 ≤ R.locals) {P : Int32 → MS → Prop} (hret : RetI g.1 (mw g) (mty g) A p l e R s m args below meth c 0 0 Q cX11_restore P) : ∀ (n : Nat) (σ : MS) (x1 : Int32) (H : Heap) (locs : List Loc) (ls : Array Slot), WI g.1 (mw g) (mty g) A s σ H locs → lv_has ls 2 [(0, .ref g.2.1), (1, .int x1)] → qX11_restore_L125  P n σ x1 → W p l e R s m args below meth c H locs 0 0 Q (F0 m 125 ls []) := by
  have hx := C.1
  have hb := C.2.1
  intro n
  induction n with
  | zero =>
    intro σ x1 H locs ls hW hl hq
    rw [qX11_restore_L125] at hq
    exact hq.elim
  | succ n ih =>
    intro σ x1 H locs ls hW hl hq
    rw [qX11_restore_L125] at hq
    refine lv_iload_n hx hb dX11_restore_125 rfl (lv_at hl 1 rfl) ?_
    refine lv_iconst (v := 5) hx hb dX11_restore_126 (by decide) ?_
    refine lv_icmp_ge (tgt := 148) hx hb dX11_restore_127 (by decide) (fun h => ?_) (fun h => ?_)
    · replace hq := br_pos h hq
      refine lv_aload_n hx hb dX11_restore_148 rfl (lv_at hl 0 rfl) ?_
      refine mg_0 C hW dX11_restore_149 ?_
      exact hret _ _ _ _ _ _ dX11_restore_152 hW hq
    · replace hq := br_neg h hq
      refine lv_aload_n hx hb dX11_restore_130 rfl (lv_at hl 0 rfl) ?_
      refine mg_9 C hW dX11_restore_131 ?_
      refine lv_iload_n hx hb dX11_restore_134 rfl (lv_at hl 1 rfl) ?_
      refine lv_aload_n hx hb dX11_restore_135 rfl (lv_at hl 0 rfl) ?_
      refine mg_25 C hW dX11_restore_136 ?_
      refine lv_iload_n hx hb dX11_restore_139 rfl (lv_at hl 1 rfl) ?_
      obtain ⟨hin1, hq⟩ := hq
      refine ma_25 C hW hin1 dX11_restore_140 ?_
      refine ms_9 C hW hin1 dX11_restore_141 (fun σ_2 H locs eσ_2 hW => ?_)
      replace hq := hq _ eσ_2
      obtain ⟨x1_3, ex1_3⟩ : ∃ y : Int32, y = x1 + 1 := ⟨_, rfl⟩
      replace hq := hq _ ex1_3
      refine lv_iinc (v := x1_3) (lv' := [(1, .int x1_3), (0, .ref g.2.1)]) hx hb dX11_restore_142 hl (k := 1) rfl (by rw [ex1_3]; rfl) (by decide) rfl (fun ls hl => ?_)
      refine lv_goto (tgt := 125) hx hb dX11_restore_145 (by decide) ?_
      exact ih _ _ _ _ _ hW (lv_sub hl [1, 0] rfl) hq
set_option maxHeartbeats 4000000 in
set_option maxRecDepth 100000 in
theorem wX11_restore_L97 (C : CallFix p m c cX11_restore 2 s args lwg RX11) (hRf : 0 ≤ R.frames) (hRl : 0 ≤ R.locals) {P : Int32 → MS → Prop} (hret : RetI g.1 (mw g) (mty g) A p l e R s m args below meth c 0 0 Q cX11_restore P) {e123 : MS → Prop} (he123 : ∀ (σ : MS) (H : Heap) (locs : List Loc) (ls : Array Slot), WI g.1 (mw g) (mty g) A s σ H locs → lv_has ls 2 [(0, .ref g.2.1)] → e123 σ → W p l e R s m args below meth c H locs 0 0 Q (F0 m 123 ls [])) : ∀ (n : Nat) (σ : MS) (x1 : Int32) (H : Heap) (locs : List Loc) (ls : Array Slot), WI g.1 (mw g) (mty g) A s σ H locs → lv_has ls 2 [(0, .ref g.2.1), (1, .int x1)] → qX11_restore_L97 e123 P n σ x1 → W p l e R s m args below meth c H locs 0 0 Q (F0 m 97 ls []) := by
  have hx := C.1
  have hb := C.2.1
  intro n
  induction n with
  | zero =>
    intro σ x1 H locs ls hW hl hq
    rw [qX11_restore_L97] at hq
    exact hq.elim
  | succ n ih =>
    intro σ x1 H locs ls hW hl hq
    rw [qX11_restore_L97] at hq
    refine lv_iload_n hx hb dX11_restore_97 rfl (lv_at hl 1 rfl) ?_
    refine lv_aload_n hx hb dX11_restore_98 rfl (lv_at hl 0 rfl) ?_
    refine mg_0 C hW dX11_restore_99 ?_
    refine lv_icmp_ge (tgt := 123) hx hb dX11_restore_102 (by decide) (fun h => ?_) (fun h => ?_)
    · replace hq := br_pos h hq
      exact he123 _ _ _ _ hW (lv_sub hl [0] rfl) hq
    · replace hq := br_neg h hq
      refine lv_aload_n hx hb dX11_restore_105 rfl (lv_at hl 0 rfl) ?_
      refine mg_8 C hW dX11_restore_106 ?_
      refine lv_aload_n hx hb dX11_restore_109 rfl (lv_at hl 0 rfl) ?_
      refine mg_7 C hW dX11_restore_110 ?_
      refine lv_iload_n hx hb dX11_restore_113 rfl (lv_at hl 1 rfl) ?_
      obtain ⟨hin1, hq⟩ := hq
      refine ma_7 C hW hin1 dX11_restore_114 ?_
      refine lv_iload_n hx hb dX11_restore_115 rfl (lv_at hl 1 rfl) ?_
      obtain ⟨hin2, hq⟩ := hq
      refine ms_8 C hW hin2 dX11_restore_116 (fun σ_3 H locs eσ_3 hW => ?_)
      replace hq := hq _ eσ_3
      obtain ⟨x1_4, ex1_4⟩ : ∃ y : Int32, y = x1 + 1 := ⟨_, rfl⟩
      replace hq := hq _ ex1_4
      refine lv_iinc (v := x1_4) (lv' := [(1, .int x1_4), (0, .ref g.2.1)]) hx hb dX11_restore_117 hl (k := 1) rfl (by rw [ex1_4]; rfl) (by decide) rfl (fun ls hl => ?_)
      refine lv_goto (tgt := 97) hx hb dX11_restore_120 (by decide) ?_
      exact ih _ _ _ _ _ hW (lv_sub hl [1, 0] rfl) hq
set_option maxHeartbeats 4000000 in
set_option maxRecDepth 100000 in
theorem wX11_restore_J88 (C : CallFix p m c cX11_restore 2 s args lwg RX11) (hRf : 0 ≤ R.frames) (hRl : 0 ≤ R.locals) {P : Int32 → MS → Prop} (hret : RetI g.1 (mw g) (mty g) A p l e R s m args below meth c 0 0 Q cX11_restore P) {k28 : MS → Int32 → Prop} (hk28 : ∀ (σ : MS) (x1 : Int32) (H : Heap) (locs : List Loc) (ls : Array Slot), WI g.1 (mw g) (mty g) A s σ H locs → lv_has ls 2 [(0, .ref g.2.1), (1, .int x1)] → k28 σ x1 → W p l e R s m args below meth c H locs 0 0 Q (F0 m 28 ls [])) {e95 : MS → Prop} (he95 : ∀ (σ : MS) (H : Heap) (locs : List Loc) (ls : Array Slot), WI g.1 (mw g) (mty g) A s σ H locs → lv_has ls 2 [(0, .ref g.2.1)] → e95 σ → W p l e R s m args below meth c H locs 0 0 Q (F0 m 95 ls [])) {σ : MS} {x1 : Int32} {y0 : Int32} {y1 : Int32} {H : Heap} {locs : List Loc} {ls : Array Slot} (hW : WI g.1 (mw g) (mty g) A s σ H locs) (hl : lv_has ls 2 [(0, .ref g.2.1), (1, .int x1)]) (hq : qX11_restore_J88 k28 e95 P σ x1 y0 y1) : W p l e R s m args below meth c H locs 0 0 Q (F0 m 88 ls [.int y0, .int y1, .ref (g.2.2.1 7)]) := by
  have hx := C.1
  have hb := C.2.1
  unfold qX11_restore_J88 at hq
  obtain ⟨hin1, hq⟩ := hq
  refine ms_7 C hW hin1 dX11_restore_88 (fun σ_2 H locs eσ_2 hW => ?_)
  replace hq := hq _ eσ_2
  obtain ⟨x1_3, ex1_3⟩ : ∃ y : Int32, y = x1 + 1 := ⟨_, rfl⟩
  replace hq := hq _ ex1_3
  refine lv_iinc (v := x1_3) (lv' := [(1, .int x1_3), (0, .ref g.2.1)]) hx hb dX11_restore_89 hl (k := 1) rfl (by rw [ex1_3]; rfl) (by decide) rfl (fun ls hl => ?_)
  refine lv_goto (tgt := 28) hx hb dX11_restore_92 (by decide) ?_
  exact hk28 _ _ _ _ _ hW (lv_sub hl [1, 0] rfl) hq
set_option maxHeartbeats 4000000 in
set_option maxRecDepth 100000 in
theorem wX11_restore_J64 (C : CallFix p m c cX11_restore 2 s args lwg RX11) (hRf : 0 ≤ R.frames) (hRl : 0 ≤ R.locals) {P : Int32 → MS → Prop} (hret : RetI g.1 (mw g) (mty g) A p l e R s m args below meth c 0 0 Q cX11_restore P) {k28 : MS → Int32 → Prop} (hk28 : ∀ (σ : MS) (x1 : Int32) (H : Heap) (locs : List Loc) (ls : Array Slot), WI g.1 (mw g) (mty g) A s σ H locs → lv_has ls 2 [(0, .ref g.2.1), (1, .int x1)] → k28 σ x1 → W p l e R s m args below meth c H locs 0 0 Q (F0 m 28 ls [])) {e95 : MS → Prop} (he95 : ∀ (σ : MS) (H : Heap) (locs : List Loc) (ls : Array Slot), WI g.1 (mw g) (mty g) A s σ H locs → lv_has ls 2 [(0, .ref g.2.1)] → e95 σ → W p l e R s m args below meth c H locs 0 0 Q (F0 m 95 ls [])) {σ : MS} {x1 : Int32} {y0 : Int32} {y1 : Int32} {H : Heap} {locs : List Loc} {ls : Array Slot} (hW : WI g.1 (mw g) (mty g) A s σ H locs) (hl : lv_has ls 2 [(0, .ref g.2.1), (1, .int x1)]) (hq : qX11_restore_J64 k28 e95 P σ x1 y0 y1) : W p l e R s m args below meth c H locs 0 0 Q (F0 m 64 ls [.int y0, .int y1, .ref (g.2.2.1 6)]) := by
  have hx := C.1
  have hb := C.2.1
  unfold qX11_restore_J64 at hq
  obtain ⟨hin1, hq⟩ := hq
  refine ms_6 C hW hin1 dX11_restore_64 (fun σ_2 H locs eσ_2 hW => ?_)
  replace hq := hq _ eσ_2
  refine lv_aload_n hx hb dX11_restore_65 rfl (lv_at hl 0 rfl) ?_
  refine mg_7 C hW dX11_restore_66 ?_
  refine lv_iload_n hx hb dX11_restore_69 rfl (lv_at hl 1 rfl) ?_
  refine lv_iload_n hx hb dX11_restore_70 rfl (lv_at hl 1 rfl) ?_
  refine lv_aload_n hx hb dX11_restore_71 rfl (lv_at hl 0 rfl) ?_
  refine mg_20 C hW dX11_restore_72 ?_
  refine lv_icmp_ge (tgt := 87) hx hb dX11_restore_75 (by decide) (fun h => ?_) (fun h => ?_)
  · replace hq := br_pos h hq
    refine lv_iload_n hx hb dX11_restore_87 rfl (lv_at hl 1 rfl) ?_
    exact wX11_restore_J88 C hRf hRl hret hk28 he95 hW hl hq
  · replace hq := br_neg h hq
    refine lv_aload_n hx hb dX11_restore_78 rfl (lv_at hl 0 rfl) ?_
    refine mg_24 C hW dX11_restore_79 ?_
    refine lv_iload_n hx hb dX11_restore_82 rfl (lv_at hl 1 rfl) ?_
    obtain ⟨hin3, hq⟩ := hq
    refine ma_24 C hW hin3 dX11_restore_83 ?_
    refine lv_goto (tgt := 88) hx hb dX11_restore_84 (by decide) ?_
    exact wX11_restore_J88 C hRf hRl hret hk28 he95 hW hl hq
set_option maxHeartbeats 4000000 in
set_option maxRecDepth 100000 in
theorem wX11_restore_L28 (C : CallFix p m c cX11_restore 2 s args lwg RX11) (hRf : 0 ≤ R.frames) (hRl : 0 ≤ R.locals) {P : Int32 → MS → Prop} (hret : RetI g.1 (mw g) (mty g) A p l e R s m args below meth c 0 0 Q cX11_restore P) {e95 : MS → Prop} (he95 : ∀ (σ : MS) (H : Heap) (locs : List Loc) (ls : Array Slot), WI g.1 (mw g) (mty g) A s σ H locs → lv_has ls 2 [(0, .ref g.2.1)] → e95 σ → W p l e R s m args below meth c H locs 0 0 Q (F0 m 95 ls [])) : ∀ (n : Nat) (σ : MS) (x1 : Int32) (H : Heap) (locs : List Loc) (ls : Array Slot), WI g.1 (mw g) (mty g) A s σ H locs → lv_has ls 2 [(0, .ref g.2.1), (1, .int x1)] → qX11_restore_L28 e95 P n σ x1 → W p l e R s m args below meth c H locs 0 0 Q (F0 m 28 ls []) := by
  have hx := C.1
  have hb := C.2.1
  intro n
  induction n with
  | zero =>
    intro σ x1 H locs ls hW hl hq
    rw [qX11_restore_L28] at hq
    exact hq.elim
  | succ n ih =>
    intro σ x1 H locs ls hW hl hq
    rw [qX11_restore_L28] at hq
    refine lv_iload_n hx hb dX11_restore_28 rfl (lv_at hl 1 rfl) ?_
    refine lv_aload_n hx hb dX11_restore_29 rfl (lv_at hl 0 rfl) ?_
    refine mg_0 C hW dX11_restore_30 ?_
    refine lv_icmp_ge (tgt := 95) hx hb dX11_restore_33 (by decide) (fun h => ?_) (fun h => ?_)
    · replace hq := br_pos h hq
      exact he95 _ _ _ _ hW (lv_sub hl [0] rfl) hq
    · replace hq := br_neg h hq
      refine lv_aload_n hx hb dX11_restore_36 rfl (lv_at hl 0 rfl) ?_
      refine mg_6 C hW dX11_restore_37 ?_
      refine lv_iload_n hx hb dX11_restore_40 rfl (lv_at hl 1 rfl) ?_
      refine lv_iload_n hx hb dX11_restore_41 rfl (lv_at hl 1 rfl) ?_
      refine lv_aload_n hx hb dX11_restore_42 rfl (lv_at hl 0 rfl) ?_
      refine mg_20 C hW dX11_restore_43 ?_
      refine lv_icmp_ge (tgt := 58) hx hb dX11_restore_46 (by decide) (fun h => ?_) (fun h => ?_)
      · replace hq := br_pos h hq
        refine lv_aload_n hx hb dX11_restore_58 rfl (lv_at hl 0 rfl) ?_
        refine mg_6 C hW dX11_restore_59 ?_
        refine lv_iload_n hx hb dX11_restore_62 rfl (lv_at hl 1 rfl) ?_
        obtain ⟨hin1, hq⟩ := hq
        refine ma_6 C hW hin1 dX11_restore_63 ?_
        exact wX11_restore_J64 C hRf hRl hret ih he95 hW hl hq
      · replace hq := br_neg h hq
        refine lv_aload_n hx hb dX11_restore_49 rfl (lv_at hl 0 rfl) ?_
        refine mg_23 C hW dX11_restore_50 ?_
        refine lv_iload_n hx hb dX11_restore_53 rfl (lv_at hl 1 rfl) ?_
        obtain ⟨hin2, hq⟩ := hq
        refine ma_23 C hW hin2 dX11_restore_54 ?_
        refine lv_goto (tgt := 64) hx hb dX11_restore_55 (by decide) ?_
        exact wX11_restore_J64 C hRf hRl hret ih he95 hW hl hq
set_option maxHeartbeats 4000000 in
set_option maxRecDepth 100000 in
theorem wX11_restore (C : CallFix p m c cX11_restore 2 s args lwg RX11) (hRf : 0 ≤ R.frames) (hRl : 0 ≤ R.locals) {P : Int32 → MS → Prop} (hret : RetI g.1 (mw g) (mty g) A p l e R s m args below meth c 0 0 Q cX11_restore P) {σ : MS} {H : Heap} {locs : List Loc} {ls : Array Slot} (hW : WI g.1 (mw g) (mty g) A s σ H locs) (hl : lv_has ls 2 [(0, .ref g.2.1)]) (hq : qX11_restore σ  P) : W p l e R s m args below meth c H locs 0 0 Q (F0 m 0 ls []) := by
  have hx := C.1
  have hb := C.2.1
  unfold qX11_restore at hq
  refine lv_aload_n hx hb dX11_restore_0 rfl (lv_at hl 0 rfl) ?_
  refine mg_19 C hW dX11_restore_1 ?_
  refine lv_if_ne (tgt := 10) hx hb dX11_restore_4 (by decide) (fun h => ?_) (fun h => ?_)
  · replace hq := br_neg h hq
    refine lv_aload_n hx hb dX11_restore_10 rfl (lv_at hl 0 rfl) ?_
    refine lv_aload_n hx hb dX11_restore_11 rfl (lv_at hl 0 rfl) ?_
    refine mg_21 C hW dX11_restore_12 ?_
    refine mp_10 C hW dX11_restore_15 (fun σ_1 H locs eσ_1 hW => ?_)
    replace hq := hq _ eσ_1
    refine lv_aload_n hx hb dX11_restore_18 rfl (lv_at hl 0 rfl) ?_
    refine lv_aload_n hx hb dX11_restore_19 rfl (lv_at hl 0 rfl) ?_
    refine mg_22 C hW dX11_restore_20 ?_
    obtain ⟨hib, hq⟩ := hq
    refine mp_11 C hW hib dX11_restore_23 (fun σ_2 H locs eσ_2 hW => ?_)
    replace hq := hq _ eσ_2
    refine lv_iconst (v := 0) hx hb dX11_restore_26 (by decide) ?_
    refine lv_istore_n (lv' := [(1, .int 0), (0, .ref g.2.1)]) hx hb dX11_restore_27 rfl hl (by decide) rfl (fun ls hl => ?_)
    obtain ⟨f28, hq⟩ := hq
    refine wX11_restore_L28 C hRf hRl hret ?_ f28 _ _ _ _ _ hW (lv_sub hl [1, 0] rfl) hq
    · intro σ_3 H locs ls hW hl hq
      refine lv_iconst (v := 0) hx hb dX11_restore_95 (by decide) ?_
      refine lv_istore_n (lv' := [(1, .int 0), (0, .ref g.2.1)]) hx hb dX11_restore_96 rfl hl (by decide) rfl (fun ls hl => ?_)
      obtain ⟨f97, hq⟩ := hq
      refine wX11_restore_L97 C hRf hRl hret ?_ f97 _ _ _ _ _ hW (lv_sub hl [1, 0] rfl) hq
      · intro σ_4 H locs ls hW hl hq
        refine lv_iconst (v := 0) hx hb dX11_restore_123 (by decide) ?_
        refine lv_istore_n (lv' := [(1, .int 0), (0, .ref g.2.1)]) hx hb dX11_restore_124 rfl hl (by decide) rfl (fun ls hl => ?_)
        obtain ⟨f125, hq⟩ := hq
        exact wX11_restore_L125 C hRf hRl hret f125 _ _ _ _ _ hW (lv_sub hl [1, 0] rfl) hq
  · replace hq := br_pos h hq
    refine lv_bipush (v := (-103)) hx hb dX11_restore_7 (by decide) ?_
    exact hret _ _ _ _ _ _ dX11_restore_9 hW hq
set_option maxHeartbeats 4000000 in
set_option maxRecDepth 100000 in
theorem mX11_restore {l : Launch} {g : MG} {σ : MS} {P : Int32 → MS → Prop} (hq : qX11_restore σ  P) (sz : Nat) : Met l yX11_restore (cws yX11_restore cX11_restore 2 (some .int)) ({ frames := 0, cells := 0, slots := 0, locals := 0 } : Room) (va_Pc [.ref g.2.1] (WP g.1 (mw g) (mty g) σ sz)) (va_Qi P (WB g.1 (mw g) (mty g) σ sz) (va_A (mw g σ) sz)) 0 0 (va_A (mw g σ) sz) :=
  w_enter (by decide) (Nat.le_of_ble_eq_true rfl) (fun p e s m args below meth c ls C hr hk hn hs hW hl => wX11_restore C (Nat.le_refl _) (Nat.le_refl _) (fun pc ls v σ H locs hd hW hq => w_iret C hs hr hk hW hd hq) hW hl hq)
-- X11_soupAll
set_option maxHeartbeats 4000000 in
set_option maxRecDepth 100000 in
theorem wX11_soupAll_L4 (C : CallFix p m c cX11_soupAll 3 s args lwg RX11) (hRf : 0 ≤ R.frames) (hRl : 0 ≤ R.locals) {P : Int32 → MS → Prop} (hret : RetI g.1 (mw g) (mty g) A p l e R s m args below meth c 0 0 Q cX11_soupAll P) : ∀ (n : Nat) (σ : MS) (x1 : Int32) (x2 : Int32) (H : Heap) (locs : List Loc) (ls : Array Slot), WI g.1 (mw g) (mty g) A s σ H locs → lv_has ls 3 [(0, .ref g.2.1), (1, .int x1), (2, .int x2)] → qX11_soupAll_L4  P n σ x1 x2 → W p l e R s m args below meth c H locs 0 0 Q (F0 m 4 ls []) := by
  have hx := C.1
  have hb := C.2.1
  intro n
  induction n with
  | zero =>
    intro σ x1 x2 H locs ls hW hl hq
    rw [qX11_soupAll_L4] at hq
    exact hq.elim
  | succ n ih =>
    intro σ x1 x2 H locs ls hW hl hq
    rw [qX11_soupAll_L4] at hq
    refine lv_iload_n hx hb dX11_soupAll_4 rfl (lv_at hl 2 rfl) ?_
    refine lv_iconst (v := 5) hx hb dX11_soupAll_5 (by decide) ?_
    refine lv_icmp_ge (tgt := 24) hx hb dX11_soupAll_6 (by decide) (fun h => ?_) (fun h => ?_)
    · replace hq := br_pos h hq
      refine lv_iload_n hx hb dX11_soupAll_24 rfl (lv_at hl 1 rfl) ?_
      exact hret _ _ _ _ _ _ dX11_soupAll_25 hW hq
    · replace hq := br_neg h hq
      refine lv_iload_n hx hb dX11_soupAll_9 rfl (lv_at hl 1 rfl) ?_
      refine lv_aload_n hx hb dX11_soupAll_10 rfl (lv_at hl 0 rfl) ?_
      refine mg_9 C hW dX11_soupAll_11 ?_
      refine lv_iload_n hx hb dX11_soupAll_14 rfl (lv_at hl 2 rfl) ?_
      obtain ⟨hin1, hq⟩ := hq
      refine ma_9 C hW hin1 dX11_soupAll_15 ?_
      refine lv_iadd hx hb dX11_soupAll_16 ?_
      refine lv_topi (fun x1_2 ex1_2 => ?_)
      replace hq := hq _ ex1_2
      refine lv_istore_n (lv' := [(1, .int x1_2), (0, .ref g.2.1), (2, .int x2)]) hx hb dX11_soupAll_17 rfl hl (by decide) rfl (fun ls hl => ?_)
      obtain ⟨x2_3, ex2_3⟩ : ∃ y : Int32, y = x2 + 1 := ⟨_, rfl⟩
      replace hq := hq _ ex2_3
      refine lv_iinc (v := x2_3) (lv' := [(2, .int x2_3), (1, .int x1_2), (0, .ref g.2.1)]) hx hb dX11_soupAll_18 hl (k := 2) rfl (by rw [ex2_3]; rfl) (by decide) rfl (fun ls hl => ?_)
      refine lv_goto (tgt := 4) hx hb dX11_soupAll_21 (by decide) ?_
      exact ih _ _ _ _ _ _ hW (lv_sub hl [2, 1, 0] rfl) hq
set_option maxHeartbeats 4000000 in
set_option maxRecDepth 100000 in
theorem wX11_soupAll (C : CallFix p m c cX11_soupAll 3 s args lwg RX11) (hRf : 0 ≤ R.frames) (hRl : 0 ≤ R.locals) {P : Int32 → MS → Prop} (hret : RetI g.1 (mw g) (mty g) A p l e R s m args below meth c 0 0 Q cX11_soupAll P) {σ : MS} {H : Heap} {locs : List Loc} {ls : Array Slot} (hW : WI g.1 (mw g) (mty g) A s σ H locs) (hl : lv_has ls 3 [(0, .ref g.2.1)]) (hq : qX11_soupAll σ  P) : W p l e R s m args below meth c H locs 0 0 Q (F0 m 0 ls []) := by
  have hx := C.1
  have hb := C.2.1
  unfold qX11_soupAll at hq
  refine lv_iconst (v := 0) hx hb dX11_soupAll_0 (by decide) ?_
  refine lv_istore_n (lv' := [(1, .int 0), (0, .ref g.2.1)]) hx hb dX11_soupAll_1 rfl hl (by decide) rfl (fun ls hl => ?_)
  refine lv_iconst (v := 0) hx hb dX11_soupAll_2 (by decide) ?_
  refine lv_istore_n (lv' := [(2, .int 0), (1, .int 0), (0, .ref g.2.1)]) hx hb dX11_soupAll_3 rfl hl (by decide) rfl (fun ls hl => ?_)
  obtain ⟨f4, hq⟩ := hq
  exact wX11_soupAll_L4 C hRf hRl hret f4 _ _ _ _ _ _ hW (lv_sub hl [2, 1, 0] rfl) hq
set_option maxHeartbeats 4000000 in
set_option maxRecDepth 100000 in
theorem mX11_soupAll {l : Launch} {g : MG} {σ : MS} {P : Int32 → MS → Prop} (hq : qX11_soupAll σ  P) (sz : Nat) : Met l yX11_soupAll (cws yX11_soupAll cX11_soupAll 3 (some .int)) ({ frames := 0, cells := 0, slots := 0, locals := 0 } : Room) (va_Pc [.ref g.2.1] (WP g.1 (mw g) (mty g) σ sz)) (va_Qi P (WB g.1 (mw g) (mty g) σ sz) (va_A (mw g σ) sz)) 0 0 (va_A (mw g σ) sz) :=
  w_enter (by decide) (Nat.le_of_ble_eq_true rfl) (fun p e s m args below meth c ls C hr hk hn hs hW hl => wX11_soupAll C (Nat.le_refl _) (Nat.le_refl _) (fun pc ls v σ H locs hd hW hq => w_iret C hs hr hk hW hd hq) hW hl hq)
set_option maxHeartbeats 4000000 in
set_option maxRecDepth 100000 in
theorem kX11_soupAll (C : CallFix p m c cc nL s args lwg RX11) {σ : MS} (hW : WI g.1 (mw g) (mty g) A s σ H locs) (hRf : 1 ≤ R.frames) (hRl : 22 ≤ R.locals) (hls : ls.size = nL) (hro : (rest.map fun v => v.category).sum ≤ 8) (hd : decode cc pc = .ok (.invokevirtual 292, 3)) {P : Int32 → MS → Prop} (hq : qX11_soupAll σ  P) (kk : ∀ (r : Int32) (σ1 : MS) (H : Heap) (locs : List Loc), P r σ1 → WI g.1 (mw g) (mty g) A s σ1 H locs → W p l e R s m args below meth c H locs 0 0 Q (F0 m (pc + 3) ls (.int r :: rest))) : W p l e R s m args below meth c H locs 0 0 Q (F0 m pc ls (.ref g.2.1 :: rest)) :=
  w_calli hW (w_runV C hW (mX11_soupAll hq _) ⟨lwg_at 1334 (by decide +kernel) rfl, lwg_at 74 (by decide +kernel) rfl, lwg_at 1331 (by decide +kernel) rfl⟩ (lwg_at 1333 (by decide +kernel) rfl) (lwg_at 61 (by decide +kernel) rfl) (np := 0) (by decide +kernel) ⟨rfl, rfl⟩ ⟨hRf, hRl⟩ (ci := 12) rfl rfl (q0 := 0) rfl rfl hls rfl hro hd ⟨Nat.zero_le _, Nat.zero_le _⟩) kk
-- X11_starvedMany
set_option maxHeartbeats 4000000 in
set_option maxRecDepth 100000 in
theorem wX11_starvedMany_L4 (C : CallFix p m c cX11_starvedMany 3 s args lwg RX11) (hRf : 0 ≤ R.frames) (hRl : 0 ≤ R.locals) {P : Int32 → MS → Prop} (hret : RetI g.1 (mw g) (mty g) A p l e R s m args below meth c 0 0 Q cX11_starvedMany P) : ∀ (n : Nat) (σ : MS) (x1 : Int32) (x2 : Int32) (H : Heap) (locs : List Loc) (ls : Array Slot), WI g.1 (mw g) (mty g) A s σ H locs → lv_has ls 3 [(0, .ref g.2.1), (1, .int x1), (2, .int x2)] → qX11_starvedMany_L4  P n σ x1 x2 → W p l e R s m args below meth c H locs 0 0 Q (F0 m 4 ls []) := by
  have hx := C.1
  have hb := C.2.1
  intro n
  induction n with
  | zero =>
    intro σ x1 x2 H locs ls hW hl hq
    rw [qX11_starvedMany_L4] at hq
    exact hq.elim
  | succ n ih =>
    intro σ x1 x2 H locs ls hW hl hq
    rw [qX11_starvedMany_L4] at hq
    refine lv_iload_n hx hb dX11_starvedMany_4 rfl (lv_at hl 2 rfl) ?_
    refine lv_aload_n hx hb dX11_starvedMany_5 rfl (lv_at hl 0 rfl) ?_
    refine mg_0 C hW dX11_starvedMany_6 ?_
    refine lv_icmp_ge (tgt := 35) hx hb dX11_starvedMany_9 (by decide) (fun h => ?_) (fun h => ?_)
    · replace hq := br_pos h hq
      refine lv_iload_n hx hb dX11_starvedMany_35 rfl (lv_at hl 1 rfl) ?_
      exact hret _ _ _ _ _ _ dX11_starvedMany_36 hW hq
    · replace hq := br_neg h hq
      refine lv_iload_n hx hb dX11_starvedMany_12 rfl (lv_at hl 1 rfl) ?_
      refine lv_aload_n hx hb dX11_starvedMany_13 rfl (lv_at hl 0 rfl) ?_
      refine mg_6 C hW dX11_starvedMany_14 ?_
      refine lv_iload_n hx hb dX11_starvedMany_17 rfl (lv_at hl 2 rfl) ?_
      obtain ⟨hin1, hq⟩ := hq
      refine ma_6 C hW hin1 dX11_starvedMany_18 ?_
      refine (fun (K : ∀ v_2 : Int32, v_2 = ((if 0 ≤ (mgeta σ 6 x2) then 0 else 1) : Int32) → W p l e R s m args below meth c H locs 0 0 Q (F0 m 27 ls (.int v_2 :: [.int x1]))) => ?_) ?_
      · refine lv_if_ge (tgt := 26) hx hb dX11_starvedMany_19 (by decide) (fun h19 => ?_) (fun h19 => ?_)
        · refine lv_iconst (v := 0) hx hb dX11_starvedMany_26 (by decide) ?_
          exact K _ (by rw [if_pos h19])
        · refine lv_iconst (v := 1) hx hb dX11_starvedMany_22 (by decide) ?_
          refine lv_goto (tgt := 27) hx hb dX11_starvedMany_23 (by decide) ?_
          exact K _ (by rw [if_neg h19])
      intro v_2 ev_2
      replace hq := hq _ ev_2
      refine lv_iadd hx hb dX11_starvedMany_27 ?_
      refine lv_topi (fun x1_3 ex1_3 => ?_)
      replace hq := hq _ ex1_3
      refine lv_istore_n (lv' := [(1, .int x1_3), (0, .ref g.2.1), (2, .int x2)]) hx hb dX11_starvedMany_28 rfl hl (by decide) rfl (fun ls hl => ?_)
      obtain ⟨x2_4, ex2_4⟩ : ∃ y : Int32, y = x2 + 1 := ⟨_, rfl⟩
      replace hq := hq _ ex2_4
      refine lv_iinc (v := x2_4) (lv' := [(2, .int x2_4), (1, .int x1_3), (0, .ref g.2.1)]) hx hb dX11_starvedMany_29 hl (k := 2) rfl (by rw [ex2_4]; rfl) (by decide) rfl (fun ls hl => ?_)
      refine lv_goto (tgt := 4) hx hb dX11_starvedMany_32 (by decide) ?_
      exact ih _ _ _ _ _ _ hW (lv_sub hl [2, 1, 0] rfl) hq
set_option maxHeartbeats 4000000 in
set_option maxRecDepth 100000 in
theorem wX11_starvedMany (C : CallFix p m c cX11_starvedMany 3 s args lwg RX11) (hRf : 0 ≤ R.frames) (hRl : 0 ≤ R.locals) {P : Int32 → MS → Prop} (hret : RetI g.1 (mw g) (mty g) A p l e R s m args below meth c 0 0 Q cX11_starvedMany P) {σ : MS} {H : Heap} {locs : List Loc} {ls : Array Slot} (hW : WI g.1 (mw g) (mty g) A s σ H locs) (hl : lv_has ls 3 [(0, .ref g.2.1)]) (hq : qX11_starvedMany σ  P) : W p l e R s m args below meth c H locs 0 0 Q (F0 m 0 ls []) := by
  have hx := C.1
  have hb := C.2.1
  unfold qX11_starvedMany at hq
  refine lv_iconst (v := 0) hx hb dX11_starvedMany_0 (by decide) ?_
  refine lv_istore_n (lv' := [(1, .int 0), (0, .ref g.2.1)]) hx hb dX11_starvedMany_1 rfl hl (by decide) rfl (fun ls hl => ?_)
  refine lv_iconst (v := 0) hx hb dX11_starvedMany_2 (by decide) ?_
  refine lv_istore_n (lv' := [(2, .int 0), (1, .int 0), (0, .ref g.2.1)]) hx hb dX11_starvedMany_3 rfl hl (by decide) rfl (fun ls hl => ?_)
  obtain ⟨f4, hq⟩ := hq
  exact wX11_starvedMany_L4 C hRf hRl hret f4 _ _ _ _ _ _ hW (lv_sub hl [2, 1, 0] rfl) hq
set_option maxHeartbeats 4000000 in
set_option maxRecDepth 100000 in
theorem mX11_starvedMany {l : Launch} {g : MG} {σ : MS} {P : Int32 → MS → Prop} (hq : qX11_starvedMany σ  P) (sz : Nat) : Met l yX11_starvedMany (cws yX11_starvedMany cX11_starvedMany 3 (some .int)) ({ frames := 0, cells := 0, slots := 0, locals := 0 } : Room) (va_Pc [.ref g.2.1] (WP g.1 (mw g) (mty g) σ sz)) (va_Qi P (WB g.1 (mw g) (mty g) σ sz) (va_A (mw g σ) sz)) 0 0 (va_A (mw g σ) sz) :=
  w_enter (by decide) (Nat.le_of_ble_eq_true rfl) (fun p e s m args below meth c ls C hr hk hn hs hW hl => wX11_starvedMany C (Nat.le_refl _) (Nat.le_refl _) (fun pc ls v σ H locs hd hW hq => w_iret C hs hr hk hW hd hq) hW hl hq)
set_option maxHeartbeats 4000000 in
set_option maxRecDepth 100000 in
theorem kX11_starvedMany (C : CallFix p m c cc nL s args lwg RX11) {σ : MS} (hW : WI g.1 (mw g) (mty g) A s σ H locs) (hRf : 1 ≤ R.frames) (hRl : 22 ≤ R.locals) (hls : ls.size = nL) (hro : (rest.map fun v => v.category).sum ≤ 8) (hd : decode cc pc = .ok (.invokevirtual 295, 3)) {P : Int32 → MS → Prop} (hq : qX11_starvedMany σ  P) (kk : ∀ (r : Int32) (σ1 : MS) (H : Heap) (locs : List Loc), P r σ1 → WI g.1 (mw g) (mty g) A s σ1 H locs → W p l e R s m args below meth c H locs 0 0 Q (F0 m (pc + 3) ls (.int r :: rest))) : W p l e R s m args below meth c H locs 0 0 Q (F0 m pc ls (.ref g.2.1 :: rest)) :=
  w_calli hW (w_runV C hW (mX11_starvedMany hq _) ⟨lwg_at 1338 (by decide +kernel) rfl, lwg_at 74 (by decide +kernel) rfl, lwg_at 1335 (by decide +kernel) rfl⟩ (lwg_at 1337 (by decide +kernel) rfl) (lwg_at 62 (by decide +kernel) rfl) (np := 0) (by decide +kernel) ⟨rfl, rfl⟩ ⟨hRf, hRl⟩ (ci := 12) rfl rfl (q0 := 0) rfl rfl hls rfl hro hd ⟨Nat.zero_le _, Nat.zero_le _⟩) kk
-- X11_howMany
set_option maxHeartbeats 4000000 in
set_option maxRecDepth 100000 in
theorem wX11_howMany (C : CallFix p m c cX11_howMany 2 s args lwg RX11) (hRf : 1 ≤ R.frames) (hRl : 22 ≤ R.locals) {P : Int32 → MS → Prop} (hret : RetI g.1 (mw g) (mty g) A p l e R s m args below meth c 0 0 Q cX11_howMany P) {σ : MS} {x1 : Int32} {H : Heap} {locs : List Loc} {ls : Array Slot} (hW : WI g.1 (mw g) (mty g) A s σ H locs) (hl : lv_has ls 2 [(0, .ref g.2.1), (1, .int x1)]) (hq : qX11_howMany σ x1 P) : W p l e R s m args below meth c H locs 0 0 Q (F0 m 0 ls []) := by
  have hx := C.1
  have hb := C.2.1
  unfold qX11_howMany at hq
  refine lv_iload_n hx hb dX11_howMany_0 rfl (lv_at hl 1 rfl) ?_
  by_cases h1_0 : x1 = 0
  · replace hq := br_pos h1_0 hq
    refine lv_tableIn (off := 43) (tgt := 44) hx hb dX11_howMany_1 (by rw [h1_0]; decide) (by rw [h1_0]; decide) (by rw [h1_0]; decide) (by decide) ?_
    refine lv_aload_n hx hb dX11_howMany_44 rfl (lv_at hl 0 rfl) ?_
    refine mg_0 C hW dX11_howMany_45 ?_
    exact hret _ _ _ _ _ _ dX11_howMany_48 hW hq
  · replace hq := br_neg h1_0 hq
    by_cases h1_1 : x1 = 1
    · replace hq := br_pos h1_1 hq
      refine lv_tableIn (off := 48) (tgt := 49) hx hb dX11_howMany_1 (by rw [h1_1]; decide) (by rw [h1_1]; decide) (by rw [h1_1]; decide) (by decide) ?_
      refine lv_aload_n hx hb dX11_howMany_49 rfl (lv_at hl 0 rfl) ?_
      refine mg_12 C hW dX11_howMany_50 ?_
      exact hret _ _ _ _ _ _ dX11_howMany_53 hW hq
    · replace hq := br_neg h1_1 hq
      by_cases h1_2 : x1 = 2
      · replace hq := br_pos h1_2 hq
        refine lv_tableIn (off := 53) (tgt := 54) hx hb dX11_howMany_1 (by rw [h1_2]; decide) (by rw [h1_2]; decide) (by rw [h1_2]; decide) (by decide) ?_
        refine lv_aload_n hx hb dX11_howMany_54 rfl (lv_at hl 0 rfl) ?_
        refine kX11_soupAll C hW (Nat.le_trans (by decide) hRf) (Nat.le_trans (by decide) hRl) hl.1 (Nat.le_of_ble_eq_true rfl) dX11_howMany_55 hq (fun r_2 σ_1 H locs hq hW => ?_)
        exact hret _ _ _ _ _ _ dX11_howMany_58 hW hq
      · replace hq := br_neg h1_2 hq
        by_cases h1_3 : x1 = 3
        · replace hq := br_pos h1_3 hq
          refine lv_tableIn (off := 58) (tgt := 59) hx hb dX11_howMany_1 (by rw [h1_3]; decide) (by rw [h1_3]; decide) (by rw [h1_3]; decide) (by decide) ?_
          refine lv_aload_n hx hb dX11_howMany_59 rfl (lv_at hl 0 rfl) ?_
          refine mg_10 C hW dX11_howMany_60 ?_
          exact hret _ _ _ _ _ _ dX11_howMany_63 hW hq
        · replace hq := br_neg h1_3 hq
          by_cases h1_4 : x1 = 4
          · replace hq := br_pos h1_4 hq
            refine lv_tableIn (off := 63) (tgt := 64) hx hb dX11_howMany_1 (by rw [h1_4]; decide) (by rw [h1_4]; decide) (by rw [h1_4]; decide) (by decide) ?_
            refine lv_aload_n hx hb dX11_howMany_64 rfl (lv_at hl 0 rfl) ?_
            refine mg_11 C hW dX11_howMany_65 ?_
            refine lv_if_eq (tgt := 75) hx hb dX11_howMany_68 (by decide) (fun h => ?_) (fun h => ?_)
            · replace hq := br_pos h hq
              refine lv_iconst (v := 0) hx hb dX11_howMany_75 (by decide) ?_
              exact hret _ _ _ _ _ _ dX11_howMany_76 hW hq
            · replace hq := br_neg h hq
              refine lv_iconst (v := 1) hx hb dX11_howMany_71 (by decide) ?_
              refine lv_goto (tgt := 76) hx hb dX11_howMany_72 (by decide) ?_
              exact hret _ _ _ _ _ _ dX11_howMany_76 hW hq
          · replace hq := br_neg h1_4 hq
            by_cases h1_5 : x1 = 5
            · replace hq := br_pos h1_5 hq
              refine lv_tableIn (off := 76) (tgt := 77) hx hb dX11_howMany_1 (by rw [h1_5]; decide) (by rw [h1_5]; decide) (by rw [h1_5]; decide) (by decide) ?_
              refine lv_aload_n hx hb dX11_howMany_77 rfl (lv_at hl 0 rfl) ?_
              refine kX11_starvedMany C hW (Nat.le_trans (by decide) hRf) (Nat.le_trans (by decide) hRl) hl.1 (Nat.le_of_ble_eq_true rfl) dX11_howMany_78 hq (fun r_4 σ_3 H locs hq hW => ?_)
              exact hret _ _ _ _ _ _ dX11_howMany_81 hW hq
            · replace hq := br_neg h1_5 hq
              by_cases h1_6 : x1 = 6
              · replace hq := br_pos h1_6 hq
                refine lv_tableIn (off := 81) (tgt := 82) hx hb dX11_howMany_1 (by rw [h1_6]; decide) (by rw [h1_6]; decide) (by rw [h1_6]; decide) (by decide) ?_
                refine lv_aload_n hx hb dX11_howMany_82 rfl (lv_at hl 0 rfl) ?_
                refine mg_17 C hW dX11_howMany_83 ?_
                exact hret _ _ _ _ _ _ dX11_howMany_86 hW hq
              · replace hq := br_neg h1_6 hq
                refine lv_tableOut (tgt := 87) hx hb dX11_howMany_1 (ne_out7 h1_0 h1_1 h1_2 h1_3 h1_4 h1_5 h1_6) (by decide) ?_
                refine lv_bipush (v := (-102)) hx hb dX11_howMany_87 (by decide) ?_
                exact hret _ _ _ _ _ _ dX11_howMany_89 hW hq
set_option maxHeartbeats 4000000 in
set_option maxRecDepth 100000 in
theorem mX11_howMany {l : Launch} {g : MG} {σ : MS} {x1 : Int32} {P : Int32 → MS → Prop} (hq : qX11_howMany σ x1 P) (sz : Nat) : Met l yX11_howMany (cws yX11_howMany cX11_howMany 2 (some .int)) ({ frames := 1, cells := 0, slots := 0, locals := 22 } : Room) (va_Pc [.ref g.2.1, .int x1] (WP g.1 (mw g) (mty g) σ sz)) (va_Qi P (WB g.1 (mw g) (mty g) σ sz) (va_A (mw g σ) sz)) 0 0 (va_A (mw g σ) sz) :=
  w_enter (by decide) (Nat.le_of_ble_eq_true rfl) (fun p e s m args below meth c ls C hr hk hn hs hW hl => wX11_howMany C (Nat.le_refl _) (Nat.le_refl _) (fun pc ls v σ H locs hd hW hq => w_iret C hs hr hk hW hd hq) hW hl hq)
set_option maxHeartbeats 4000000 in
set_option maxRecDepth 100000 in
theorem kX11_howMany (C : CallFix p m c cc nL s args lwg RX11) {σ : MS} (hW : WI g.1 (mw g) (mty g) A s σ H locs) (hRf : 2 ≤ R.frames) (hRl : 43 ≤ R.locals) (hls : ls.size = nL) (hro : (rest.map fun v => v.category).sum ≤ 8) {x1 : Int32} (hd : decode cc pc = .ok (.invokevirtual 298, 3)) {P : Int32 → MS → Prop} (hq : qX11_howMany σ x1 P) (kk : ∀ (r : Int32) (σ1 : MS) (H : Heap) (locs : List Loc), P r σ1 → WI g.1 (mw g) (mty g) A s σ1 H locs → W p l e R s m args below meth c H locs 0 0 Q (F0 m (pc + 3) ls (.int r :: rest))) : W p l e R s m args below meth c H locs 0 0 Q (F0 m pc ls (.int x1 :: .ref g.2.1 :: rest)) :=
  w_calli hW (w_runV C hW (mX11_howMany hq _) ⟨lwg_at 1330 (by decide +kernel) rfl, lwg_at 74 (by decide +kernel) rfl, lwg_at 1327 (by decide +kernel) rfl⟩ (lwg_at 1329 (by decide +kernel) rfl) (lwg_at 60 (by decide +kernel) rfl) (np := 1) (by decide +kernel) ⟨rfl, rfl⟩ ⟨hRf, hRl⟩ (ci := 12) rfl rfl (q0 := 0) rfl rfl hls rfl hro hd ⟨Nat.zero_le _, Nat.zero_le _⟩) kk
-- X11_count
set_option maxHeartbeats 4000000 in
set_option maxRecDepth 100000 in
theorem wX11_count (C : CallFix p m c cX11_count 2 s args lwg RX11) (hRf : 2 ≤ R.frames) (hRl : 43 ≤ R.locals) {P : Int32 → MS → Prop} (hret : RetI g.1 (mw g) (mty g) A p l e R s m args below meth c 0 0 Q cX11_count P) {σ : MS} {x1 : Int32} {H : Heap} {locs : List Loc} {ls : Array Slot} (hW : WI g.1 (mw g) (mty g) A s σ H locs) (hl : lv_has ls 2 [(0, .ref g.2.1), (1, .int x1)]) (hq : qX11_count σ x1 P) : W p l e R s m args below meth c H locs 0 0 Q (F0 m 0 ls []) := by
  have hx := C.1
  have hb := C.2.1
  unfold qX11_count at hq
  refine lv_aload_n hx hb dX11_count_0 rfl (lv_at hl 0 rfl) ?_
  refine lv_iload_n hx hb dX11_count_1 rfl (lv_at hl 1 rfl) ?_
  refine kX11_howMany C hW (Nat.le_trans (by decide) hRf) (Nat.le_trans (by decide) hRl) hl.1 (Nat.le_of_ble_eq_true rfl) dX11_count_2 hq (fun r_2 σ_1 H locs hq hW => ?_)
  exact hret _ _ _ _ _ _ dX11_count_5 hW hq
set_option maxHeartbeats 4000000 in
set_option maxRecDepth 100000 in
theorem mX11_count {l : Launch} {g : MG} {σ : MS} {x1 : Int32} {P : Int32 → MS → Prop} (hq : qX11_count σ x1 P) (sz : Nat) : Met l yX11_count (cws yX11_count cX11_count 2 (some .int)) ({ frames := 2, cells := 0, slots := 0, locals := 43 } : Room) (va_Pc [.ref g.2.1, .int x1] (WP g.1 (mw g) (mty g) σ sz)) (va_Qi P (WB g.1 (mw g) (mty g) σ sz) (va_A (mw g σ) sz)) 0 0 (va_A (mw g σ) sz) :=
  w_enter (by decide) (Nat.le_of_ble_eq_true rfl) (fun p e s m args below meth c ls C hr hk hn hs hW hl => wX11_count C (Nat.le_refl _) (Nat.le_refl _) (fun pc ls v σ H locs hd hW hq => w_iret C hs hr hk hW hd hq) hW hl hq)
-- X11_mix
set_option maxHeartbeats 4000000 in
set_option maxRecDepth 100000 in
theorem wX11_mix (C : CallFix p m c cX11_mix 3 s args lwg RX11) (hRf : 0 ≤ R.frames) (hRl : 0 ≤ R.locals) {P : MS → Prop} (hret : RetV g.1 (mw g) (mty g) A p l e R s m args below meth c 0 0 Q cX11_mix P) {σ : MS} {x1 : Int64} {H : Heap} {locs : List Loc} {ls : Array Slot} (hW : WI g.1 (mw g) (mty g) A s σ H locs) (hl : lv_has ls 3 [(0, .ref g.2.1), (1, .long x1)]) (hq : qX11_mix σ x1 P) : W p l e R s m args below meth c H locs 0 0 Q (F0 m 0 ls []) := by
  have hx := C.1
  have hb := C.2.1
  unfold qX11_mix at hq
  refine lv_aload_n hx hb dX11_mix_0 rfl (lv_at hl 0 rfl) ?_
  refine lv_ldc2 (own := RX11) (v := 31) hx hb C.2.2.2.1 (C.2.2.2.2 _ (lwg_at 1348 (by decide +kernel) rfl)) dX11_mix_1 ?_
  refine lv_aload_n hx hb dX11_mix_4 rfl (lv_at hl 0 rfl) ?_
  refine mg_49 C hW dX11_mix_5 ?_
  refine lv_lmul hx hb dX11_mix_8 ?_
  refine lv_lload_n hx hb dX11_mix_9 rfl (lv_at hl 1 rfl) ?_
  refine lv_ladd hx hb dX11_mix_10 ?_
  refine mp_49 C hW dX11_mix_11 (fun σ_1 H locs eσ_1 hW => ?_)
  replace hq := hq _ eσ_1
  exact hret _ _ _ _ _ dX11_mix_14 hW hq
set_option maxHeartbeats 4000000 in
set_option maxRecDepth 100000 in
theorem mX11_mix {l : Launch} {g : MG} {σ : MS} {x1 : Int64} {P : MS → Prop} (hq : qX11_mix σ x1 P) (sz : Nat) : Met l yX11_mix (cws yX11_mix cX11_mix 3 none) ({ frames := 0, cells := 0, slots := 0, locals := 0 } : Room) (va_Pc [.ref g.2.1, .long x1] (WP g.1 (mw g) (mty g) σ sz)) (va_Qv P (WB g.1 (mw g) (mty g) σ sz) (va_A (mw g σ) sz)) 0 0 (va_A (mw g σ) sz) :=
  w_enter (by decide) (Nat.le_of_ble_eq_true rfl) (fun p e s m args below meth c ls C hr hk hn hs hW hl => wX11_mix C (Nat.le_refl _) (Nat.le_refl _) (fun pc ls σ H locs hd hW hq => w_vret C hs hr hk hW hd hq) hW hl hq)
set_option maxHeartbeats 4000000 in
set_option maxRecDepth 100000 in
theorem kX11_mix (C : CallFix p m c cc nL s args lwg RX11) {σ : MS} (hW : WI g.1 (mw g) (mty g) A s σ H locs) (hRf : 1 ≤ R.frames) (hRl : 22 ≤ R.locals) (hls : ls.size = nL) (hro : (rest.map fun v => v.category).sum ≤ 8) {x1 : Int64} (hd : decode cc pc = .ok (.invokevirtual 307, 3)) {P : MS → Prop} (hq : qX11_mix σ x1 P) (kk : ∀ (σ1 : MS) (H : Heap) (locs : List Loc), P σ1 → WI g.1 (mw g) (mty g) A s σ1 H locs → W p l e R s m args below meth c H locs 0 0 Q (F0 m (pc + 3) ls rest)) : W p l e R s m args below meth c H locs 0 0 Q (F0 m pc ls (.long x1 :: .ref g.2.1 :: rest)) :=
  w_callv hW (w_runV C hW (mX11_mix hq _) ⟨lwg_at 1347 (by decide +kernel) rfl, lwg_at 74 (by decide +kernel) rfl, lwg_at 1344 (by decide +kernel) rfl⟩ (lwg_at 1346 (by decide +kernel) rfl) (lwg_at 63 (by decide +kernel) rfl) (np := 1) (by decide +kernel) ⟨rfl, rfl⟩ ⟨hRf, hRl⟩ (ci := 12) rfl rfl (q0 := 0) rfl rfl hls rfl hro hd ⟨Nat.zero_le _, Nat.zero_le _⟩) kk
-- X11_mixVow
set_option maxHeartbeats 4000000 in
set_option maxRecDepth 100000 in
theorem wX11_mixVow_L40 (C : CallFix p m c cX11_mixVow 3 s args lwg RX11) (hRf : 6 ≤ R.frames) (hRl : 132 ≤ R.locals) {P : MS → Prop} (hret : RetV g.1 (mw g) (mty g) A p l e R s m args below meth c 0 0 Q cX11_mixVow P) {e62 : MS → Prop} (he62 : ∀ (σ : MS) (H : Heap) (locs : List Loc) (ls : Array Slot), WI g.1 (mw g) (mty g) A s σ H locs → lv_has ls 3 [(0, .ref g.2.1)] → e62 σ → W p l e R s m args below meth c H locs 0 0 Q (F0 m 62 ls [])) : ∀ (n : Nat) (σ : MS) (x2 : Int32) (H : Heap) (locs : List Loc) (ls : Array Slot), WI g.1 (mw g) (mty g) A s σ H locs → lv_has ls 3 [(0, .ref g.2.1), (2, .int x2)] → qX11_mixVow_L40 e62 P n σ x2 → W p l e R s m args below meth c H locs 0 0 Q (F0 m 40 ls []) := by
  have hx := C.1
  have hb := C.2.1
  intro n
  induction n with
  | zero =>
    intro σ x2 H locs ls hW hl hq
    rw [qX11_mixVow_L40] at hq
    exact hq.elim
  | succ n ih =>
    intro σ x2 H locs ls hW hl hq
    rw [qX11_mixVow_L40] at hq
    refine lv_iload_n hx hb dX11_mixVow_40 rfl (lv_at hl 1 rfl) ?_
    refine lv_bipush (v := 6) hx hb dX11_mixVow_41 (by decide) ?_
    refine lv_icmp_ge (tgt := 62) hx hb dX11_mixVow_43 (by decide) (fun h => ?_) (fun h => ?_)
    · replace hq := br_pos h hq
      exact he62 _ _ _ _ hW (lv_sub hl [0] rfl) hq
    · replace hq := br_neg h hq
      refine lv_aload_n hx hb dX11_mixVow_46 rfl (lv_at hl 0 rfl) ?_
      refine lv_aload_n hx hb dX11_mixVow_47 rfl (lv_at hl 0 rfl) ?_
      refine lv_iload_n hx hb dX11_mixVow_48 rfl (lv_at hl 1 rfl) ?_
      refine kX11_dayNow C hW (Nat.le_trans (by decide) hRf) (Nat.le_trans (by decide) hRl) hl.1 (Nat.le_of_ble_eq_true rfl) dX11_mixVow_49 hq (fun r_2 σ_1 H locs hq hW => ?_)
      refine lv_i2l hx hb dX11_mixVow_52 rfl ?_
      refine kX11_mix C hW (Nat.le_trans (by decide) hRf) (Nat.le_trans (by decide) hRl) hl.1 (Nat.le_of_ble_eq_true rfl) dX11_mixVow_53 hq (fun σ_3 H locs hq hW => ?_)
      obtain ⟨x2_4, ex2_4⟩ : ∃ y : Int32, y = x2 + 1 := ⟨_, rfl⟩
      replace hq := hq _ ex2_4
      refine lv_iinc (v := x2_4) (lv' := [(2, .int x2_4), (0, .ref g.2.1)]) hx hb dX11_mixVow_56 hl (k := 1) rfl (by rw [ex2_4]; rfl) (by decide) rfl (fun ls hl => ?_)
      refine lv_goto (tgt := 40) hx hb dX11_mixVow_59 (by decide) ?_
      exact ih _ _ _ _ _ hW (lv_sub hl [1, 0] rfl) hq
set_option maxHeartbeats 4000000 in
set_option maxRecDepth 100000 in
theorem wX11_mixVow_L2 (C : CallFix p m c cX11_mixVow 3 s args lwg RX11) (hRf : 6 ≤ R.frames) (hRl : 132 ≤ R.locals) {P : MS → Prop} (hret : RetV g.1 (mw g) (mty g) A p l e R s m args below meth c 0 0 Q cX11_mixVow P) {e24 : MS → Int32 → Prop} (he24 : ∀ (σ : MS) (x1 : Int32) (H : Heap) (locs : List Loc) (ls : Array Slot), WI g.1 (mw g) (mty g) A s σ H locs → lv_has ls 3 [(0, .ref g.2.1), (1, .int x1)] → e24 σ x1 → W p l e R s m args below meth c H locs 0 0 Q (F0 m 24 ls [])) : ∀ (n : Nat) (σ : MS) (x1 : Int32) (x2 : Int32) (H : Heap) (locs : List Loc) (ls : Array Slot), WI g.1 (mw g) (mty g) A s σ H locs → lv_has ls 3 [(0, .ref g.2.1), (1, .int x1), (2, .int x2)] → qX11_mixVow_L2 e24 P n σ x1 x2 → W p l e R s m args below meth c H locs 0 0 Q (F0 m 2 ls []) := by
  have hx := C.1
  have hb := C.2.1
  intro n
  induction n with
  | zero =>
    intro σ x1 x2 H locs ls hW hl hq
    rw [qX11_mixVow_L2] at hq
    exact hq.elim
  | succ n ih =>
    intro σ x1 x2 H locs ls hW hl hq
    rw [qX11_mixVow_L2] at hq
    refine lv_iload_n hx hb dX11_mixVow_2 rfl (lv_at hl 2 rfl) ?_
    refine lv_iconst (v := 4) hx hb dX11_mixVow_3 (by decide) ?_
    refine lv_icmp_ge (tgt := 24) hx hb dX11_mixVow_4 (by decide) (fun h => ?_) (fun h => ?_)
    · replace hq := br_pos h hq
      exact he24 _ _ _ _ _ hW (lv_sub hl [0, 1] rfl) hq
    · replace hq := br_neg h hq
      refine lv_aload_n hx hb dX11_mixVow_7 rfl (lv_at hl 0 rfl) ?_
      refine lv_aload_n hx hb dX11_mixVow_8 rfl (lv_at hl 0 rfl) ?_
      refine lv_iload_n hx hb dX11_mixVow_9 rfl (lv_at hl 1 rfl) ?_
      refine lv_iload_n hx hb dX11_mixVow_10 rfl (lv_at hl 2 rfl) ?_
      refine kX11_vowNow C hW (Nat.le_trans (by decide) hRf) (Nat.le_trans (by decide) hRl) hl.1 (Nat.le_of_ble_eq_true rfl) dX11_mixVow_11 hq (fun r_2 σ_1 H locs hq hW => ?_)
      refine lv_i2l hx hb dX11_mixVow_14 rfl ?_
      refine kX11_mix C hW (Nat.le_trans (by decide) hRf) (Nat.le_trans (by decide) hRl) hl.1 (Nat.le_of_ble_eq_true rfl) dX11_mixVow_15 hq (fun σ_3 H locs hq hW => ?_)
      obtain ⟨x2_4, ex2_4⟩ : ∃ y : Int32, y = x2 + 1 := ⟨_, rfl⟩
      replace hq := hq _ ex2_4
      refine lv_iinc (v := x2_4) (lv' := [(2, .int x2_4), (0, .ref g.2.1), (1, .int x1)]) hx hb dX11_mixVow_18 hl (k := 2) rfl (by rw [ex2_4]; rfl) (by decide) rfl (fun ls hl => ?_)
      refine lv_goto (tgt := 2) hx hb dX11_mixVow_21 (by decide) ?_
      exact ih _ _ _ _ _ _ hW (lv_sub hl [1, 2, 0] rfl) hq
set_option maxHeartbeats 4000000 in
set_option maxRecDepth 100000 in
theorem wX11_mixVow (C : CallFix p m c cX11_mixVow 3 s args lwg RX11) (hRf : 6 ≤ R.frames) (hRl : 132 ≤ R.locals) {P : MS → Prop} (hret : RetV g.1 (mw g) (mty g) A p l e R s m args below meth c 0 0 Q cX11_mixVow P) {σ : MS} {x1 : Int32} {H : Heap} {locs : List Loc} {ls : Array Slot} (hW : WI g.1 (mw g) (mty g) A s σ H locs) (hl : lv_has ls 3 [(0, .ref g.2.1), (1, .int x1)]) (hq : qX11_mixVow σ x1 P) : W p l e R s m args below meth c H locs 0 0 Q (F0 m 0 ls []) := by
  have hx := C.1
  have hb := C.2.1
  unfold qX11_mixVow at hq
  refine lv_iconst (v := 0) hx hb dX11_mixVow_0 (by decide) ?_
  refine lv_istore_n (lv' := [(2, .int 0), (0, .ref g.2.1), (1, .int x1)]) hx hb dX11_mixVow_1 rfl hl (by decide) rfl (fun ls hl => ?_)
  obtain ⟨f2, hq⟩ := hq
  refine wX11_mixVow_L2 C hRf hRl hret ?_ f2 _ _ _ _ _ _ hW (lv_sub hl [1, 2, 0] rfl) hq
  · intro σ_2 x1_1 H locs ls hW hl hq
    refine lv_aload_n hx hb dX11_mixVow_24 rfl (lv_at hl 0 rfl) ?_
    refine mg_0 C hW dX11_mixVow_25 ?_
    refine lv_if_le (tgt := 71) hx hb dX11_mixVow_28 (by decide) (fun h => ?_) (fun h => ?_)
    · replace hq := br_pos h hq
      exact hret _ _ _ _ _ dX11_mixVow_71 hW hq
    · replace hq := br_neg h hq
      refine lv_aload_n hx hb dX11_mixVow_31 rfl (lv_at hl 0 rfl) ?_
      refine lv_iload_n hx hb dX11_mixVow_32 rfl (lv_at hl 1 rfl) ?_
      refine lv_iconst (v := 0) hx hb dX11_mixVow_33 (by decide) ?_
      refine lv_iconst (v := 0) hx hb dX11_mixVow_34 (by decide) ?_
      refine kX11_layDay C hW (Nat.le_trans (by decide) hRf) (Nat.le_trans (by decide) hRl) hl.1 (Nat.le_of_ble_eq_true rfl) dX11_mixVow_35 hq (fun σ_3 H locs hq hW => ?_)
      refine lv_iconst (v := 0) hx hb dX11_mixVow_38 (by decide) ?_
      refine lv_istore_n (lv' := [(2, .int 0), (0, .ref g.2.1), (1, .int x1_1)]) hx hb dX11_mixVow_39 rfl hl (by decide) rfl (fun ls hl => ?_)
      obtain ⟨f40, hq⟩ := hq
      refine wX11_mixVow_L40 C hRf hRl hret ?_ f40 _ _ _ _ _ hW (lv_sub hl [1, 0] rfl) hq
      · intro σ_4 H locs ls hW hl hq
        refine lv_aload_n hx hb dX11_mixVow_62 rfl (lv_at hl 0 rfl) ?_
        refine lv_aload_n hx hb dX11_mixVow_63 rfl (lv_at hl 0 rfl) ?_
        refine kX11_leastNow C hW (Nat.le_trans (by decide) hRf) (Nat.le_trans (by decide) hRl) hl.1 (Nat.le_of_ble_eq_true rfl) dX11_mixVow_64 hq (fun r_6 σ_5 H locs hq hW => ?_)
        refine lv_i2l hx hb dX11_mixVow_67 rfl ?_
        refine kX11_mix C hW (Nat.le_trans (by decide) hRf) (Nat.le_trans (by decide) hRl) hl.1 (Nat.le_of_ble_eq_true rfl) dX11_mixVow_68 hq (fun σ_7 H locs hq hW => ?_)
        exact hret _ _ _ _ _ dX11_mixVow_71 hW hq
set_option maxHeartbeats 4000000 in
set_option maxRecDepth 100000 in
theorem mX11_mixVow {l : Launch} {g : MG} {σ : MS} {x1 : Int32} {P : MS → Prop} (hq : qX11_mixVow σ x1 P) (sz : Nat) : Met l yX11_mixVow (cws yX11_mixVow cX11_mixVow 3 none) ({ frames := 6, cells := 0, slots := 0, locals := 132 } : Room) (va_Pc [.ref g.2.1, .int x1] (WP g.1 (mw g) (mty g) σ sz)) (va_Qv P (WB g.1 (mw g) (mty g) σ sz) (va_A (mw g σ) sz)) 0 0 (va_A (mw g σ) sz) :=
  w_enter (by decide) (Nat.le_of_ble_eq_true rfl) (fun p e s m args below meth c ls C hr hk hn hs hW hl => wX11_mixVow C (Nat.le_refl _) (Nat.le_refl _) (fun pc ls σ H locs hd hW hq => w_vret C hs hr hk hW hd hq) hW hl hq)
set_option maxHeartbeats 4000000 in
set_option maxRecDepth 100000 in
theorem kX11_mixVow (C : CallFix p m c cc nL s args lwg RX11) {σ : MS} (hW : WI g.1 (mw g) (mty g) A s σ H locs) (hRf : 7 ≤ R.frames) (hRl : 154 ≤ R.locals) (hls : ls.size = nL) (hro : (rest.map fun v => v.category).sum ≤ 8) {x1 : Int32} (hd : decode cc pc = .ok (.invokevirtual 313, 3)) {P : MS → Prop} (hq : qX11_mixVow σ x1 P) (kk : ∀ (σ1 : MS) (H : Heap) (locs : List Loc), P σ1 → WI g.1 (mw g) (mty g) A s σ1 H locs → W p l e R s m args below meth c H locs 0 0 Q (F0 m (pc + 3) ls rest)) : W p l e R s m args below meth c H locs 0 0 Q (F0 m pc ls (.int x1 :: .ref g.2.1 :: rest)) :=
  w_callv hW (w_runV C hW (mX11_mixVow hq _) ⟨lwg_at 1352 (by decide +kernel) rfl, lwg_at 74 (by decide +kernel) rfl, lwg_at 1349 (by decide +kernel) rfl⟩ (lwg_at 1351 (by decide +kernel) rfl) (lwg_at 64 (by decide +kernel) rfl) (np := 1) (by decide +kernel) ⟨rfl, rfl⟩ ⟨hRf, hRl⟩ (ci := 12) rfl rfl (q0 := 0) rfl rfl hls rfl hro hd ⟨Nat.zero_le _, Nat.zero_le _⟩) kk
-- X11_digest
set_option maxHeartbeats 4000000 in
set_option maxRecDepth 100000 in
theorem wX11_digest_L122 (C : CallFix p m c cX11_digest 3 s args lwg RX11) (hRf : 7 ≤ R.frames) (hRl : 154 ≤ R.locals) {P : Int64 → MS → Prop} (hret : RetL g.1 (mw g) (mty g) A p l e R s m args below meth c 0 0 Q cX11_digest P) : ∀ (n : Nat) (σ : MS) (x1 : Int32) (H : Heap) (locs : List Loc) (ls : Array Slot), WI g.1 (mw g) (mty g) A s σ H locs → lv_has ls 3 [(0, .ref g.2.1), (1, .int x1)] → qX11_digest_L122  P n σ x1 → W p l e R s m args below meth c H locs 0 0 Q (F0 m 122 ls []) := by
  have hx := C.1
  have hb := C.2.1
  intro n
  induction n with
  | zero =>
    intro σ x1 H locs ls hW hl hq
    rw [qX11_digest_L122] at hq
    exact hq.elim
  | succ n ih =>
    intro σ x1 H locs ls hW hl hq
    rw [qX11_digest_L122] at hq
    refine lv_iload_n hx hb dX11_digest_122 rfl (lv_at hl 1 rfl) ?_
    refine lv_bipush (v := 7) hx hb dX11_digest_123 (by decide) ?_
    refine lv_icmp_ge (tgt := 144) hx hb dX11_digest_125 (by decide) (fun h => ?_) (fun h => ?_)
    · replace hq := br_pos h hq
      refine lv_aload_n hx hb dX11_digest_144 rfl (lv_at hl 0 rfl) ?_
      refine mg_49 C hW dX11_digest_145 ?_
      exact hret _ _ _ _ _ _ dX11_digest_148 hW hq
    · replace hq := br_neg h hq
      refine lv_aload_n hx hb dX11_digest_128 rfl (lv_at hl 0 rfl) ?_
      refine lv_aload_n hx hb dX11_digest_129 rfl (lv_at hl 0 rfl) ?_
      refine lv_iload_n hx hb dX11_digest_130 rfl (lv_at hl 1 rfl) ?_
      refine kX11_howMany C hW (Nat.le_trans (by decide) hRf) (Nat.le_trans (by decide) hRl) hl.1 (Nat.le_of_ble_eq_true rfl) dX11_digest_131 hq (fun r_2 σ_1 H locs hq hW => ?_)
      refine lv_i2l hx hb dX11_digest_134 rfl ?_
      refine kX11_mix C hW (Nat.le_trans (by decide) hRf) (Nat.le_trans (by decide) hRl) hl.1 (Nat.le_of_ble_eq_true rfl) dX11_digest_135 hq (fun σ_3 H locs hq hW => ?_)
      obtain ⟨x1_4, ex1_4⟩ : ∃ y : Int32, y = x1 + 1 := ⟨_, rfl⟩
      replace hq := hq _ ex1_4
      refine lv_iinc (v := x1_4) (lv' := [(1, .int x1_4), (0, .ref g.2.1)]) hx hb dX11_digest_138 hl (k := 1) rfl (by rw [ex1_4]; rfl) (by decide) rfl (fun ls hl => ?_)
      refine lv_goto (tgt := 122) hx hb dX11_digest_141 (by decide) ?_
      exact ih _ _ _ _ _ hW (lv_sub hl [1, 0] rfl) hq
set_option maxHeartbeats 4000000 in
set_option maxRecDepth 100000 in
theorem wX11_digest_L95 (C : CallFix p m c cX11_digest 3 s args lwg RX11) (hRf : 7 ≤ R.frames) (hRl : 154 ≤ R.locals) {P : Int64 → MS → Prop} (hret : RetL g.1 (mw g) (mty g) A p l e R s m args below meth c 0 0 Q cX11_digest P) {e120 : MS → Prop} (he120 : ∀ (σ : MS) (H : Heap) (locs : List Loc) (ls : Array Slot), WI g.1 (mw g) (mty g) A s σ H locs → lv_has ls 3 [(0, .ref g.2.1)] → e120 σ → W p l e R s m args below meth c H locs 0 0 Q (F0 m 120 ls [])) : ∀ (n : Nat) (σ : MS) (x1 : Int32) (H : Heap) (locs : List Loc) (ls : Array Slot), WI g.1 (mw g) (mty g) A s σ H locs → lv_has ls 3 [(0, .ref g.2.1), (1, .int x1)] → qX11_digest_L95 e120 P n σ x1 → W p l e R s m args below meth c H locs 0 0 Q (F0 m 95 ls []) := by
  have hx := C.1
  have hb := C.2.1
  intro n
  induction n with
  | zero =>
    intro σ x1 H locs ls hW hl hq
    rw [qX11_digest_L95] at hq
    exact hq.elim
  | succ n ih =>
    intro σ x1 H locs ls hW hl hq
    rw [qX11_digest_L95] at hq
    refine lv_iload_n hx hb dX11_digest_95 rfl (lv_at hl 1 rfl) ?_
    refine lv_aload_n hx hb dX11_digest_96 rfl (lv_at hl 0 rfl) ?_
    refine mg_17 C hW dX11_digest_97 ?_
    refine lv_icmp_ge (tgt := 120) hx hb dX11_digest_100 (by decide) (fun h => ?_) (fun h => ?_)
    · replace hq := br_pos h hq
      exact he120 _ _ _ _ hW (lv_sub hl [0] rfl) hq
    · replace hq := br_neg h hq
      refine lv_aload_n hx hb dX11_digest_103 rfl (lv_at hl 0 rfl) ?_
      refine lv_aload_n hx hb dX11_digest_104 rfl (lv_at hl 0 rfl) ?_
      refine mg_18 C hW dX11_digest_105 ?_
      refine lv_iload_n hx hb dX11_digest_108 rfl (lv_at hl 1 rfl) ?_
      obtain ⟨hin1, hq⟩ := hq
      refine ma_18 C hW hin1 dX11_digest_109 ?_
      refine lv_i2l hx hb dX11_digest_110 rfl ?_
      refine kX11_mix C hW (Nat.le_trans (by decide) hRf) (Nat.le_trans (by decide) hRl) hl.1 (Nat.le_of_ble_eq_true rfl) dX11_digest_111 hq (fun σ_2 H locs hq hW => ?_)
      obtain ⟨x1_3, ex1_3⟩ : ∃ y : Int32, y = x1 + 1 := ⟨_, rfl⟩
      replace hq := hq _ ex1_3
      refine lv_iinc (v := x1_3) (lv' := [(1, .int x1_3), (0, .ref g.2.1)]) hx hb dX11_digest_114 hl (k := 1) rfl (by rw [ex1_3]; rfl) (by decide) rfl (fun ls hl => ?_)
      refine lv_goto (tgt := 95) hx hb dX11_digest_117 (by decide) ?_
      exact ih _ _ _ _ _ hW (lv_sub hl [1, 0] rfl) hq
set_option maxHeartbeats 4000000 in
set_option maxRecDepth 100000 in
theorem wX11_digest_L74 (C : CallFix p m c cX11_digest 3 s args lwg RX11) (hRf : 7 ≤ R.frames) (hRl : 154 ≤ R.locals) {P : Int64 → MS → Prop} (hret : RetL g.1 (mw g) (mty g) A p l e R s m args below meth c 0 0 Q cX11_digest P) {e93 : MS → Prop} (he93 : ∀ (σ : MS) (H : Heap) (locs : List Loc) (ls : Array Slot), WI g.1 (mw g) (mty g) A s σ H locs → lv_has ls 3 [(0, .ref g.2.1)] → e93 σ → W p l e R s m args below meth c H locs 0 0 Q (F0 m 93 ls [])) : ∀ (n : Nat) (σ : MS) (x1 : Int32) (H : Heap) (locs : List Loc) (ls : Array Slot), WI g.1 (mw g) (mty g) A s σ H locs → lv_has ls 3 [(0, .ref g.2.1), (1, .int x1)] → qX11_digest_L74 e93 P n σ x1 → W p l e R s m args below meth c H locs 0 0 Q (F0 m 74 ls []) := by
  have hx := C.1
  have hb := C.2.1
  intro n
  induction n with
  | zero =>
    intro σ x1 H locs ls hW hl hq
    rw [qX11_digest_L74] at hq
    exact hq.elim
  | succ n ih =>
    intro σ x1 H locs ls hW hl hq
    rw [qX11_digest_L74] at hq
    refine lv_iload_n hx hb dX11_digest_74 rfl (lv_at hl 1 rfl) ?_
    refine lv_aload_n hx hb dX11_digest_75 rfl (lv_at hl 0 rfl) ?_
    refine mg_12 C hW dX11_digest_76 ?_
    refine lv_icmp_ge (tgt := 93) hx hb dX11_digest_79 (by decide) (fun h => ?_) (fun h => ?_)
    · replace hq := br_pos h hq
      exact he93 _ _ _ _ hW (lv_sub hl [0] rfl) hq
    · replace hq := br_neg h hq
      refine lv_aload_n hx hb dX11_digest_82 rfl (lv_at hl 0 rfl) ?_
      refine lv_iload_n hx hb dX11_digest_83 rfl (lv_at hl 1 rfl) ?_
      refine kX11_mixVow C hW (Nat.le_trans (by decide) hRf) (Nat.le_trans (by decide) hRl) hl.1 (Nat.le_of_ble_eq_true rfl) dX11_digest_84 hq (fun σ_1 H locs hq hW => ?_)
      obtain ⟨x1_2, ex1_2⟩ : ∃ y : Int32, y = x1 + 1 := ⟨_, rfl⟩
      replace hq := hq _ ex1_2
      refine lv_iinc (v := x1_2) (lv' := [(1, .int x1_2), (0, .ref g.2.1)]) hx hb dX11_digest_87 hl (k := 1) rfl (by rw [ex1_2]; rfl) (by decide) rfl (fun ls hl => ?_)
      refine lv_goto (tgt := 74) hx hb dX11_digest_90 (by decide) ?_
      exact ih _ _ _ _ _ hW (lv_sub hl [1, 0] rfl) hq
set_option maxHeartbeats 4000000 in
set_option maxRecDepth 100000 in
theorem wX11_digest_L50 (C : CallFix p m c cX11_digest 3 s args lwg RX11) (hRf : 7 ≤ R.frames) (hRl : 154 ≤ R.locals) {P : Int64 → MS → Prop} (hret : RetL g.1 (mw g) (mty g) A p l e R s m args below meth c 0 0 Q cX11_digest P) {e72 : MS → Prop} (he72 : ∀ (σ : MS) (H : Heap) (locs : List Loc) (ls : Array Slot), WI g.1 (mw g) (mty g) A s σ H locs → lv_has ls 3 [(0, .ref g.2.1)] → e72 σ → W p l e R s m args below meth c H locs 0 0 Q (F0 m 72 ls [])) : ∀ (n : Nat) (σ : MS) (x1 : Int32) (H : Heap) (locs : List Loc) (ls : Array Slot), WI g.1 (mw g) (mty g) A s σ H locs → lv_has ls 3 [(0, .ref g.2.1), (1, .int x1)] → qX11_digest_L50 e72 P n σ x1 → W p l e R s m args below meth c H locs 0 0 Q (F0 m 50 ls []) := by
  have hx := C.1
  have hb := C.2.1
  intro n
  induction n with
  | zero =>
    intro σ x1 H locs ls hW hl hq
    rw [qX11_digest_L50] at hq
    exact hq.elim
  | succ n ih =>
    intro σ x1 H locs ls hW hl hq
    rw [qX11_digest_L50] at hq
    refine lv_iload_n hx hb dX11_digest_50 rfl (lv_at hl 1 rfl) ?_
    refine lv_iconst (v := 5) hx hb dX11_digest_51 (by decide) ?_
    refine lv_icmp_ge (tgt := 72) hx hb dX11_digest_52 (by decide) (fun h => ?_) (fun h => ?_)
    · replace hq := br_pos h hq
      exact he72 _ _ _ _ hW (lv_sub hl [0] rfl) hq
    · replace hq := br_neg h hq
      refine lv_aload_n hx hb dX11_digest_55 rfl (lv_at hl 0 rfl) ?_
      refine lv_aload_n hx hb dX11_digest_56 rfl (lv_at hl 0 rfl) ?_
      refine mg_9 C hW dX11_digest_57 ?_
      refine lv_iload_n hx hb dX11_digest_60 rfl (lv_at hl 1 rfl) ?_
      obtain ⟨hin1, hq⟩ := hq
      refine ma_9 C hW hin1 dX11_digest_61 ?_
      refine lv_i2l hx hb dX11_digest_62 rfl ?_
      refine kX11_mix C hW (Nat.le_trans (by decide) hRf) (Nat.le_trans (by decide) hRl) hl.1 (Nat.le_of_ble_eq_true rfl) dX11_digest_63 hq (fun σ_2 H locs hq hW => ?_)
      obtain ⟨x1_3, ex1_3⟩ : ∃ y : Int32, y = x1 + 1 := ⟨_, rfl⟩
      replace hq := hq _ ex1_3
      refine lv_iinc (v := x1_3) (lv' := [(1, .int x1_3), (0, .ref g.2.1)]) hx hb dX11_digest_66 hl (k := 1) rfl (by rw [ex1_3]; rfl) (by decide) rfl (fun ls hl => ?_)
      refine lv_goto (tgt := 50) hx hb dX11_digest_69 (by decide) ?_
      exact ih _ _ _ _ _ hW (lv_sub hl [1, 0] rfl) hq
set_option maxHeartbeats 4000000 in
set_option maxRecDepth 100000 in
theorem wX11_digest_L19 (C : CallFix p m c cX11_digest 3 s args lwg RX11) (hRf : 7 ≤ R.frames) (hRl : 154 ≤ R.locals) {P : Int64 → MS → Prop} (hret : RetL g.1 (mw g) (mty g) A p l e R s m args below meth c 0 0 Q cX11_digest P) {e42 : MS → Int32 → Prop} (he42 : ∀ (σ : MS) (x1 : Int32) (H : Heap) (locs : List Loc) (ls : Array Slot), WI g.1 (mw g) (mty g) A s σ H locs → lv_has ls 3 [(0, .ref g.2.1), (1, .int x1)] → e42 σ x1 → W p l e R s m args below meth c H locs 0 0 Q (F0 m 42 ls [])) : ∀ (n : Nat) (σ : MS) (x1 : Int32) (x2 : Int32) (H : Heap) (locs : List Loc) (ls : Array Slot), WI g.1 (mw g) (mty g) A s σ H locs → lv_has ls 3 [(0, .ref g.2.1), (1, .int x1), (2, .int x2)] → qX11_digest_L19 e42 P n σ x1 x2 → W p l e R s m args below meth c H locs 0 0 Q (F0 m 19 ls []) := by
  have hx := C.1
  have hb := C.2.1
  intro n
  induction n with
  | zero =>
    intro σ x1 x2 H locs ls hW hl hq
    rw [qX11_digest_L19] at hq
    exact hq.elim
  | succ n ih =>
    intro σ x1 x2 H locs ls hW hl hq
    rw [qX11_digest_L19] at hq
    refine lv_iload_n hx hb dX11_digest_19 rfl (lv_at hl 2 rfl) ?_
    refine lv_bipush (v := 7) hx hb dX11_digest_20 (by decide) ?_
    refine lv_icmp_ge (tgt := 42) hx hb dX11_digest_22 (by decide) (fun h => ?_) (fun h => ?_)
    · replace hq := br_pos h hq
      exact he42 _ _ _ _ _ hW (lv_sub hl [0, 1] rfl) hq
    · replace hq := br_neg h hq
      refine lv_aload_n hx hb dX11_digest_25 rfl (lv_at hl 0 rfl) ?_
      refine lv_aload_n hx hb dX11_digest_26 rfl (lv_at hl 0 rfl) ?_
      refine lv_iload_n hx hb dX11_digest_27 rfl (lv_at hl 1 rfl) ?_
      refine lv_iload_n hx hb dX11_digest_28 rfl (lv_at hl 2 rfl) ?_
      refine kX11_hermitNow C hW (Nat.le_trans (by decide) hRf) (Nat.le_trans (by decide) hRl) hl.1 (Nat.le_of_ble_eq_true rfl) dX11_digest_29 hq (fun r_2 σ_1 H locs hq hW => ?_)
      refine lv_i2l hx hb dX11_digest_32 rfl ?_
      refine kX11_mix C hW (Nat.le_trans (by decide) hRf) (Nat.le_trans (by decide) hRl) hl.1 (Nat.le_of_ble_eq_true rfl) dX11_digest_33 hq (fun σ_3 H locs hq hW => ?_)
      obtain ⟨x2_4, ex2_4⟩ : ∃ y : Int32, y = x2 + 1 := ⟨_, rfl⟩
      replace hq := hq _ ex2_4
      refine lv_iinc (v := x2_4) (lv' := [(2, .int x2_4), (0, .ref g.2.1), (1, .int x1)]) hx hb dX11_digest_36 hl (k := 2) rfl (by rw [ex2_4]; rfl) (by decide) rfl (fun ls hl => ?_)
      refine lv_goto (tgt := 19) hx hb dX11_digest_39 (by decide) ?_
      exact ih _ _ _ _ _ _ hW (lv_sub hl [1, 2, 0] rfl) hq
set_option maxHeartbeats 4000000 in
set_option maxRecDepth 100000 in
theorem wX11_digest_L9 (C : CallFix p m c cX11_digest 3 s args lwg RX11) (hRf : 7 ≤ R.frames) (hRl : 154 ≤ R.locals) {P : Int64 → MS → Prop} (hret : RetL g.1 (mw g) (mty g) A p l e R s m args below meth c 0 0 Q cX11_digest P) {e48 : MS → Prop} (he48 : ∀ (σ : MS) (H : Heap) (locs : List Loc) (ls : Array Slot), WI g.1 (mw g) (mty g) A s σ H locs → lv_has ls 3 [(0, .ref g.2.1)] → e48 σ → W p l e R s m args below meth c H locs 0 0 Q (F0 m 48 ls [])) : ∀ (n : Nat) (σ : MS) (x1 : Int32) (H : Heap) (locs : List Loc) (ls : Array Slot), WI g.1 (mw g) (mty g) A s σ H locs → lv_has ls 3 [(0, .ref g.2.1), (1, .int x1)] → qX11_digest_L9 e48 P n σ x1 → W p l e R s m args below meth c H locs 0 0 Q (F0 m 9 ls []) := by
  have hx := C.1
  have hb := C.2.1
  intro n
  induction n with
  | zero =>
    intro σ x1 H locs ls hW hl hq
    rw [qX11_digest_L9] at hq
    exact hq.elim
  | succ n ih =>
    intro σ x1 H locs ls hW hl hq
    rw [qX11_digest_L9] at hq
    refine lv_iload_n hx hb dX11_digest_9 rfl (lv_at hl 1 rfl) ?_
    refine lv_aload_n hx hb dX11_digest_10 rfl (lv_at hl 0 rfl) ?_
    refine mg_0 C hW dX11_digest_11 ?_
    refine lv_icmp_ge (tgt := 48) hx hb dX11_digest_14 (by decide) (fun h => ?_) (fun h => ?_)
    · replace hq := br_pos h hq
      exact he48 _ _ _ _ hW (lv_sub hl [0] rfl) hq
    · replace hq := br_neg h hq
      refine lv_iconst (v := 0) hx hb dX11_digest_17 (by decide) ?_
      refine lv_istore_n (lv' := [(2, .int 0), (0, .ref g.2.1), (1, .int x1)]) hx hb dX11_digest_18 rfl hl (by decide) rfl (fun ls hl => ?_)
      obtain ⟨f19, hq⟩ := hq
      refine wX11_digest_L19 C hRf hRl hret ?_ f19 _ _ _ _ _ _ hW (lv_sub hl [1, 2, 0] rfl) hq
      · intro σ_2 x1_1 H locs ls hW hl hq
        obtain ⟨x1_3, ex1_3⟩ : ∃ y : Int32, y = x1_1 + 1 := ⟨_, rfl⟩
        replace hq := hq _ ex1_3
        refine lv_iinc (v := x1_3) (lv' := [(1, .int x1_3), (0, .ref g.2.1)]) hx hb dX11_digest_42 hl (k := 1) rfl (by rw [ex1_3]; rfl) (by decide) rfl (fun ls hl => ?_)
        refine lv_goto (tgt := 9) hx hb dX11_digest_45 (by decide) ?_
        exact ih _ _ _ _ _ hW (lv_sub hl [1, 0] rfl) hq
set_option maxHeartbeats 4000000 in
set_option maxRecDepth 100000 in
theorem wX11_digest (C : CallFix p m c cX11_digest 3 s args lwg RX11) (hRf : 7 ≤ R.frames) (hRl : 154 ≤ R.locals) {P : Int64 → MS → Prop} (hret : RetL g.1 (mw g) (mty g) A p l e R s m args below meth c 0 0 Q cX11_digest P) {σ : MS} {H : Heap} {locs : List Loc} {ls : Array Slot} (hW : WI g.1 (mw g) (mty g) A s σ H locs) (hl : lv_has ls 3 [(0, .ref g.2.1)]) (hq : qX11_digest σ  P) : W p l e R s m args below meth c H locs 0 0 Q (F0 m 0 ls []) := by
  have hx := C.1
  have hb := C.2.1
  unfold qX11_digest at hq
  refine lv_aload_n hx hb dX11_digest_0 rfl (lv_at hl 0 rfl) ?_
  refine lv_ldc2 (own := RX11) (v := 541) hx hb C.2.2.2.1 (C.2.2.2.2 _ (lwg_at 1343 (by decide +kernel) rfl)) dX11_digest_1 ?_
  refine mp_49 C hW dX11_digest_4 (fun σ_1 H locs eσ_1 hW => ?_)
  replace hq := hq _ eσ_1
  refine lv_iconst (v := 0) hx hb dX11_digest_7 (by decide) ?_
  refine lv_istore_n (lv' := [(1, .int 0), (0, .ref g.2.1)]) hx hb dX11_digest_8 rfl hl (by decide) rfl (fun ls hl => ?_)
  obtain ⟨f9, hq⟩ := hq
  refine wX11_digest_L9 C hRf hRl hret ?_ f9 _ _ _ _ _ hW (lv_sub hl [1, 0] rfl) hq
  · intro σ_2 H locs ls hW hl hq
    refine lv_iconst (v := 0) hx hb dX11_digest_48 (by decide) ?_
    refine lv_istore_n (lv' := [(1, .int 0), (0, .ref g.2.1)]) hx hb dX11_digest_49 rfl hl (by decide) rfl (fun ls hl => ?_)
    obtain ⟨f50, hq⟩ := hq
    refine wX11_digest_L50 C hRf hRl hret ?_ f50 _ _ _ _ _ hW (lv_sub hl [1, 0] rfl) hq
    · intro σ_3 H locs ls hW hl hq
      refine lv_iconst (v := 0) hx hb dX11_digest_72 (by decide) ?_
      refine lv_istore_n (lv' := [(1, .int 0), (0, .ref g.2.1)]) hx hb dX11_digest_73 rfl hl (by decide) rfl (fun ls hl => ?_)
      obtain ⟨f74, hq⟩ := hq
      refine wX11_digest_L74 C hRf hRl hret ?_ f74 _ _ _ _ _ hW (lv_sub hl [1, 0] rfl) hq
      · intro σ_4 H locs ls hW hl hq
        refine lv_iconst (v := 0) hx hb dX11_digest_93 (by decide) ?_
        refine lv_istore_n (lv' := [(1, .int 0), (0, .ref g.2.1)]) hx hb dX11_digest_94 rfl hl (by decide) rfl (fun ls hl => ?_)
        obtain ⟨f95, hq⟩ := hq
        refine wX11_digest_L95 C hRf hRl hret ?_ f95 _ _ _ _ _ hW (lv_sub hl [1, 0] rfl) hq
        · intro σ_5 H locs ls hW hl hq
          refine lv_iconst (v := 0) hx hb dX11_digest_120 (by decide) ?_
          refine lv_istore_n (lv' := [(1, .int 0), (0, .ref g.2.1)]) hx hb dX11_digest_121 rfl hl (by decide) rfl (fun ls hl => ?_)
          obtain ⟨f122, hq⟩ := hq
          exact wX11_digest_L122 C hRf hRl hret f122 _ _ _ _ _ hW (lv_sub hl [1, 0] rfl) hq
set_option maxHeartbeats 4000000 in
set_option maxRecDepth 100000 in
theorem mX11_digest {l : Launch} {g : MG} {σ : MS} {P : Int64 → MS → Prop} (hq : qX11_digest σ  P) (sz : Nat) : Met l yX11_digest (cws yX11_digest cX11_digest 3 (some .long)) ({ frames := 7, cells := 0, slots := 0, locals := 154 } : Room) (va_Pc [.ref g.2.1] (WP g.1 (mw g) (mty g) σ sz)) (va_Ql P (WB g.1 (mw g) (mty g) σ sz) (va_A (mw g σ) sz)) 0 0 (va_A (mw g σ) sz) :=
  w_enter (by decide) (Nat.le_of_ble_eq_true rfl) (fun p e s m args below meth c ls C hr hk hn hs hW hl => wX11_digest C (Nat.le_refl _) (Nat.le_refl _) (fun pc ls v σ H locs hd hW hq => w_lret C hs hr hk hW hd hq) hW hl hq)
end
