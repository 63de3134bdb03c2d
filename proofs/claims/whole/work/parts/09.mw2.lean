section
variable {p : Program} {l : Launch} {e : Env} {R : Room} {s : State} {m : MethodId} {args : Array Value} {below : List Frame} {meth : Method} {c : Code} {H : Heap} {locs : List Loc} {cells slots : Nat} {Q : State → Prop}
variable {cc : ByteArray} {pc : Nat} {ls : Array Slot} {rest : List Value} {own : String} {nL : Nat}
variable {g : MG} {A : Nat → Prop}
-- X11_hermit
set_option maxHeartbeats 4000000 in
set_option maxRecDepth 100000 in
theorem wX11_hermit (C : CallFix p m c cX11_hermit 7 s args lwg RX11) (hRf : 2 ≤ R.frames) (hRl : 44 ≤ R.locals) {P : Int32 → MS → Prop} (hret : RetI g.1 (mw g) (mty g) A p l e R s m args below meth c 0 0 Q cX11_hermit P) {σ : MS} {x1 : Int32} {x2 : Int32} {x3 : Int32} {x4 : Int32} {x5 : Int32} {x6 : Int32} {H : Heap} {locs : List Loc} {ls : Array Slot} (hW : WI g.1 (mw g) (mty g) A s σ H locs) (hl : lv_has ls 7 [(0, .ref g.2.1), (1, .int x1), (2, .int x2), (3, .int x3), (4, .int x4), (5, .int x5), (6, .int x6)]) (hq : qX11_hermit σ x1 x2 x3 x4 x5 x6 P) : W p l e R s m args below meth c H locs 0 0 Q (F0 m 0 ls []) := by
  have hx := C.1
  have hb := C.2.1
  unfold qX11_hermit at hq
  refine lv_iload_n hx hb dX11_hermit_0 rfl (lv_at hl 1 rfl) ?_
  refine lv_iconst (v := 0) hx hb dX11_hermit_1 (by decide) ?_
  refine lv_iconst (v := 4) hx hb dX11_hermit_2 (by decide) ?_
  refine kX11_within C hW (Nat.le_trans (by decide) hRf) (Nat.le_trans (by decide) hRl) hl.1 (Nat.le_of_ble_eq_true rfl) dX11_hermit_3 hq (fun r_2 σ_1 H locs hq hW => ?_)
  refine lv_if_eq (tgt := 37) hx hb dX11_hermit_6 (by decide) (fun h => ?_) (fun h => ?_)
  · replace hq := br_pos h hq
    refine lv_bipush (v := (-102)) hx hb dX11_hermit_37 (by decide) ?_
    exact hret _ _ _ _ _ _ dX11_hermit_39 hW hq
  · replace hq := br_neg h hq
    refine lv_iload_n hx hb dX11_hermit_9 rfl (lv_at hl 1 rfl) ?_
    refine lv_iload_n hx hb dX11_hermit_10 rfl (lv_at hl 2 rfl) ?_
    refine kX11_isNumber C hW (Nat.le_trans (by decide) hRf) (Nat.le_trans (by decide) hRl) hl.1 (Nat.le_of_ble_eq_true rfl) dX11_hermit_11 hq (fun r_4 σ_3 H locs hq hW => ?_)
    refine lv_if_eq (tgt := 37) hx hb dX11_hermit_14 (by decide) (fun h => ?_) (fun h => ?_)
    · replace hq := br_pos h hq
      refine lv_bipush (v := (-102)) hx hb dX11_hermit_37 (by decide) ?_
      exact hret _ _ _ _ _ _ dX11_hermit_39 hW hq
    · replace hq := br_neg h hq
      refine lv_iload_n hx hb dX11_hermit_17 rfl (lv_at hl 3 rfl) ?_
      refine lv_iconst (v := 1) hx hb dX11_hermit_18 (by decide) ?_
      refine lv_bipush (v := 99) hx hb dX11_hermit_19 (by decide) ?_
      refine kX11_within C hW (Nat.le_trans (by decide) hRf) (Nat.le_trans (by decide) hRl) hl.1 (Nat.le_of_ble_eq_true rfl) dX11_hermit_21 hq (fun r_6 σ_5 H locs hq hW => ?_)
      refine lv_if_eq (tgt := 37) hx hb dX11_hermit_24 (by decide) (fun h => ?_) (fun h => ?_)
      · replace hq := br_pos h hq
        refine lv_bipush (v := (-102)) hx hb dX11_hermit_37 (by decide) ?_
        exact hret _ _ _ _ _ _ dX11_hermit_39 hW hq
      · replace hq := br_neg h hq
        refine lv_iload hx hb dX11_hermit_27 (lv_at hl 4 rfl) ?_
        refine lv_iconst (v := 0) hx hb dX11_hermit_29 (by decide) ?_
        refine lv_iconst (v := 3) hx hb dX11_hermit_30 (by decide) ?_
        refine kX11_within C hW (Nat.le_trans (by decide) hRf) (Nat.le_trans (by decide) hRl) hl.1 (Nat.le_of_ble_eq_true rfl) dX11_hermit_31 hq (fun r_8 σ_7 H locs hq hW => ?_)
        refine lv_if_ne (tgt := 40) hx hb dX11_hermit_34 (by decide) (fun h => ?_) (fun h => ?_)
        · replace hq := br_neg h hq
          refine lv_iload hx hb dX11_hermit_40 (lv_at hl 5 rfl) ?_
          refine lv_iconst (v := 1) hx hb dX11_hermit_42 (by decide) ?_
          refine lv_bipush (v := 9) hx hb dX11_hermit_43 (by decide) ?_
          refine kX11_within C hW (Nat.le_trans (by decide) hRf) (Nat.le_trans (by decide) hRl) hl.1 (Nat.le_of_ble_eq_true rfl) dX11_hermit_45 hq (fun r_10 σ_9 H locs hq hW => ?_)
          refine lv_if_eq (tgt := 62) hx hb dX11_hermit_48 (by decide) (fun h => ?_) (fun h => ?_)
          · replace hq := br_pos h hq
            refine lv_bipush (v := (-102)) hx hb dX11_hermit_62 (by decide) ?_
            exact hret _ _ _ _ _ _ dX11_hermit_64 hW hq
          · replace hq := br_neg h hq
            refine lv_iload hx hb dX11_hermit_51 (lv_at hl 6 rfl) ?_
            refine lv_iconst (v := 0) hx hb dX11_hermit_53 (by decide) ?_
            refine lv_bipush (v := 99) hx hb dX11_hermit_54 (by decide) ?_
            refine kX11_within C hW (Nat.le_trans (by decide) hRf) (Nat.le_trans (by decide) hRl) hl.1 (Nat.le_of_ble_eq_true rfl) dX11_hermit_56 hq (fun r_12 σ_11 H locs hq hW => ?_)
            refine lv_if_ne (tgt := 65) hx hb dX11_hermit_59 (by decide) (fun h => ?_) (fun h => ?_)
            · replace hq := br_neg h hq
              refine lv_aload_n hx hb dX11_hermit_65 rfl (lv_at hl 0 rfl) ?_
              refine mg_0 C hW dX11_hermit_66 ?_
              refine lv_bipush (v := 10) hx hb dX11_hermit_69 (by decide) ?_
              refine lv_icmp_ne (tgt := 77) hx hb dX11_hermit_71 (by decide) (fun h => ?_) (fun h => ?_)
              · replace hq := br_neg h hq
                refine lv_aload_n hx hb dX11_hermit_77 rfl (lv_at hl 0 rfl) ?_
                refine mg_1 C hW dX11_hermit_78 ?_
                refine lv_aload_n hx hb dX11_hermit_81 rfl (lv_at hl 0 rfl) ?_
                refine mg_0 C hW dX11_hermit_82 ?_
                refine lv_iload_n hx hb dX11_hermit_85 rfl (lv_at hl 1 rfl) ?_
                obtain ⟨hin13, hq⟩ := hq
                refine ms_1 C hW hin13 dX11_hermit_86 (fun σ_14 H locs eσ_14 hW => ?_)
                replace hq := hq _ eσ_14
                refine lv_aload_n hx hb dX11_hermit_87 rfl (lv_at hl 0 rfl) ?_
                refine mg_2 C hW dX11_hermit_88 ?_
                refine lv_aload_n hx hb dX11_hermit_91 rfl (lv_at hl 0 rfl) ?_
                refine mg_0 C hW dX11_hermit_92 ?_
                refine lv_iload_n hx hb dX11_hermit_95 rfl (lv_at hl 2 rfl) ?_
                obtain ⟨hin15, hq⟩ := hq
                refine ms_2 C hW hin15 dX11_hermit_96 (fun σ_16 H locs eσ_16 hW => ?_)
                replace hq := hq _ eσ_16
                refine lv_aload_n hx hb dX11_hermit_97 rfl (lv_at hl 0 rfl) ?_
                refine mg_3 C hW dX11_hermit_98 ?_
                refine lv_aload_n hx hb dX11_hermit_101 rfl (lv_at hl 0 rfl) ?_
                refine mg_0 C hW dX11_hermit_102 ?_
                refine lv_iload_n hx hb dX11_hermit_105 rfl (lv_at hl 3 rfl) ?_
                obtain ⟨hin17, hq⟩ := hq
                refine ms_3 C hW hin17 dX11_hermit_106 (fun σ_18 H locs eσ_18 hW => ?_)
                replace hq := hq _ eσ_18
                refine lv_aload_n hx hb dX11_hermit_107 rfl (lv_at hl 0 rfl) ?_
                refine mg_4 C hW dX11_hermit_108 ?_
                refine lv_aload_n hx hb dX11_hermit_111 rfl (lv_at hl 0 rfl) ?_
                refine mg_0 C hW dX11_hermit_112 ?_
                refine lv_iload hx hb dX11_hermit_115 (lv_at hl 4 rfl) ?_
                obtain ⟨hin19, hq⟩ := hq
                refine ms_4 C hW hin19 dX11_hermit_117 (fun σ_20 H locs eσ_20 hW => ?_)
                replace hq := hq _ eσ_20
                refine lv_aload_n hx hb dX11_hermit_118 rfl (lv_at hl 0 rfl) ?_
                refine mg_5 C hW dX11_hermit_119 ?_
                refine lv_aload_n hx hb dX11_hermit_122 rfl (lv_at hl 0 rfl) ?_
                refine mg_0 C hW dX11_hermit_123 ?_
                refine lv_iload hx hb dX11_hermit_126 (lv_at hl 5 rfl) ?_
                obtain ⟨hin21, hq⟩ := hq
                refine ms_5 C hW hin21 dX11_hermit_128 (fun σ_22 H locs eσ_22 hW => ?_)
                replace hq := hq _ eσ_22
                refine lv_aload_n hx hb dX11_hermit_129 rfl (lv_at hl 0 rfl) ?_
                refine mg_6 C hW dX11_hermit_130 ?_
                refine lv_aload_n hx hb dX11_hermit_133 rfl (lv_at hl 0 rfl) ?_
                refine mg_0 C hW dX11_hermit_134 ?_
                refine lv_iload hx hb dX11_hermit_137 (lv_at hl 6 rfl) ?_
                obtain ⟨hin23, hq⟩ := hq
                refine ms_6 C hW hin23 dX11_hermit_139 (fun σ_24 H locs eσ_24 hW => ?_)
                replace hq := hq _ eσ_24
                refine lv_aload_n hx hb dX11_hermit_140 rfl (lv_at hl 0 rfl) ?_
                refine mg_7 C hW dX11_hermit_141 ?_
                refine lv_aload_n hx hb dX11_hermit_144 rfl (lv_at hl 0 rfl) ?_
                refine mg_0 C hW dX11_hermit_145 ?_
                refine lv_aload_n hx hb dX11_hermit_148 rfl (lv_at hl 0 rfl) ?_
                refine mg_0 C hW dX11_hermit_149 ?_
                obtain ⟨hin25, hq⟩ := hq
                refine ms_7 C hW hin25 dX11_hermit_152 (fun σ_26 H locs eσ_26 hW => ?_)
                replace hq := hq _ eσ_26
                refine lv_aload_n hx hb dX11_hermit_153 rfl (lv_at hl 0 rfl) ?_
                refine mg_8 C hW dX11_hermit_154 ?_
                refine lv_aload_n hx hb dX11_hermit_157 rfl (lv_at hl 0 rfl) ?_
                refine mg_0 C hW dX11_hermit_158 ?_
                refine lv_aload_n hx hb dX11_hermit_161 rfl (lv_at hl 0 rfl) ?_
                refine mg_0 C hW dX11_hermit_162 ?_
                obtain ⟨hin27, hq⟩ := hq
                refine ms_8 C hW hin27 dX11_hermit_165 (fun σ_28 H locs eσ_28 hW => ?_)
                replace hq := hq _ eσ_28
                refine lv_aload_n hx hb dX11_hermit_166 rfl (lv_at hl 0 rfl) ?_
                refine lv_dup hx hb dX11_hermit_167 rfl ?_
                refine mg_0 C hW dX11_hermit_168 ?_
                refine lv_iconst (v := 1) hx hb dX11_hermit_171 (by decide) ?_
                refine lv_iadd hx hb dX11_hermit_172 ?_
                refine mp_0 C hW dX11_hermit_173 (fun σ_29 H locs eσ_29 hW => ?_)
                replace hq := hq _ eσ_29
                refine lv_aload_n hx hb dX11_hermit_176 rfl (lv_at hl 0 rfl) ?_
                refine mg_0 C hW dX11_hermit_177 ?_
                refine lv_iconst (v := 1) hx hb dX11_hermit_180 (by decide) ?_
                refine lv_isub hx hb dX11_hermit_181 ?_
                exact hret _ _ _ _ _ _ dX11_hermit_182 hW hq
              · replace hq := br_pos h hq
                refine lv_bipush (v := (-104)) hx hb dX11_hermit_74 (by decide) ?_
                exact hret _ _ _ _ _ _ dX11_hermit_76 hW hq
            · replace hq := br_pos h hq
              refine lv_bipush (v := (-102)) hx hb dX11_hermit_62 (by decide) ?_
              exact hret _ _ _ _ _ _ dX11_hermit_64 hW hq
        · replace hq := br_pos h hq
          refine lv_bipush (v := (-102)) hx hb dX11_hermit_37 (by decide) ?_
          exact hret _ _ _ _ _ _ dX11_hermit_39 hW hq
set_option maxHeartbeats 4000000 in
set_option maxRecDepth 100000 in
theorem mX11_hermit {l : Launch} {g : MG} {σ : MS} {x1 : Int32} {x2 : Int32} {x3 : Int32} {x4 : Int32} {x5 : Int32} {x6 : Int32} {P : Int32 → MS → Prop} (hq : qX11_hermit σ x1 x2 x3 x4 x5 x6 P) (sz : Nat) : Met l yX11_hermit (cws yX11_hermit cX11_hermit 7 (some .int)) ({ frames := 2, cells := 0, slots := 0, locals := 44 } : Room) (va_Pc [.ref g.2.1, .int x1, .int x2, .int x3, .int x4, .int x5, .int x6] (WP g.1 (mw g) (mty g) σ sz)) (va_Qi P (WB g.1 (mw g) (mty g) σ sz) (va_A (mw g σ) sz)) 0 0 (va_A (mw g σ) sz) :=
  w_enter (by decide) (Nat.le_of_ble_eq_true rfl) (fun p e s m args below meth c ls C hr hk hn hs hW hl => wX11_hermit C (Nat.le_refl _) (Nat.le_refl _) (fun pc ls v σ H locs hd hW hq => w_iret C hs hr hk hW hd hq) hW hl hq)
-- X11_as
set_option maxHeartbeats 4000000 in
set_option maxRecDepth 100000 in
theorem wX11_as_J49 (C : CallFix p m c cX11_as 4 s args lwg RX11) (hRf : 2 ≤ R.frames) (hRl : 43 ≤ R.locals) {P : Int32 → MS → Prop} (hret : RetI g.1 (mw g) (mty g) A p l e R s m args below meth c 0 0 Q cX11_as P) {σ : MS} {x1 : Int32} {H : Heap} {locs : List Loc} {ls : Array Slot} (hW : WI g.1 (mw g) (mty g) A s σ H locs) (hl : lv_has ls 4 [(0, .ref g.2.1), (1, .int x1)]) (hq : qX11_as_J49  P σ x1) : W p l e R s m args below meth c H locs 0 0 Q (F0 m 49 ls []) := by
  have hx := C.1
  have hb := C.2.1
  unfold qX11_as_J49 at hq
  refine lv_iload_n hx hb dX11_as_49 rfl (lv_at hl 1 rfl) ?_
  refine lv_goto (tgt := 54) hx hb dX11_as_50 (by decide) ?_
  exact hret _ _ _ _ _ _ dX11_as_54 hW hq
set_option maxHeartbeats 4000000 in
set_option maxRecDepth 100000 in
theorem wX11_as (C : CallFix p m c cX11_as 4 s args lwg RX11) (hRf : 2 ≤ R.frames) (hRl : 43 ≤ R.locals) {P : Int32 → MS → Prop} (hret : RetI g.1 (mw g) (mty g) A p l e R s m args below meth c 0 0 Q cX11_as P) {σ : MS} {x1 : Int32} {x2 : Int32} {H : Heap} {locs : List Loc} {ls : Array Slot} (hW : WI g.1 (mw g) (mty g) A s σ H locs) (hl : lv_has ls 4 [(0, .ref g.2.1), (1, .int x1), (2, .int x2)]) (hq : qX11_as σ x1 x2 P) : W p l e R s m args below meth c H locs 0 0 Q (F0 m 0 ls []) := by
  have hx := C.1
  have hb := C.2.1
  unfold qX11_as at hq
  refine lv_aload_n hx hb dX11_as_0 rfl (lv_at hl 0 rfl) ?_
  refine lv_iload_n hx hb dX11_as_1 rfl (lv_at hl 1 rfl) ?_
  refine kX11_isHermit C hW (Nat.le_trans (by decide) hRf) (Nat.le_trans (by decide) hRl) hl.1 (Nat.le_of_ble_eq_true rfl) dX11_as_2 hq (fun r_2 σ_1 H locs hq hW => ?_)
  refine lv_if_ne (tgt := 11) hx hb dX11_as_5 (by decide) (fun h => ?_) (fun h => ?_)
  · replace hq := br_neg h hq
    refine lv_iload_n hx hb dX11_as_11 rfl (lv_at hl 2 rfl) ?_
    refine lv_iconst (v := 0) hx hb dX11_as_12 (by decide) ?_
    refine lv_iconst (v := 4) hx hb dX11_as_13 (by decide) ?_
    refine kX11_within C hW (Nat.le_trans (by decide) hRf) (Nat.le_trans (by decide) hRl) hl.1 (Nat.le_of_ble_eq_true rfl) dX11_as_14 hq (fun r_4 σ_3 H locs hq hW => ?_)
    refine lv_if_ne (tgt := 23) hx hb dX11_as_17 (by decide) (fun h => ?_) (fun h => ?_)
    · replace hq := br_neg h hq
      refine lv_aload_n hx hb dX11_as_23 rfl (lv_at hl 0 rfl) ?_
      refine mg_1 C hW dX11_as_24 ?_
      refine lv_iload_n hx hb dX11_as_27 rfl (lv_at hl 1 rfl) ?_
      obtain ⟨hin5, hq⟩ := hq
      refine ma_1 C hW hin5 dX11_as_28 ?_
      refine lv_topi (fun x3_6 ex3_6 => ?_)
      replace hq := hq _ ex3_6
      refine lv_istore_n (lv' := [(3, .int x3_6), (0, .ref g.2.1), (1, .int x1), (2, .int x2)]) hx hb dX11_as_29 rfl hl (by decide) rfl (fun ls hl => ?_)
      refine lv_iload_n hx hb dX11_as_30 rfl (lv_at hl 3 rfl) ?_
      refine lv_if_eq (tgt := 49) hx hb dX11_as_31 (by decide) (fun h => ?_) (fun h => ?_)
      · replace hq := br_pos h hq
        exact wX11_as_J49 C hRf hRl hret  hW (lv_sub hl [1, 2] rfl) hq
      · replace hq := br_neg h hq
        refine lv_iload_n hx hb dX11_as_34 rfl (lv_at hl 0 rfl) ?_
        refine lv_iload_n hx hb dX11_as_35 rfl (lv_at hl 3 rfl) ?_
        refine lv_icmp_eq (tgt := 49) hx hb dX11_as_36 (by decide) (fun h => ?_) (fun h => ?_)
        · replace hq := br_pos h hq
          exact wX11_as_J49 C hRf hRl hret  hW (lv_sub hl [1, 2] rfl) hq
        · replace hq := br_neg h hq
          refine lv_iload_n hx hb dX11_as_39 rfl (lv_at hl 3 rfl) ?_
          refine lv_iconst (v := 1) hx hb dX11_as_40 (by decide) ?_
          refine lv_icmp_ne (tgt := 53) hx hb dX11_as_41 (by decide) (fun h => ?_) (fun h => ?_)
          · replace hq := br_neg h hq
            refine lv_iconst (v := (-1)) hx hb dX11_as_53 (by decide) ?_
            exact hret _ _ _ _ _ _ dX11_as_54 hW hq
          · replace hq := br_pos h hq
            refine lv_iload_n hx hb dX11_as_44 rfl (lv_at hl 0 rfl) ?_
            refine lv_iconst (v := 4) hx hb dX11_as_45 (by decide) ?_
            refine lv_icmp_ne (tgt := 53) hx hb dX11_as_46 (by decide) (fun h => ?_) (fun h => ?_)
            · replace hq := br_neg h hq
              refine lv_iconst (v := (-1)) hx hb dX11_as_53 (by decide) ?_
              exact hret _ _ _ _ _ _ dX11_as_54 hW hq
            · replace hq := br_pos h hq
              exact wX11_as_J49 C hRf hRl hret  hW (lv_sub hl [1, 2] rfl) hq
    · replace hq := br_pos h hq
      refine lv_bipush (v := (-102)) hx hb dX11_as_20 (by decide) ?_
      exact hret _ _ _ _ _ _ dX11_as_22 hW hq
  · replace hq := br_pos h hq
    refine lv_bipush (v := (-101)) hx hb dX11_as_8 (by decide) ?_
    exact hret _ _ _ _ _ _ dX11_as_10 hW hq
set_option maxHeartbeats 4000000 in
set_option maxRecDepth 100000 in
theorem mX11_as {l : Launch} {g : MG} {σ : MS} {x1 : Int32} {x2 : Int32} {P : Int32 → MS → Prop} (hq : qX11_as σ x1 x2 P) (sz : Nat) : Met l yX11_as (cws yX11_as cX11_as 4 (some .int)) ({ frames := 2, cells := 0, slots := 0, locals := 43 } : Room) (va_Pc [.ref g.2.1, .int x1, .int x2] (WP g.1 (mw g) (mty g) σ sz)) (va_Qi P (WB g.1 (mw g) (mty g) σ sz) (va_A (mw g σ) sz)) 0 0 (va_A (mw g σ) sz) :=
  w_enter (by decide) (Nat.le_of_ble_eq_true rfl) (fun p e s m args below meth c ls C hr hk hn hs hW hl => wX11_as C (Nat.le_refl _) (Nat.le_refl _) (fun pc ls v σ H locs hd hW hq => w_iret C hs hr hk hW hd hq) hW hl hq)
-- X11_hermitNow
set_option maxHeartbeats 4000000 in
set_option maxRecDepth 100000 in
theorem wX11_hermitNow (C : CallFix p m c cX11_hermitNow 3 s args lwg RX11) (hRf : 0 ≤ R.frames) (hRl : 0 ≤ R.locals) {P : Int32 → MS → Prop} (hret : RetI g.1 (mw g) (mty g) A p l e R s m args below meth c 0 0 Q cX11_hermitNow P) {σ : MS} {x1 : Int32} {x2 : Int32} {H : Heap} {locs : List Loc} {ls : Array Slot} (hW : WI g.1 (mw g) (mty g) A s σ H locs) (hl : lv_has ls 3 [(0, .ref g.2.1), (1, .int x1), (2, .int x2)]) (hq : qX11_hermitNow σ x1 x2 P) : W p l e R s m args below meth c H locs 0 0 Q (F0 m 0 ls []) := by
  have hx := C.1
  have hb := C.2.1
  unfold qX11_hermitNow at hq
  refine lv_iload_n hx hb dX11_hermitNow_0 rfl (lv_at hl 2 rfl) ?_
  by_cases h1_0 : x2 = 0
  · replace hq := br_pos h1_0 hq
    refine lv_tableIn (off := 39) (tgt := 40) hx hb dX11_hermitNow_1 (by rw [h1_0]; decide) (by rw [h1_0]; decide) (by rw [h1_0]; decide) (by decide) ?_
    refine lv_aload_n hx hb dX11_hermitNow_40 rfl (lv_at hl 0 rfl) ?_
    refine mg_1 C hW dX11_hermitNow_41 ?_
    refine lv_iload_n hx hb dX11_hermitNow_44 rfl (lv_at hl 1 rfl) ?_
    obtain ⟨hin1, hq⟩ := hq
    refine ma_1 C hW hin1 dX11_hermitNow_45 ?_
    exact hret _ _ _ _ _ _ dX11_hermitNow_46 hW hq
  · replace hq := br_neg h1_0 hq
    by_cases h1_1 : x2 = 1
    · replace hq := br_pos h1_1 hq
      refine lv_tableIn (off := 46) (tgt := 47) hx hb dX11_hermitNow_1 (by rw [h1_1]; decide) (by rw [h1_1]; decide) (by rw [h1_1]; decide) (by decide) ?_
      refine lv_aload_n hx hb dX11_hermitNow_47 rfl (lv_at hl 0 rfl) ?_
      refine mg_2 C hW dX11_hermitNow_48 ?_
      refine lv_iload_n hx hb dX11_hermitNow_51 rfl (lv_at hl 1 rfl) ?_
      obtain ⟨hin2, hq⟩ := hq
      refine ma_2 C hW hin2 dX11_hermitNow_52 ?_
      exact hret _ _ _ _ _ _ dX11_hermitNow_53 hW hq
    · replace hq := br_neg h1_1 hq
      by_cases h1_2 : x2 = 2
      · replace hq := br_pos h1_2 hq
        refine lv_tableIn (off := 53) (tgt := 54) hx hb dX11_hermitNow_1 (by rw [h1_2]; decide) (by rw [h1_2]; decide) (by rw [h1_2]; decide) (by decide) ?_
        refine lv_aload_n hx hb dX11_hermitNow_54 rfl (lv_at hl 0 rfl) ?_
        refine mg_3 C hW dX11_hermitNow_55 ?_
        refine lv_iload_n hx hb dX11_hermitNow_58 rfl (lv_at hl 1 rfl) ?_
        obtain ⟨hin3, hq⟩ := hq
        refine ma_3 C hW hin3 dX11_hermitNow_59 ?_
        exact hret _ _ _ _ _ _ dX11_hermitNow_60 hW hq
      · replace hq := br_neg h1_2 hq
        by_cases h1_3 : x2 = 3
        · replace hq := br_pos h1_3 hq
          refine lv_tableIn (off := 60) (tgt := 61) hx hb dX11_hermitNow_1 (by rw [h1_3]; decide) (by rw [h1_3]; decide) (by rw [h1_3]; decide) (by decide) ?_
          refine lv_aload_n hx hb dX11_hermitNow_61 rfl (lv_at hl 0 rfl) ?_
          refine mg_4 C hW dX11_hermitNow_62 ?_
          refine lv_iload_n hx hb dX11_hermitNow_65 rfl (lv_at hl 1 rfl) ?_
          obtain ⟨hin4, hq⟩ := hq
          refine ma_4 C hW hin4 dX11_hermitNow_66 ?_
          exact hret _ _ _ _ _ _ dX11_hermitNow_67 hW hq
        · replace hq := br_neg h1_3 hq
          by_cases h1_4 : x2 = 4
          · replace hq := br_pos h1_4 hq
            refine lv_tableIn (off := 67) (tgt := 68) hx hb dX11_hermitNow_1 (by rw [h1_4]; decide) (by rw [h1_4]; decide) (by rw [h1_4]; decide) (by decide) ?_
            refine lv_aload_n hx hb dX11_hermitNow_68 rfl (lv_at hl 0 rfl) ?_
            refine mg_5 C hW dX11_hermitNow_69 ?_
            refine lv_iload_n hx hb dX11_hermitNow_72 rfl (lv_at hl 1 rfl) ?_
            obtain ⟨hin5, hq⟩ := hq
            refine ma_5 C hW hin5 dX11_hermitNow_73 ?_
            exact hret _ _ _ _ _ _ dX11_hermitNow_74 hW hq
          · replace hq := br_neg h1_4 hq
            by_cases h1_5 : x2 = 5
            · replace hq := br_pos h1_5 hq
              refine lv_tableIn (off := 74) (tgt := 75) hx hb dX11_hermitNow_1 (by rw [h1_5]; decide) (by rw [h1_5]; decide) (by rw [h1_5]; decide) (by decide) ?_
              refine lv_aload_n hx hb dX11_hermitNow_75 rfl (lv_at hl 0 rfl) ?_
              refine mg_6 C hW dX11_hermitNow_76 ?_
              refine lv_iload_n hx hb dX11_hermitNow_79 rfl (lv_at hl 1 rfl) ?_
              obtain ⟨hin6, hq⟩ := hq
              refine ma_6 C hW hin6 dX11_hermitNow_80 ?_
              exact hret _ _ _ _ _ _ dX11_hermitNow_81 hW hq
            · replace hq := br_neg h1_5 hq
              refine lv_tableOut (tgt := 82) hx hb dX11_hermitNow_1 (ne_out6 h1_0 h1_1 h1_2 h1_3 h1_4 h1_5) (by decide) ?_
              refine lv_aload_n hx hb dX11_hermitNow_82 rfl (lv_at hl 0 rfl) ?_
              refine mg_7 C hW dX11_hermitNow_83 ?_
              refine lv_iload_n hx hb dX11_hermitNow_86 rfl (lv_at hl 1 rfl) ?_
              obtain ⟨hin7, hq⟩ := hq
              refine ma_7 C hW hin7 dX11_hermitNow_87 ?_
              exact hret _ _ _ _ _ _ dX11_hermitNow_88 hW hq
set_option maxHeartbeats 4000000 in
set_option maxRecDepth 100000 in
theorem mX11_hermitNow {l : Launch} {g : MG} {σ : MS} {x1 : Int32} {x2 : Int32} {P : Int32 → MS → Prop} (hq : qX11_hermitNow σ x1 x2 P) (sz : Nat) : Met l yX11_hermitNow (cws yX11_hermitNow cX11_hermitNow 3 (some .int)) ({ frames := 0, cells := 0, slots := 0, locals := 0 } : Room) (va_Pc [.ref g.2.1, .int x1, .int x2] (WP g.1 (mw g) (mty g) σ sz)) (va_Qi P (WB g.1 (mw g) (mty g) σ sz) (va_A (mw g σ) sz)) 0 0 (va_A (mw g σ) sz) :=
  w_enter (by decide) (Nat.le_of_ble_eq_true rfl) (fun p e s m args below meth c ls C hr hk hn hs hW hl => wX11_hermitNow C (Nat.le_refl _) (Nat.le_refl _) (fun pc ls v σ H locs hd hW hq => w_iret C hs hr hk hW hd hq) hW hl hq)
set_option maxHeartbeats 4000000 in
set_option maxRecDepth 100000 in
theorem kX11_hermitNow (C : CallFix p m c cc nL s args lwg RX11) {σ : MS} (hW : WI g.1 (mw g) (mty g) A s σ H locs) (hRf : 1 ≤ R.frames) (hRl : 22 ≤ R.locals) (hls : ls.size = nL) (hro : (rest.map fun v => v.category).sum ≤ 8) {x1 : Int32} {x2 : Int32} (hd : decode cc pc = .ok (.invokevirtual 144, 3)) {P : Int32 → MS → Prop} (hq : qX11_hermitNow σ x1 x2 P) (kk : ∀ (r : Int32) (σ1 : MS) (H : Heap) (locs : List Loc), P r σ1 → WI g.1 (mw g) (mty g) A s σ1 H locs → W p l e R s m args below meth c H locs 0 0 Q (F0 m (pc + 3) ls (.int r :: rest))) : W p l e R s m args below meth c H locs 0 0 Q (F0 m pc ls (.int x2 :: .int x1 :: .ref g.2.1 :: rest)) :=
  w_calli hW (w_runV C hW (mX11_hermitNow hq _) ⟨lwg_at 1129 (by decide +kernel) rfl, lwg_at 74 (by decide +kernel) rfl, lwg_at 1126 (by decide +kernel) rfl⟩ (lwg_at 1128 (by decide +kernel) rfl) (lwg_at 31 (by decide +kernel) rfl) (np := 2) (by decide +kernel) ⟨rfl, rfl⟩ ⟨hRf, hRl⟩ (ci := 12) rfl rfl (q0 := 0) rfl rfl hls rfl hro hd ⟨Nat.zero_le _, Nat.zero_le _⟩) kk
-- X11_about
set_option maxHeartbeats 4000000 in
set_option maxRecDepth 100000 in
theorem wX11_about (C : CallFix p m c cX11_about 3 s args lwg RX11) (hRf : 2 ≤ R.frames) (hRl : 43 ≤ R.locals) {P : Int32 → MS → Prop} (hret : RetI g.1 (mw g) (mty g) A p l e R s m args below meth c 0 0 Q cX11_about P) {σ : MS} {x1 : Int32} {x2 : Int32} {H : Heap} {locs : List Loc} {ls : Array Slot} (hW : WI g.1 (mw g) (mty g) A s σ H locs) (hl : lv_has ls 3 [(0, .ref g.2.1), (1, .int x1), (2, .int x2)]) (hq : qX11_about σ x1 x2 P) : W p l e R s m args below meth c H locs 0 0 Q (F0 m 0 ls []) := by
  have hx := C.1
  have hb := C.2.1
  unfold qX11_about at hq
  refine lv_aload_n hx hb dX11_about_0 rfl (lv_at hl 0 rfl) ?_
  refine lv_iload_n hx hb dX11_about_1 rfl (lv_at hl 1 rfl) ?_
  refine kX11_isHermit C hW (Nat.le_trans (by decide) hRf) (Nat.le_trans (by decide) hRl) hl.1 (Nat.le_of_ble_eq_true rfl) dX11_about_2 hq (fun r_2 σ_1 H locs hq hW => ?_)
  refine lv_if_ne (tgt := 14) hx hb dX11_about_5 (by decide) (fun h => ?_) (fun h => ?_)
  · replace hq := br_neg h hq
    refine lv_iload_n hx hb dX11_about_14 rfl (lv_at hl 2 rfl) ?_
    refine lv_iconst (v := 0) hx hb dX11_about_15 (by decide) ?_
    refine lv_bipush (v := 6) hx hb dX11_about_16 (by decide) ?_
    refine kX11_within C hW (Nat.le_trans (by decide) hRf) (Nat.le_trans (by decide) hRl) hl.1 (Nat.le_of_ble_eq_true rfl) dX11_about_18 hq (fun r_4 σ_3 H locs hq hW => ?_)
    refine lv_if_eq (tgt := 33) hx hb dX11_about_21 (by decide) (fun h => ?_) (fun h => ?_)
    · replace hq := br_pos h hq
      refine lv_sipush (v := (-1002)) hx hb dX11_about_33 (by decide) ?_
      exact hret _ _ _ _ _ _ dX11_about_36 hW hq
    · replace hq := br_neg h hq
      refine lv_aload_n hx hb dX11_about_24 rfl (lv_at hl 0 rfl) ?_
      refine lv_iload_n hx hb dX11_about_25 rfl (lv_at hl 1 rfl) ?_
      refine lv_iload_n hx hb dX11_about_26 rfl (lv_at hl 2 rfl) ?_
      refine kX11_hermitNow C hW (Nat.le_trans (by decide) hRf) (Nat.le_trans (by decide) hRl) hl.1 (Nat.le_of_ble_eq_true rfl) dX11_about_27 hq (fun r_6 σ_5 H locs hq hW => ?_)
      refine lv_goto (tgt := 36) hx hb dX11_about_30 (by decide) ?_
      exact hret _ _ _ _ _ _ dX11_about_36 hW hq
  · replace hq := br_pos h hq
    refine lv_sipush (v := (-1001)) hx hb dX11_about_8 (by decide) ?_
    refine lv_goto (tgt := 36) hx hb dX11_about_11 (by decide) ?_
    exact hret _ _ _ _ _ _ dX11_about_36 hW hq
set_option maxHeartbeats 4000000 in
set_option maxRecDepth 100000 in
theorem mX11_about {l : Launch} {g : MG} {σ : MS} {x1 : Int32} {x2 : Int32} {P : Int32 → MS → Prop} (hq : qX11_about σ x1 x2 P) (sz : Nat) : Met l yX11_about (cws yX11_about cX11_about 3 (some .int)) ({ frames := 2, cells := 0, slots := 0, locals := 43 } : Room) (va_Pc [.ref g.2.1, .int x1, .int x2] (WP g.1 (mw g) (mty g) σ sz)) (va_Qi P (WB g.1 (mw g) (mty g) σ sz) (va_A (mw g σ) sz)) 0 0 (va_A (mw g σ) sz) :=
  w_enter (by decide) (Nat.le_of_ble_eq_true rfl) (fun p e s m args below meth c ls C hr hk hn hs hW hl => wX11_about C (Nat.le_refl _) (Nat.le_refl _) (fun pc ls v σ H locs hd hW hq => w_iret C hs hr hk hW hd hq) hW hl hq)
-- X11_store
set_option maxHeartbeats 4000000 in
set_option maxRecDepth 100000 in
theorem wX11_store (C : CallFix p m c cX11_store 4 s args lwg RX11) (hRf : 2 ≤ R.frames) (hRl : 43 ≤ R.locals) {P : Int32 → MS → Prop} (hret : RetI g.1 (mw g) (mty g) A p l e R s m args below meth c 0 0 Q cX11_store P) {σ : MS} {x1 : Int32} {x2 : Int32} {H : Heap} {locs : List Loc} {ls : Array Slot} (hW : WI g.1 (mw g) (mty g) A s σ H locs) (hl : lv_has ls 4 [(0, .ref g.2.1), (1, .int x1), (2, .int x2)]) (hq : qX11_store σ x1 x2 P) : W p l e R s m args below meth c H locs 0 0 Q (F0 m 0 ls []) := by
  have hx := C.1
  have hb := C.2.1
  unfold qX11_store at hq
  refine lv_aload_n hx hb dX11_store_0 rfl (lv_at hl 0 rfl) ?_
  refine lv_iload_n hx hb dX11_store_1 rfl (lv_at hl 1 rfl) ?_
  refine kX11_isHermit C hW (Nat.le_trans (by decide) hRf) (Nat.le_trans (by decide) hRl) hl.1 (Nat.le_of_ble_eq_true rfl) dX11_store_2 hq (fun r_2 σ_1 H locs hq hW => ?_)
  refine lv_if_ne (tgt := 12) hx hb dX11_store_5 (by decide) (fun h => ?_) (fun h => ?_)
  · replace hq := br_neg h hq
    refine lv_iload_n hx hb dX11_store_12 rfl (lv_at hl 2 rfl) ?_
    refine lv_iconst (v := 0) hx hb dX11_store_13 (by decide) ?_
    refine lv_bipush (v := 99) hx hb dX11_store_14 (by decide) ?_
    refine kX11_within C hW (Nat.le_trans (by decide) hRf) (Nat.le_trans (by decide) hRl) hl.1 (Nat.le_of_ble_eq_true rfl) dX11_store_16 hq (fun r_4 σ_3 H locs hq hW => ?_)
    refine lv_if_ne (tgt := 26) hx hb dX11_store_19 (by decide) (fun h => ?_) (fun h => ?_)
    · replace hq := br_neg h hq
      refine lv_aload_n hx hb dX11_store_26 rfl (lv_at hl 0 rfl) ?_
      refine mg_6 C hW dX11_store_27 ?_
      refine lv_iload_n hx hb dX11_store_30 rfl (lv_at hl 1 rfl) ?_
      obtain ⟨hin5, hq⟩ := hq
      refine ma_6 C hW hin5 dX11_store_31 ?_
      refine lv_topi (fun x3_6 ex3_6 => ?_)
      replace hq := hq _ ex3_6
      refine lv_istore_n (lv' := [(3, .int x3_6), (0, .ref g.2.1), (1, .int x1), (2, .int x2)]) hx hb dX11_store_32 rfl hl (by decide) rfl (fun ls hl => ?_)
      refine lv_aload_n hx hb dX11_store_33 rfl (lv_at hl 1 rfl) ?_
      refine mg_6 C hW dX11_store_34 ?_
      refine lv_iload_n hx hb dX11_store_37 rfl (lv_at hl 2 rfl) ?_
      refine lv_iload_n hx hb dX11_store_38 rfl (lv_at hl 3 rfl) ?_
      refine ms_6 C hW hin5 dX11_store_39 (fun σ_7 H locs eσ_7 hW => ?_)
      replace hq := hq _ eσ_7
      refine lv_iload_n hx hb dX11_store_40 rfl (lv_at hl 0 rfl) ?_
      exact hret _ _ _ _ _ _ dX11_store_41 hW hq
    · replace hq := br_pos h hq
      refine lv_sipush (v := (-1002)) hx hb dX11_store_22 (by decide) ?_
      exact hret _ _ _ _ _ _ dX11_store_25 hW hq
  · replace hq := br_pos h hq
    refine lv_sipush (v := (-1001)) hx hb dX11_store_8 (by decide) ?_
    exact hret _ _ _ _ _ _ dX11_store_11 hW hq
set_option maxHeartbeats 4000000 in
set_option maxRecDepth 100000 in
theorem mX11_store {l : Launch} {g : MG} {σ : MS} {x1 : Int32} {x2 : Int32} {P : Int32 → MS → Prop} (hq : qX11_store σ x1 x2 P) (sz : Nat) : Met l yX11_store (cws yX11_store cX11_store 4 (some .int)) ({ frames := 2, cells := 0, slots := 0, locals := 43 } : Room) (va_Pc [.ref g.2.1, .int x1, .int x2] (WP g.1 (mw g) (mty g) σ sz)) (va_Qi P (WB g.1 (mw g) (mty g) σ sz) (va_A (mw g σ) sz)) 0 0 (va_A (mw g σ) sz) :=
  w_enter (by decide) (Nat.le_of_ble_eq_true rfl) (fun p e s m args below meth c ls C hr hk hn hs hW hl => wX11_store C (Nat.le_refl _) (Nat.le_refl _) (fun pc ls v σ H locs hd hW hq => w_iret C hs hr hk hW hd hq) hW hl hq)
-- X11_isSeat
set_option maxHeartbeats 4000000 in
set_option maxRecDepth 100000 in
theorem wX11_isSeat (C : CallFix p m c cX11_isSeat 2 s args lwg RX11) (hRf : 1 ≤ R.frames) (hRl : 22 ≤ R.locals) {P : Int32 → MS → Prop} (hret : RetZ g.1 (mw g) (mty g) A p l e R s m args below meth c 0 0 Q cX11_isSeat P) {σ : MS} {x1 : Int32} {H : Heap} {locs : List Loc} {ls : Array Slot} (hW : WI g.1 (mw g) (mty g) A s σ H locs) (hl : lv_has ls 2 [(0, .ref g.2.1), (1, .int x1)]) (hq : qX11_isSeat σ x1 P) : W p l e R s m args below meth c H locs 0 0 Q (F0 m 0 ls []) := by
  have hx := C.1
  have hb := C.2.1
  unfold qX11_isSeat at hq
  refine lv_iload_n hx hb dX11_isSeat_0 rfl (lv_at hl 1 rfl) ?_
  refine lv_iconst (v := 0) hx hb dX11_isSeat_1 (by decide) ?_
  refine lv_aload_n hx hb dX11_isSeat_2 rfl (lv_at hl 0 rfl) ?_
  refine mg_0 C hW dX11_isSeat_3 ?_
  refine lv_iconst (v := 1) hx hb dX11_isSeat_6 (by decide) ?_
  refine lv_isub hx hb dX11_isSeat_7 ?_
  refine kX11_within C hW (Nat.le_trans (by decide) hRf) (Nat.le_trans (by decide) hRl) hl.1 (Nat.le_of_ble_eq_true rfl) dX11_isSeat_8 hq (fun r_2 σ_1 H locs hq hW => ?_)
  obtain ⟨hib, hq⟩ := hq
  exact hret _ _ _ _ _ _ dX11_isSeat_11 hW hib hq
set_option maxHeartbeats 4000000 in
set_option maxRecDepth 100000 in
theorem mX11_isSeat {l : Launch} {g : MG} {σ : MS} {x1 : Int32} {P : Int32 → MS → Prop} (hq : qX11_isSeat σ x1 P) (sz : Nat) : Met l yX11_isSeat (cws yX11_isSeat cX11_isSeat 2 (some .boolean)) ({ frames := 1, cells := 0, slots := 0, locals := 22 } : Room) (va_Pc [.ref g.2.1, .int x1] (WP g.1 (mw g) (mty g) σ sz)) (va_Qi P (WB g.1 (mw g) (mty g) σ sz) (va_A (mw g σ) sz)) 0 0 (va_A (mw g σ) sz) :=
  w_enter (by decide) (Nat.le_of_ble_eq_true rfl) (fun p e s m args below meth c ls C hr hk hn hs hW hl => wX11_isSeat C (Nat.le_refl _) (Nat.le_refl _) (fun pc ls v σ H locs hd hW hv hq => w_zret C hs hr hk hW hd hv hq) hW hl hq)
set_option maxHeartbeats 4000000 in
set_option maxRecDepth 100000 in
theorem kX11_isSeat (C : CallFix p m c cc nL s args lwg RX11) {σ : MS} (hW : WI g.1 (mw g) (mty g) A s σ H locs) (hRf : 2 ≤ R.frames) (hRl : 43 ≤ R.locals) (hls : ls.size = nL) (hro : (rest.map fun v => v.category).sum ≤ 8) {x1 : Int32} (hd : decode cc pc = .ok (.invokevirtual 147, 3)) {P : Int32 → MS → Prop} (hq : qX11_isSeat σ x1 P) (kk : ∀ (r : Int32) (σ1 : MS) (H : Heap) (locs : List Loc), P r σ1 → WI g.1 (mw g) (mty g) A s σ1 H locs → W p l e R s m args below meth c H locs 0 0 Q (F0 m (pc + 3) ls (.int r :: rest))) : W p l e R s m args below meth c H locs 0 0 Q (F0 m pc ls (.int x1 :: .ref g.2.1 :: rest)) :=
  w_calli hW (w_runV C hW (mX11_isSeat hq _) ⟨lwg_at 1141 (by decide +kernel) rfl, lwg_at 74 (by decide +kernel) rfl, lwg_at 1138 (by decide +kernel) rfl⟩ (lwg_at 1140 (by decide +kernel) rfl) (lwg_at 32 (by decide +kernel) rfl) (np := 1) (by decide +kernel) ⟨rfl, rfl⟩ ⟨hRf, hRl⟩ (ci := 12) rfl rfl (q0 := 0) rfl rfl hls rfl hro hd ⟨Nat.zero_le _, Nat.zero_le _⟩) kk
-- X11_exchange
set_option maxHeartbeats 4000000 in
set_option maxRecDepth 100000 in
theorem wX11_exchange (C : CallFix p m c cX11_exchange 4 s args lwg RX11) (hRf : 0 ≤ R.frames) (hRl : 0 ≤ R.locals) {P : MS → Prop} (hret : RetV g.1 (mw g) (mty g) A p l e R s m args below meth c 0 0 Q cX11_exchange P) {σ : MS} {x1 : Int32} {x2 : Int32} {H : Heap} {locs : List Loc} {ls : Array Slot} (hW : WI g.1 (mw g) (mty g) A s σ H locs) (hl : lv_has ls 4 [(0, .ref g.2.1), (1, .int x1), (2, .int x2)]) (hq : qX11_exchange σ x1 x2 P) : W p l e R s m args below meth c H locs 0 0 Q (F0 m 0 ls []) := by
  have hx := C.1
  have hb := C.2.1
  unfold qX11_exchange at hq
  refine lv_aload_n hx hb dX11_exchange_0 rfl (lv_at hl 0 rfl) ?_
  refine mg_8 C hW dX11_exchange_1 ?_
  refine lv_iload_n hx hb dX11_exchange_4 rfl (lv_at hl 1 rfl) ?_
  obtain ⟨hin1, hq⟩ := hq
  refine ma_8 C hW hin1 dX11_exchange_5 ?_
  refine lv_topi (fun x3_2 ex3_2 => ?_)
  replace hq := hq _ ex3_2
  refine lv_istore_n (lv' := [(3, .int x3_2), (0, .ref g.2.1), (1, .int x1), (2, .int x2)]) hx hb dX11_exchange_6 rfl hl (by decide) rfl (fun ls hl => ?_)
  refine lv_aload_n hx hb dX11_exchange_7 rfl (lv_at hl 1 rfl) ?_
  refine mg_8 C hW dX11_exchange_8 ?_
  refine lv_iload_n hx hb dX11_exchange_11 rfl (lv_at hl 2 rfl) ?_
  refine lv_aload_n hx hb dX11_exchange_12 rfl (lv_at hl 1 rfl) ?_
  refine mg_8 C hW dX11_exchange_13 ?_
  refine lv_iload_n hx hb dX11_exchange_16 rfl (lv_at hl 3 rfl) ?_
  obtain ⟨hin3, hq⟩ := hq
  refine ma_8 C hW hin3 dX11_exchange_17 ?_
  refine ms_8 C hW hin1 dX11_exchange_18 (fun σ_4 H locs eσ_4 hW => ?_)
  replace hq := hq _ eσ_4
  refine lv_aload_n hx hb dX11_exchange_19 rfl (lv_at hl 1 rfl) ?_
  refine mg_8 C hW dX11_exchange_20 ?_
  refine lv_iload_n hx hb dX11_exchange_23 rfl (lv_at hl 3 rfl) ?_
  refine lv_iload_n hx hb dX11_exchange_24 rfl (lv_at hl 0 rfl) ?_
  refine ms_8 C hW hin3 dX11_exchange_25 (fun σ_5 H locs eσ_5 hW => ?_)
  replace hq := hq _ eσ_5
  refine lv_aload_n hx hb dX11_exchange_26 rfl (lv_at hl 1 rfl) ?_
  refine mg_7 C hW dX11_exchange_27 ?_
  refine lv_aload_n hx hb dX11_exchange_30 rfl (lv_at hl 1 rfl) ?_
  refine mg_8 C hW dX11_exchange_31 ?_
  refine lv_iload_n hx hb dX11_exchange_34 rfl (lv_at hl 2 rfl) ?_
  refine ma_8 C hW hin1 dX11_exchange_35 ?_
  refine lv_iload_n hx hb dX11_exchange_36 rfl (lv_at hl 2 rfl) ?_
  obtain ⟨hin6, hq⟩ := hq
  refine ms_7 C hW hin6 dX11_exchange_37 (fun σ_7 H locs eσ_7 hW => ?_)
  replace hq := hq _ eσ_7
  refine lv_aload_n hx hb dX11_exchange_38 rfl (lv_at hl 1 rfl) ?_
  refine mg_7 C hW dX11_exchange_39 ?_
  refine lv_aload_n hx hb dX11_exchange_42 rfl (lv_at hl 1 rfl) ?_
  refine mg_8 C hW dX11_exchange_43 ?_
  refine lv_iload_n hx hb dX11_exchange_46 rfl (lv_at hl 3 rfl) ?_
  refine ma_8 C hW hin3 dX11_exchange_47 ?_
  refine lv_iload_n hx hb dX11_exchange_48 rfl (lv_at hl 3 rfl) ?_
  obtain ⟨hin8, hq⟩ := hq
  refine ms_7 C hW hin8 dX11_exchange_49 (fun σ_9 H locs eσ_9 hW => ?_)
  replace hq := hq _ eσ_9
  exact hret _ _ _ _ _ dX11_exchange_50 hW hq
set_option maxHeartbeats 4000000 in
set_option maxRecDepth 100000 in
theorem mX11_exchange {l : Launch} {g : MG} {σ : MS} {x1 : Int32} {x2 : Int32} {P : MS → Prop} (hq : qX11_exchange σ x1 x2 P) (sz : Nat) : Met l yX11_exchange (cws yX11_exchange cX11_exchange 4 none) ({ frames := 0, cells := 0, slots := 0, locals := 0 } : Room) (va_Pc [.ref g.2.1, .int x1, .int x2] (WP g.1 (mw g) (mty g) σ sz)) (va_Qv P (WB g.1 (mw g) (mty g) σ sz) (va_A (mw g σ) sz)) 0 0 (va_A (mw g σ) sz) :=
  w_enter (by decide) (Nat.le_of_ble_eq_true rfl) (fun p e s m args below meth c ls C hr hk hn hs hW hl => wX11_exchange C (Nat.le_refl _) (Nat.le_refl _) (fun pc ls σ H locs hd hW hq => w_vret C hs hr hk hW hd hq) hW hl hq)
set_option maxHeartbeats 4000000 in
set_option maxRecDepth 100000 in
theorem kX11_exchange (C : CallFix p m c cc nL s args lwg RX11) {σ : MS} (hW : WI g.1 (mw g) (mty g) A s σ H locs) (hRf : 1 ≤ R.frames) (hRl : 23 ≤ R.locals) (hls : ls.size = nL) (hro : (rest.map fun v => v.category).sum ≤ 8) {x1 : Int32} {x2 : Int32} (hd : decode cc pc = .ok (.invokevirtual 150, 3)) {P : MS → Prop} (hq : qX11_exchange σ x1 x2 P) (kk : ∀ (σ1 : MS) (H : Heap) (locs : List Loc), P σ1 → WI g.1 (mw g) (mty g) A s σ1 H locs → W p l e R s m args below meth c H locs 0 0 Q (F0 m (pc + 3) ls rest)) : W p l e R s m args below meth c H locs 0 0 Q (F0 m pc ls (.int x2 :: .int x1 :: .ref g.2.1 :: rest)) :=
  w_callv hW (w_runV C hW (mX11_exchange hq _) ⟨lwg_at 1145 (by decide +kernel) rfl, lwg_at 74 (by decide +kernel) rfl, lwg_at 1142 (by decide +kernel) rfl⟩ (lwg_at 1144 (by decide +kernel) rfl) (lwg_at 33 (by decide +kernel) rfl) (np := 2) (by decide +kernel) ⟨rfl, rfl⟩ ⟨hRf, hRl⟩ (ci := 12) rfl rfl (q0 := 0) rfl rfl hls rfl hro hd ⟨Nat.zero_le _, Nat.zero_le _⟩) kk
-- X11_change
set_option maxHeartbeats 4000000 in
set_option maxRecDepth 100000 in
theorem wX11_change (C : CallFix p m c cX11_change 3 s args lwg RX11) (hRf : 2 ≤ R.frames) (hRl : 43 ≤ R.locals) {P : Int32 → MS → Prop} (hret : RetI g.1 (mw g) (mty g) A p l e R s m args below meth c 0 0 Q cX11_change P) {σ : MS} {x1 : Int32} {x2 : Int32} {H : Heap} {locs : List Loc} {ls : Array Slot} (hW : WI g.1 (mw g) (mty g) A s σ H locs) (hl : lv_has ls 3 [(0, .ref g.2.1), (1, .int x1), (2, .int x2)]) (hq : qX11_change σ x1 x2 P) : W p l e R s m args below meth c H locs 0 0 Q (F0 m 0 ls []) := by
  have hx := C.1
  have hb := C.2.1
  unfold qX11_change at hq
  refine lv_aload_n hx hb dX11_change_0 rfl (lv_at hl 0 rfl) ?_
  refine lv_iload_n hx hb dX11_change_1 rfl (lv_at hl 1 rfl) ?_
  refine kX11_isSeat C hW (Nat.le_trans (by decide) hRf) (Nat.le_trans (by decide) hRl) hl.1 (Nat.le_of_ble_eq_true rfl) dX11_change_2 hq (fun r_2 σ_1 H locs hq hW => ?_)
  refine lv_if_eq (tgt := 21) hx hb dX11_change_5 (by decide) (fun h => ?_) (fun h => ?_)
  · replace hq := br_pos h hq
    refine lv_bipush (v := (-101)) hx hb dX11_change_21 (by decide) ?_
    exact hret _ _ _ _ _ _ dX11_change_23 hW hq
  · replace hq := br_neg h hq
    refine lv_aload_n hx hb dX11_change_8 rfl (lv_at hl 0 rfl) ?_
    refine lv_iload_n hx hb dX11_change_9 rfl (lv_at hl 2 rfl) ?_
    refine kX11_isSeat C hW (Nat.le_trans (by decide) hRf) (Nat.le_trans (by decide) hRl) hl.1 (Nat.le_of_ble_eq_true rfl) dX11_change_10 hq (fun r_4 σ_3 H locs hq hW => ?_)
    refine lv_if_eq (tgt := 21) hx hb dX11_change_13 (by decide) (fun h => ?_) (fun h => ?_)
    · replace hq := br_pos h hq
      refine lv_bipush (v := (-101)) hx hb dX11_change_21 (by decide) ?_
      exact hret _ _ _ _ _ _ dX11_change_23 hW hq
    · replace hq := br_neg h hq
      refine lv_iload_n hx hb dX11_change_16 rfl (lv_at hl 1 rfl) ?_
      refine lv_iload_n hx hb dX11_change_17 rfl (lv_at hl 2 rfl) ?_
      refine lv_icmp_ne (tgt := 24) hx hb dX11_change_18 (by decide) (fun h => ?_) (fun h => ?_)
      · replace hq := br_neg h hq
        refine lv_aload_n hx hb dX11_change_24 rfl (lv_at hl 0 rfl) ?_
        refine lv_iload_n hx hb dX11_change_25 rfl (lv_at hl 1 rfl) ?_
        refine lv_iload_n hx hb dX11_change_26 rfl (lv_at hl 2 rfl) ?_
        refine kX11_exchange C hW (Nat.le_trans (by decide) hRf) (Nat.le_trans (by decide) hRl) hl.1 (Nat.le_of_ble_eq_true rfl) dX11_change_27 hq (fun σ_5 H locs hq hW => ?_)
        refine lv_aload_n hx hb dX11_change_30 rfl (lv_at hl 0 rfl) ?_
        refine mg_8 C hW dX11_change_31 ?_
        refine lv_iload_n hx hb dX11_change_34 rfl (lv_at hl 1 rfl) ?_
        obtain ⟨hin6, hq⟩ := hq
        refine ma_8 C hW hin6 dX11_change_35 ?_
        exact hret _ _ _ _ _ _ dX11_change_36 hW hq
      · replace hq := br_pos h hq
        refine lv_bipush (v := (-101)) hx hb dX11_change_21 (by decide) ?_
        exact hret _ _ _ _ _ _ dX11_change_23 hW hq
set_option maxHeartbeats 4000000 in
set_option maxRecDepth 100000 in
theorem mX11_change {l : Launch} {g : MG} {σ : MS} {x1 : Int32} {x2 : Int32} {P : Int32 → MS → Prop} (hq : qX11_change σ x1 x2 P) (sz : Nat) : Met l yX11_change (cws yX11_change cX11_change 3 (some .int)) ({ frames := 2, cells := 0, slots := 0, locals := 43 } : Room) (va_Pc [.ref g.2.1, .int x1, .int x2] (WP g.1 (mw g) (mty g) σ sz)) (va_Qi P (WB g.1 (mw g) (mty g) σ sz) (va_A (mw g σ) sz)) 0 0 (va_A (mw g σ) sz) :=
  w_enter (by decide) (Nat.le_of_ble_eq_true rfl) (fun p e s m args below meth c ls C hr hk hn hs hW hl => wX11_change C (Nat.le_refl _) (Nat.le_refl _) (fun pc ls v σ H locs hd hW hq => w_iret C hs hr hk hW hd hq) hW hl hq)
-- X11_soup
set_option maxHeartbeats 4000000 in
set_option maxRecDepth 100000 in
theorem wX11_soup (C : CallFix p m c cX11_soup 4 s args lwg RX11) (hRf : 1 ≤ R.frames) (hRl : 22 ≤ R.locals) {P : Int32 → MS → Prop} (hret : RetI g.1 (mw g) (mty g) A p l e R s m args below meth c 0 0 Q cX11_soup P) {σ : MS} {x1 : Int32} {x2 : Int32} {H : Heap} {locs : List Loc} {ls : Array Slot} (hW : WI g.1 (mw g) (mty g) A s σ H locs) (hl : lv_has ls 4 [(0, .ref g.2.1), (1, .int x1), (2, .int x2)]) (hq : qX11_soup σ x1 x2 P) : W p l e R s m args below meth c H locs 0 0 Q (F0 m 0 ls []) := by
  have hx := C.1
  have hb := C.2.1
  unfold qX11_soup at hq
  refine lv_iload_n hx hb dX11_soup_0 rfl (lv_at hl 1 rfl) ?_
  refine lv_iconst (v := 0) hx hb dX11_soup_1 (by decide) ?_
  refine lv_iconst (v := 4) hx hb dX11_soup_2 (by decide) ?_
  refine kX11_within C hW (Nat.le_trans (by decide) hRf) (Nat.le_trans (by decide) hRl) hl.1 (Nat.le_of_ble_eq_true rfl) dX11_soup_3 hq (fun r_2 σ_1 H locs hq hW => ?_)
  refine lv_if_ne (tgt := 12) hx hb dX11_soup_6 (by decide) (fun h => ?_) (fun h => ?_)
  · replace hq := br_neg h hq
    refine lv_iload_n hx hb dX11_soup_12 rfl (lv_at hl 2 rfl) ?_
    refine lv_iconst (v := 0) hx hb dX11_soup_13 (by decide) ?_
    refine lv_bipush (v := 99) hx hb dX11_soup_14 (by decide) ?_
    refine kX11_within C hW (Nat.le_trans (by decide) hRf) (Nat.le_trans (by decide) hRl) hl.1 (Nat.le_of_ble_eq_true rfl) dX11_soup_16 hq (fun r_4 σ_3 H locs hq hW => ?_)
    refine lv_if_ne (tgt := 25) hx hb dX11_soup_19 (by decide) (fun h => ?_) (fun h => ?_)
    · replace hq := br_neg h hq
      refine lv_aload_n hx hb dX11_soup_25 rfl (lv_at hl 0 rfl) ?_
      refine mg_9 C hW dX11_soup_26 ?_
      refine lv_iload_n hx hb dX11_soup_29 rfl (lv_at hl 1 rfl) ?_
      obtain ⟨hin5, hq⟩ := hq
      refine ma_9 C hW hin5 dX11_soup_30 ?_
      refine lv_topi (fun x3_6 ex3_6 => ?_)
      replace hq := hq _ ex3_6
      refine lv_istore_n (lv' := [(3, .int x3_6), (0, .ref g.2.1), (1, .int x1), (2, .int x2)]) hx hb dX11_soup_31 rfl hl (by decide) rfl (fun ls hl => ?_)
      refine lv_aload_n hx hb dX11_soup_32 rfl (lv_at hl 1 rfl) ?_
      refine mg_9 C hW dX11_soup_33 ?_
      refine lv_iload_n hx hb dX11_soup_36 rfl (lv_at hl 2 rfl) ?_
      refine lv_iload_n hx hb dX11_soup_37 rfl (lv_at hl 3 rfl) ?_
      refine ms_9 C hW hin5 dX11_soup_38 (fun σ_7 H locs eσ_7 hW => ?_)
      replace hq := hq _ eσ_7
      refine lv_iload_n hx hb dX11_soup_39 rfl (lv_at hl 0 rfl) ?_
      exact hret _ _ _ _ _ _ dX11_soup_40 hW hq
    · replace hq := br_pos h hq
      refine lv_bipush (v := (-102)) hx hb dX11_soup_22 (by decide) ?_
      exact hret _ _ _ _ _ _ dX11_soup_24 hW hq
  · replace hq := br_pos h hq
    refine lv_bipush (v := (-101)) hx hb dX11_soup_9 (by decide) ?_
    exact hret _ _ _ _ _ _ dX11_soup_11 hW hq
set_option maxHeartbeats 4000000 in
set_option maxRecDepth 100000 in
theorem mX11_soup {l : Launch} {g : MG} {σ : MS} {x1 : Int32} {x2 : Int32} {P : Int32 → MS → Prop} (hq : qX11_soup σ x1 x2 P) (sz : Nat) : Met l yX11_soup (cws yX11_soup cX11_soup 4 (some .int)) ({ frames := 1, cells := 0, slots := 0, locals := 22 } : Room) (va_Pc [.ref g.2.1, .int x1, .int x2] (WP g.1 (mw g) (mty g) σ sz)) (va_Qi P (WB g.1 (mw g) (mty g) σ sz) (va_A (mw g σ) sz)) 0 0 (va_A (mw g σ) sz) :=
  w_enter (by decide) (Nat.le_of_ble_eq_true rfl) (fun p e s m args below meth c ls C hr hk hn hs hW hl => wX11_soup C (Nat.le_refl _) (Nat.le_refl _) (fun pc ls v σ H locs hd hW hq => w_iret C hs hr hk hW hd hq) hW hl hq)
-- X11_heat
set_option maxHeartbeats 4000000 in
set_option maxRecDepth 100000 in
theorem wX11_heat (C : CallFix p m c cX11_heat 3 s args lwg RX11) (hRf : 1 ≤ R.frames) (hRl : 22 ≤ R.locals) {P : Int32 → MS → Prop} (hret : RetI g.1 (mw g) (mty g) A p l e R s m args below meth c 0 0 Q cX11_heat P) {σ : MS} {x1 : Int32} {H : Heap} {locs : List Loc} {ls : Array Slot} (hW : WI g.1 (mw g) (mty g) A s σ H locs) (hl : lv_has ls 3 [(0, .ref g.2.1), (1, .int x1)]) (hq : qX11_heat σ x1 P) : W p l e R s m args below meth c H locs 0 0 Q (F0 m 0 ls []) := by
  have hx := C.1
  have hb := C.2.1
  unfold qX11_heat at hq
  refine lv_iload_n hx hb dX11_heat_0 rfl (lv_at hl 1 rfl) ?_
  refine lv_iconst (v := 0) hx hb dX11_heat_1 (by decide) ?_
  refine lv_sipush (v := 300) hx hb dX11_heat_2 (by decide) ?_
  refine kX11_within C hW (Nat.le_trans (by decide) hRf) (Nat.le_trans (by decide) hRl) hl.1 (Nat.le_of_ble_eq_true rfl) dX11_heat_5 hq (fun r_2 σ_1 H locs hq hW => ?_)
  refine lv_if_ne (tgt := 14) hx hb dX11_heat_8 (by decide) (fun h => ?_) (fun h => ?_)
  · replace hq := br_neg h hq
    refine lv_aload_n hx hb dX11_heat_14 rfl (lv_at hl 0 rfl) ?_
    refine mg_10 C hW dX11_heat_15 ?_
    refine lv_topi (fun x2_3 ex2_3 => ?_)
    replace hq := hq _ ex2_3
    refine lv_istore_n (lv' := [(2, .int x2_3), (0, .ref g.2.1), (1, .int x1)]) hx hb dX11_heat_18 rfl hl (by decide) rfl (fun ls hl => ?_)
    refine lv_aload_n hx hb dX11_heat_19 rfl (lv_at hl 1 rfl) ?_
    refine lv_iload_n hx hb dX11_heat_20 rfl (lv_at hl 2 rfl) ?_
    refine mp_10 C hW dX11_heat_21 (fun σ_4 H locs eσ_4 hW => ?_)
    replace hq := hq _ eσ_4
    refine lv_iload_n hx hb dX11_heat_24 rfl (lv_at hl 0 rfl) ?_
    exact hret _ _ _ _ _ _ dX11_heat_25 hW hq
  · replace hq := br_pos h hq
    refine lv_bipush (v := (-102)) hx hb dX11_heat_11 (by decide) ?_
    exact hret _ _ _ _ _ _ dX11_heat_13 hW hq
set_option maxHeartbeats 4000000 in
set_option maxRecDepth 100000 in
theorem mX11_heat {l : Launch} {g : MG} {σ : MS} {x1 : Int32} {P : Int32 → MS → Prop} (hq : qX11_heat σ x1 P) (sz : Nat) : Met l yX11_heat (cws yX11_heat cX11_heat 3 (some .int)) ({ frames := 1, cells := 0, slots := 0, locals := 22 } : Room) (va_Pc [.ref g.2.1, .int x1] (WP g.1 (mw g) (mty g) σ sz)) (va_Qi P (WB g.1 (mw g) (mty g) σ sz) (va_A (mw g σ) sz)) 0 0 (va_A (mw g σ) sz) :=
  w_enter (by decide) (Nat.le_of_ble_eq_true rfl) (fun p e s m args below meth c ls C hr hk hn hs hW hl => wX11_heat C (Nat.le_refl _) (Nat.le_refl _) (fun pc ls v σ H locs hd hW hq => w_iret C hs hr hk hW hd hq) hW hl hq)
-- X11_feast
set_option maxHeartbeats 4000000 in
set_option maxRecDepth 100000 in
theorem wX11_feast (C : CallFix p m c cX11_feast 3 s args lwg RX11) (hRf : 0 ≤ R.frames) (hRl : 0 ≤ R.locals) {P : Int32 → MS → Prop} (hret : RetI g.1 (mw g) (mty g) A p l e R s m args below meth c 0 0 Q cX11_feast P) {σ : MS} {x1 : Int32} {H : Heap} {locs : List Loc} {ls : Array Slot} (hW : WI g.1 (mw g) (mty g) A s σ H locs) (hl : lv_has ls 3 [(0, .ref g.2.1), (1, .int x1)]) (hq : qX11_feast σ x1 P) : W p l e R s m args below meth c H locs 0 0 Q (F0 m 0 ls []) := by
  have hx := C.1
  have hb := C.2.1
  unfold qX11_feast at hq
  refine lv_aload_n hx hb dX11_feast_0 rfl (lv_at hl 0 rfl) ?_
  refine mg_11 C hW dX11_feast_1 ?_
  refine (fun (K : ∀ v_1 : Int32, v_1 = ((if (σ.1 11) = 0 then 0 else 1) : Int32) → W p l e R s m args below meth c H locs 0 0 Q (F0 m 12 ls (.int v_1 :: []))) => ?_) ?_
  · refine lv_if_eq (tgt := 11) hx hb dX11_feast_4 (by decide) (fun h4 => ?_) (fun h4 => ?_)
    · refine lv_iconst (v := 0) hx hb dX11_feast_11 (by decide) ?_
      exact K _ (by rw [if_pos h4])
    · refine lv_iconst (v := 1) hx hb dX11_feast_7 (by decide) ?_
      refine lv_goto (tgt := 12) hx hb dX11_feast_8 (by decide) ?_
      exact K _ (by rw [if_neg h4])
  intro v_1 ev_1
  replace hq := hq _ ev_1
  refine lv_istore_n (lv' := [(2, .int v_1), (0, .ref g.2.1), (1, .int x1)]) hx hb dX11_feast_12 rfl hl (by decide) rfl (fun ls hl => ?_)
  refine lv_aload_n hx hb dX11_feast_13 rfl (lv_at hl 1 rfl) ?_
  refine lv_iload_n hx hb dX11_feast_14 rfl (lv_at hl 2 rfl) ?_
  obtain ⟨hib, hq⟩ := hq
  refine mp_11 C hW hib dX11_feast_15 (fun σ_2 H locs eσ_2 hW => ?_)
  replace hq := hq _ eσ_2
  refine lv_iload_n hx hb dX11_feast_18 rfl (lv_at hl 0 rfl) ?_
  exact hret _ _ _ _ _ _ dX11_feast_19 hW hq
set_option maxHeartbeats 4000000 in
set_option maxRecDepth 100000 in
theorem mX11_feast {l : Launch} {g : MG} {σ : MS} {x1 : Int32} {P : Int32 → MS → Prop} (hq : qX11_feast σ x1 P) (sz : Nat) : Met l yX11_feast (cws yX11_feast cX11_feast 3 (some .int)) ({ frames := 0, cells := 0, slots := 0, locals := 0 } : Room) (va_Pc [.ref g.2.1, .int x1] (WP g.1 (mw g) (mty g) σ sz)) (va_Qi P (WB g.1 (mw g) (mty g) σ sz) (va_A (mw g σ) sz)) 0 0 (va_A (mw g σ) sz) :=
  w_enter (by decide) (Nat.le_of_ble_eq_true rfl) (fun p e s m args below meth c ls C hr hk hn hs hW hl => wX11_feast C (Nat.le_refl _) (Nat.le_refl _) (fun pc ls v σ H locs hd hW hq => w_iret C hs hr hk hW hd hq) hW hl hq)
-- X11_useVow
set_option maxHeartbeats 4000000 in
set_option maxRecDepth 100000 in
theorem wX11_useVow (C : CallFix p m c cX11_useVow 2 s args lwg RX11) (hRf : 0 ≤ R.frames) (hRl : 0 ≤ R.locals) {P : MS → Prop} (hret : RetV g.1 (mw g) (mty g) A p l e R s m args below meth c 0 0 Q cX11_useVow P) {σ : MS} {x1 : Int32} {H : Heap} {locs : List Loc} {ls : Array Slot} (hW : WI g.1 (mw g) (mty g) A s σ H locs) (hl : lv_has ls 2 [(0, .ref g.2.1), (1, .int x1)]) (hq : qX11_useVow σ x1 P) : W p l e R s m args below meth c H locs 0 0 Q (F0 m 0 ls []) := by
  have hx := C.1
  have hb := C.2.1
  unfold qX11_useVow at hq
  refine lv_aload_n hx hb dX11_useVow_0 rfl (lv_at hl 0 rfl) ?_
  refine lv_aload_n hx hb dX11_useVow_1 rfl (lv_at hl 0 rfl) ?_
  refine mg_13 C hW dX11_useVow_2 ?_
  refine lv_iload_n hx hb dX11_useVow_5 rfl (lv_at hl 1 rfl) ?_
  obtain ⟨hin1, hq⟩ := hq
  refine ma_13 C hW hin1 dX11_useVow_6 ?_
  obtain ⟨hib, hq⟩ := hq
  refine mp_32 C hW hib dX11_useVow_7 (fun σ_2 H locs eσ_2 hW => ?_)
  replace hq := hq _ eσ_2
  refine lv_aload_n hx hb dX11_useVow_10 rfl (lv_at hl 0 rfl) ?_
  refine lv_aload_n hx hb dX11_useVow_11 rfl (lv_at hl 0 rfl) ?_
  refine mg_14 C hW dX11_useVow_12 ?_
  refine lv_iload_n hx hb dX11_useVow_15 rfl (lv_at hl 1 rfl) ?_
  refine ma_14 C hW hin1 dX11_useVow_16 ?_
  refine mp_33 C hW dX11_useVow_17 (fun σ_3 H locs eσ_3 hW => ?_)
  replace hq := hq _ eσ_3
  refine lv_aload_n hx hb dX11_useVow_20 rfl (lv_at hl 0 rfl) ?_
  refine lv_aload_n hx hb dX11_useVow_21 rfl (lv_at hl 0 rfl) ?_
  refine mg_15 C hW dX11_useVow_22 ?_
  refine lv_iload_n hx hb dX11_useVow_25 rfl (lv_at hl 1 rfl) ?_
  refine ma_15 C hW hin1 dX11_useVow_26 ?_
  obtain ⟨hib, hq⟩ := hq
  refine mp_34 C hW hib dX11_useVow_27 (fun σ_4 H locs eσ_4 hW => ?_)
  replace hq := hq _ eσ_4
  refine lv_aload_n hx hb dX11_useVow_30 rfl (lv_at hl 0 rfl) ?_
  refine lv_aload_n hx hb dX11_useVow_31 rfl (lv_at hl 0 rfl) ?_
  refine mg_16 C hW dX11_useVow_32 ?_
  refine lv_iload_n hx hb dX11_useVow_35 rfl (lv_at hl 1 rfl) ?_
  refine ma_16 C hW hin1 dX11_useVow_36 ?_
  refine mp_35 C hW dX11_useVow_37 (fun σ_5 H locs eσ_5 hW => ?_)
  replace hq := hq _ eσ_5
  refine lv_aload_n hx hb dX11_useVow_40 rfl (lv_at hl 0 rfl) ?_
  refine lv_iconst (v := 0) hx hb dX11_useVow_41 (by decide) ?_
  refine mp_36 C hW dX11_useVow_42 (fun σ_6 H locs eσ_6 hW => ?_)
  replace hq := hq _ eσ_6
  refine lv_aload_n hx hb dX11_useVow_45 rfl (lv_at hl 0 rfl) ?_
  refine lv_iconst (v := (-1)) hx hb dX11_useVow_46 (by decide) ?_
  refine mp_37 C hW dX11_useVow_47 (fun σ_7 H locs eσ_7 hW => ?_)
  replace hq := hq _ eσ_7
  exact hret _ _ _ _ _ dX11_useVow_50 hW hq
set_option maxHeartbeats 4000000 in
set_option maxRecDepth 100000 in
theorem mX11_useVow {l : Launch} {g : MG} {σ : MS} {x1 : Int32} {P : MS → Prop} (hq : qX11_useVow σ x1 P) (sz : Nat) : Met l yX11_useVow (cws yX11_useVow cX11_useVow 2 none) ({ frames := 0, cells := 0, slots := 0, locals := 0 } : Room) (va_Pc [.ref g.2.1, .int x1] (WP g.1 (mw g) (mty g) σ sz)) (va_Qv P (WB g.1 (mw g) (mty g) σ sz) (va_A (mw g σ) sz)) 0 0 (va_A (mw g σ) sz) :=
  w_enter (by decide) (Nat.le_of_ble_eq_true rfl) (fun p e s m args below meth c ls C hr hk hn hs hW hl => wX11_useVow C (Nat.le_refl _) (Nat.le_refl _) (fun pc ls σ H locs hd hW hq => w_vret C hs hr hk hW hd hq) hW hl hq)
set_option maxHeartbeats 4000000 in
set_option maxRecDepth 100000 in
theorem kX11_useVow (C : CallFix p m c cc nL s args lwg RX11) {σ : MS} (hW : WI g.1 (mw g) (mty g) A s σ H locs) (hRf : 1 ≤ R.frames) (hRl : 21 ≤ R.locals) (hls : ls.size = nL) (hro : (rest.map fun v => v.category).sum ≤ 8) {x1 : Int32} (hd : decode cc pc = .ok (.invokevirtual 230, 3)) {P : MS → Prop} (hq : qX11_useVow σ x1 P) (kk : ∀ (σ1 : MS) (H : Heap) (locs : List Loc), P σ1 → WI g.1 (mw g) (mty g) A s σ1 H locs → W p l e R s m args below meth c H locs 0 0 Q (F0 m (pc + 3) ls rest)) : W p l e R s m args below meth c H locs 0 0 Q (F0 m pc ls (.int x1 :: .ref g.2.1 :: rest)) :=
  w_callv hW (w_runV C hW (mX11_useVow hq _) ⟨lwg_at 1177 (by decide +kernel) rfl, lwg_at 74 (by decide +kernel) rfl, lwg_at 1174 (by decide +kernel) rfl⟩ (lwg_at 1176 (by decide +kernel) rfl) (lwg_at 37 (by decide +kernel) rfl) (np := 1) (by decide +kernel) ⟨rfl, rfl⟩ ⟨hRf, hRl⟩ (ci := 12) rfl rfl (q0 := 0) rfl rfl hls rfl hro hd ⟨Nat.zero_le _, Nat.zero_le _⟩) kk
-- X11_useStores
set_option maxHeartbeats 4000000 in
set_option maxRecDepth 100000 in
theorem wX11_useStores_L2 (C : CallFix p m c cX11_useStores 2 s args lwg RX11) (hRf : 0 ≤ R.frames) (hRl : 0 ≤ R.locals) {P : MS → Prop} (hret : RetV g.1 (mw g) (mty g) A p l e R s m args below meth c 0 0 Q cX11_useStores P) : ∀ (n : Nat) (σ : MS) (x1 : Int32) (H : Heap) (locs : List Loc) (ls : Array Slot), WI g.1 (mw g) (mty g) A s σ H locs → lv_has ls 2 [(0, .ref g.2.1), (1, .int x1)] → qX11_useStores_L2  P n σ x1 → W p l e R s m args below meth c H locs 0 0 Q (F0 m 2 ls []) := by
  have hx := C.1
  have hb := C.2.1
  intro n
  induction n with
  | zero =>
    intro σ x1 H locs ls hW hl hq
    rw [qX11_useStores_L2] at hq
    exact hq.elim
  | succ n ih =>
    intro σ x1 H locs ls hW hl hq
    rw [qX11_useStores_L2] at hq
    refine lv_iload_n hx hb dX11_useStores_2 rfl (lv_at hl 1 rfl) ?_
    refine lv_bipush (v := 10) hx hb dX11_useStores_3 (by decide) ?_
    refine lv_icmp_ge (tgt := 26) hx hb dX11_useStores_5 (by decide) (fun h => ?_) (fun h => ?_)
    · replace hq := br_pos h hq
      exact hret _ _ _ _ _ dX11_useStores_26 hW hq
    · replace hq := br_neg h hq
      refine lv_aload_n hx hb dX11_useStores_8 rfl (lv_at hl 0 rfl) ?_
      refine mg_38 C hW dX11_useStores_9 ?_
      refine lv_iload_n hx hb dX11_useStores_12 rfl (lv_at hl 1 rfl) ?_
      refine lv_aload_n hx hb dX11_useStores_13 rfl (lv_at hl 0 rfl) ?_
      refine mg_6 C hW dX11_useStores_14 ?_
      refine lv_iload_n hx hb dX11_useStores_17 rfl (lv_at hl 1 rfl) ?_
      obtain ⟨hin1, hq⟩ := hq
      refine ma_6 C hW hin1 dX11_useStores_18 ?_
      refine ms_38 C hW hin1 dX11_useStores_19 (fun σ_2 H locs eσ_2 hW => ?_)
      replace hq := hq _ eσ_2
      obtain ⟨x1_3, ex1_3⟩ : ∃ y : Int32, y = x1 + 1 := ⟨_, rfl⟩
      replace hq := hq _ ex1_3
      refine lv_iinc (v := x1_3) (lv' := [(1, .int x1_3), (0, .ref g.2.1)]) hx hb dX11_useStores_20 hl (k := 1) rfl (by rw [ex1_3]; rfl) (by decide) rfl (fun ls hl => ?_)
      refine lv_goto (tgt := 2) hx hb dX11_useStores_23 (by decide) ?_
      exact ih _ _ _ _ _ hW (lv_sub hl [1, 0] rfl) hq
set_option maxHeartbeats 4000000 in
set_option maxRecDepth 100000 in
theorem wX11_useStores (C : CallFix p m c cX11_useStores 2 s args lwg RX11) (hRf : 0 ≤ R.frames) (hRl : 0 ≤ R.locals) {P : MS → Prop} (hret : RetV g.1 (mw g) (mty g) A p l e R s m args below meth c 0 0 Q cX11_useStores P) {σ : MS} {H : Heap} {locs : List Loc} {ls : Array Slot} (hW : WI g.1 (mw g) (mty g) A s σ H locs) (hl : lv_has ls 2 [(0, .ref g.2.1)]) (hq : qX11_useStores σ  P) : W p l e R s m args below meth c H locs 0 0 Q (F0 m 0 ls []) := by
  have hx := C.1
  have hb := C.2.1
  unfold qX11_useStores at hq
  refine lv_iconst (v := 0) hx hb dX11_useStores_0 (by decide) ?_
  refine lv_istore_n (lv' := [(1, .int 0), (0, .ref g.2.1)]) hx hb dX11_useStores_1 rfl hl (by decide) rfl (fun ls hl => ?_)
  obtain ⟨f2, hq⟩ := hq
  exact wX11_useStores_L2 C hRf hRl hret f2 _ _ _ _ _ hW (lv_sub hl [1, 0] rfl) hq
set_option maxHeartbeats 4000000 in
set_option maxRecDepth 100000 in
theorem mX11_useStores {l : Launch} {g : MG} {σ : MS} {P : MS → Prop} (hq : qX11_useStores σ  P) (sz : Nat) : Met l yX11_useStores (cws yX11_useStores cX11_useStores 2 none) ({ frames := 0, cells := 0, slots := 0, locals := 0 } : Room) (va_Pc [.ref g.2.1] (WP g.1 (mw g) (mty g) σ sz)) (va_Qv P (WB g.1 (mw g) (mty g) σ sz) (va_A (mw g σ) sz)) 0 0 (va_A (mw g σ) sz) :=
  w_enter (by decide) (Nat.le_of_ble_eq_true rfl) (fun p e s m args below meth c ls C hr hk hn hs hW hl => wX11_useStores C (Nat.le_refl _) (Nat.le_refl _) (fun pc ls σ H locs hd hW hq => w_vret C hs hr hk hW hd hq) hW hl hq)
set_option maxHeartbeats 4000000 in
set_option maxRecDepth 100000 in
theorem kX11_useStores (C : CallFix p m c cc nL s args lwg RX11) {σ : MS} (hW : WI g.1 (mw g) (mty g) A s σ H locs) (hRf : 1 ≤ R.frames) (hRl : 21 ≤ R.locals) (hls : ls.size = nL) (hro : (rest.map fun v => v.category).sum ≤ 8) (hd : decode cc pc = .ok (.invokevirtual 233, 3)) {P : MS → Prop} (hq : qX11_useStores σ  P) (kk : ∀ (σ1 : MS) (H : Heap) (locs : List Loc), P σ1 → WI g.1 (mw g) (mty g) A s σ1 H locs → W p l e R s m args below meth c H locs 0 0 Q (F0 m (pc + 3) ls rest)) : W p l e R s m args below meth c H locs 0 0 Q (F0 m pc ls (.ref g.2.1 :: rest)) :=
  w_callv hW (w_runV C hW (mX11_useStores hq _) ⟨lwg_at 1181 (by decide +kernel) rfl, lwg_at 74 (by decide +kernel) rfl, lwg_at 1178 (by decide +kernel) rfl⟩ (lwg_at 1180 (by decide +kernel) rfl) (lwg_at 38 (by decide +kernel) rfl) (np := 0) (by decide +kernel) ⟨rfl, rfl⟩ ⟨hRf, hRl⟩ (ci := 12) rfl rfl (q0 := 0) rfl rfl hls rfl hro hd ⟨Nat.zero_le _, Nat.zero_le _⟩) kk
-- X11_beginDay
set_option maxHeartbeats 4000000 in
set_option maxRecDepth 100000 in
theorem wX11_beginDay_L37 (C : CallFix p m c cX11_beginDay 2 s args lwg RX11) (hRf : 0 ≤ R.frames) (hRl : 0 ≤ R.locals) {P : MS → Prop} (hret : RetV g.1 (mw g) (mty g) A p l e R s m args below meth c 0 0 Q cX11_beginDay P) {e60 : MS → Prop} (he60 : ∀ (σ : MS) (H : Heap) (locs : List Loc) (ls : Array Slot), WI g.1 (mw g) (mty g) A s σ H locs → lv_has ls 2 [(0, .ref g.2.1)] → e60 σ → W p l e R s m args below meth c H locs 0 0 Q (F0 m 60 ls [])) : ∀ (n : Nat) (σ : MS) (x1 : Int32) (H : Heap) (locs : List Loc) (ls : Array Slot), WI g.1 (mw g) (mty g) A s σ H locs → lv_has ls 2 [(0, .ref g.2.1), (1, .int x1)] → qX11_beginDay_L37 e60 P n σ x1 → W p l e R s m args below meth c H locs 0 0 Q (F0 m 37 ls []) := by
  have hx := C.1
  have hb := C.2.1
  intro n
  induction n with
  | zero =>
    intro σ x1 H locs ls hW hl hq
    rw [qX11_beginDay_L37] at hq
    exact hq.elim
  | succ n ih =>
    intro σ x1 H locs ls hW hl hq
    rw [qX11_beginDay_L37] at hq
    refine lv_iload_n hx hb dX11_beginDay_37 rfl (lv_at hl 1 rfl) ?_
    refine lv_iconst (v := 5) hx hb dX11_beginDay_38 (by decide) ?_
    refine lv_icmp_ge (tgt := 60) hx hb dX11_beginDay_39 (by decide) (fun h => ?_) (fun h => ?_)
    · replace hq := br_pos h hq
      exact he60 _ _ _ _ hW (lv_sub hl [0] rfl) hq
    · replace hq := br_neg h hq
      refine lv_aload_n hx hb dX11_beginDay_42 rfl (lv_at hl 0 rfl) ?_
      refine mg_39 C hW dX11_beginDay_43 ?_
      refine lv_iload_n hx hb dX11_beginDay_46 rfl (lv_at hl 1 rfl) ?_
      refine lv_aload_n hx hb dX11_beginDay_47 rfl (lv_at hl 0 rfl) ?_
      refine mg_9 C hW dX11_beginDay_48 ?_
      refine lv_iload_n hx hb dX11_beginDay_51 rfl (lv_at hl 1 rfl) ?_
      obtain ⟨hin1, hq⟩ := hq
      refine ma_9 C hW hin1 dX11_beginDay_52 ?_
      refine ms_39 C hW hin1 dX11_beginDay_53 (fun σ_2 H locs eσ_2 hW => ?_)
      replace hq := hq _ eσ_2
      obtain ⟨x1_3, ex1_3⟩ : ∃ y : Int32, y = x1 + 1 := ⟨_, rfl⟩
      replace hq := hq _ ex1_3
      refine lv_iinc (v := x1_3) (lv' := [(1, .int x1_3), (0, .ref g.2.1)]) hx hb dX11_beginDay_54 hl (k := 1) rfl (by rw [ex1_3]; rfl) (by decide) rfl (fun ls hl => ?_)
      refine lv_goto (tgt := 37) hx hb dX11_beginDay_57 (by decide) ?_
      exact ih _ _ _ _ _ hW (lv_sub hl [1, 0] rfl) hq
set_option maxHeartbeats 4000000 in
set_option maxRecDepth 100000 in
theorem wX11_beginDay_L2 (C : CallFix p m c cX11_beginDay 2 s args lwg RX11) (hRf : 0 ≤ R.frames) (hRl : 0 ≤ R.locals) {P : MS → Prop} (hret : RetV g.1 (mw g) (mty g) A p l e R s m args below meth c 0 0 Q cX11_beginDay P) {e35 : MS → Prop} (he35 : ∀ (σ : MS) (H : Heap) (locs : List Loc) (ls : Array Slot), WI g.1 (mw g) (mty g) A s σ H locs → lv_has ls 2 [(0, .ref g.2.1)] → e35 σ → W p l e R s m args below meth c H locs 0 0 Q (F0 m 35 ls [])) : ∀ (n : Nat) (σ : MS) (x1 : Int32) (H : Heap) (locs : List Loc) (ls : Array Slot), WI g.1 (mw g) (mty g) A s σ H locs → lv_has ls 2 [(0, .ref g.2.1), (1, .int x1)] → qX11_beginDay_L2 e35 P n σ x1 → W p l e R s m args below meth c H locs 0 0 Q (F0 m 2 ls []) := by
  have hx := C.1
  have hb := C.2.1
  intro n
  induction n with
  | zero =>
    intro σ x1 H locs ls hW hl hq
    rw [qX11_beginDay_L2] at hq
    exact hq.elim
  | succ n ih =>
    intro σ x1 H locs ls hW hl hq
    rw [qX11_beginDay_L2] at hq
    refine lv_iload_n hx hb dX11_beginDay_2 rfl (lv_at hl 1 rfl) ?_
    refine lv_bipush (v := 10) hx hb dX11_beginDay_3 (by decide) ?_
    refine lv_icmp_ge (tgt := 35) hx hb dX11_beginDay_5 (by decide) (fun h => ?_) (fun h => ?_)
    · replace hq := br_pos h hq
      exact he35 _ _ _ _ hW (lv_sub hl [0] rfl) hq
    · replace hq := br_neg h hq
      refine lv_aload_n hx hb dX11_beginDay_8 rfl (lv_at hl 0 rfl) ?_
      refine mg_45 C hW dX11_beginDay_9 ?_
      refine lv_iload_n hx hb dX11_beginDay_12 rfl (lv_at hl 1 rfl) ?_
      refine lv_iconst (v := 0) hx hb dX11_beginDay_13 (by decide) ?_
      obtain ⟨hin1, hq⟩ := hq
      refine ms_45 C hW hin1 dX11_beginDay_14 (fun σ_2 H locs eσ_2 hW => ?_)
      replace hq := hq _ eσ_2
      refine lv_aload_n hx hb dX11_beginDay_15 rfl (lv_at hl 0 rfl) ?_
      refine mg_46 C hW dX11_beginDay_16 ?_
      refine lv_iload_n hx hb dX11_beginDay_19 rfl (lv_at hl 1 rfl) ?_
      refine lv_iconst (v := 0) hx hb dX11_beginDay_20 (by decide) ?_
      refine ms_46 C hW hin1 dX11_beginDay_21 (fun σ_3 H locs eσ_3 hW => ?_)
      replace hq := hq _ eσ_3
      refine lv_aload_n hx hb dX11_beginDay_22 rfl (lv_at hl 0 rfl) ?_
      refine mg_47 C hW dX11_beginDay_23 ?_
      refine lv_iload_n hx hb dX11_beginDay_26 rfl (lv_at hl 1 rfl) ?_
      refine lv_iconst (v := 0) hx hb dX11_beginDay_27 (by decide) ?_
      refine ms_47 C hW hin1 dX11_beginDay_28 (fun σ_4 H locs eσ_4 hW => ?_)
      replace hq := hq _ eσ_4
      obtain ⟨x1_5, ex1_5⟩ : ∃ y : Int32, y = x1 + 1 := ⟨_, rfl⟩
      replace hq := hq _ ex1_5
      refine lv_iinc (v := x1_5) (lv' := [(1, .int x1_5), (0, .ref g.2.1)]) hx hb dX11_beginDay_29 hl (k := 1) rfl (by rw [ex1_5]; rfl) (by decide) rfl (fun ls hl => ?_)
      refine lv_goto (tgt := 2) hx hb dX11_beginDay_32 (by decide) ?_
      exact ih _ _ _ _ _ hW (lv_sub hl [1, 0] rfl) hq
set_option maxHeartbeats 4000000 in
set_option maxRecDepth 100000 in
theorem wX11_beginDay (C : CallFix p m c cX11_beginDay 2 s args lwg RX11) (hRf : 0 ≤ R.frames) (hRl : 0 ≤ R.locals) {P : MS → Prop} (hret : RetV g.1 (mw g) (mty g) A p l e R s m args below meth c 0 0 Q cX11_beginDay P) {σ : MS} {H : Heap} {locs : List Loc} {ls : Array Slot} (hW : WI g.1 (mw g) (mty g) A s σ H locs) (hl : lv_has ls 2 [(0, .ref g.2.1)]) (hq : qX11_beginDay σ  P) : W p l e R s m args below meth c H locs 0 0 Q (F0 m 0 ls []) := by
  have hx := C.1
  have hb := C.2.1
  unfold qX11_beginDay at hq
  refine lv_iconst (v := 0) hx hb dX11_beginDay_0 (by decide) ?_
  refine lv_istore_n (lv' := [(1, .int 0), (0, .ref g.2.1)]) hx hb dX11_beginDay_1 rfl hl (by decide) rfl (fun ls hl => ?_)
  obtain ⟨f2, hq⟩ := hq
  refine wX11_beginDay_L2 C hRf hRl hret ?_ f2 _ _ _ _ _ hW (lv_sub hl [1, 0] rfl) hq
  · intro σ_1 H locs ls hW hl hq
    refine lv_iconst (v := 0) hx hb dX11_beginDay_35 (by decide) ?_
    refine lv_istore_n (lv' := [(1, .int 0), (0, .ref g.2.1)]) hx hb dX11_beginDay_36 rfl hl (by decide) rfl (fun ls hl => ?_)
    obtain ⟨f37, hq⟩ := hq
    refine wX11_beginDay_L37 C hRf hRl hret ?_ f37 _ _ _ _ _ hW (lv_sub hl [1, 0] rfl) hq
    · intro σ_2 H locs ls hW hl hq
      refine lv_aload_n hx hb dX11_beginDay_60 rfl (lv_at hl 0 rfl) ?_
      refine lv_aload_n hx hb dX11_beginDay_61 rfl (lv_at hl 0 rfl) ?_
      refine mg_10 C hW dX11_beginDay_62 ?_
      refine mp_40 C hW dX11_beginDay_65 (fun σ_3 H locs eσ_3 hW => ?_)
      replace hq := hq _ eσ_3
      refine lv_aload_n hx hb dX11_beginDay_68 rfl (lv_at hl 0 rfl) ?_
      refine lv_iconst (v := 0) hx hb dX11_beginDay_69 (by decide) ?_
      refine mp_41 C hW dX11_beginDay_70 (fun σ_4 H locs eσ_4 hW => ?_)
      replace hq := hq _ eσ_4
      refine lv_aload_n hx hb dX11_beginDay_73 rfl (lv_at hl 0 rfl) ?_
      refine lv_iconst (v := 0) hx hb dX11_beginDay_74 (by decide) ?_
      refine mp_42 C hW dX11_beginDay_75 (fun σ_5 H locs eσ_5 hW => ?_)
      replace hq := hq _ eσ_5
      refine lv_aload_n hx hb dX11_beginDay_78 rfl (lv_at hl 0 rfl) ?_
      refine lv_iconst (v := 0) hx hb dX11_beginDay_79 (by decide) ?_
      refine mp_43 C hW dX11_beginDay_80 (fun σ_6 H locs eσ_6 hW => ?_)
      replace hq := hq _ eσ_6
      refine lv_aload_n hx hb dX11_beginDay_83 rfl (lv_at hl 0 rfl) ?_
      refine lv_iconst (v := 0) hx hb dX11_beginDay_84 (by decide) ?_
      refine mp_44 C hW dX11_beginDay_85 (fun σ_7 H locs eσ_7 hW => ?_)
      replace hq := hq _ eσ_7
      exact hret _ _ _ _ _ dX11_beginDay_88 hW hq
set_option maxHeartbeats 4000000 in
set_option maxRecDepth 100000 in
theorem mX11_beginDay {l : Launch} {g : MG} {σ : MS} {P : MS → Prop} (hq : qX11_beginDay σ  P) (sz : Nat) : Met l yX11_beginDay (cws yX11_beginDay cX11_beginDay 2 none) ({ frames := 0, cells := 0, slots := 0, locals := 0 } : Room) (va_Pc [.ref g.2.1] (WP g.1 (mw g) (mty g) σ sz)) (va_Qv P (WB g.1 (mw g) (mty g) σ sz) (va_A (mw g σ) sz)) 0 0 (va_A (mw g σ) sz) :=
  w_enter (by decide) (Nat.le_of_ble_eq_true rfl) (fun p e s m args below meth c ls C hr hk hn hs hW hl => wX11_beginDay C (Nat.le_refl _) (Nat.le_refl _) (fun pc ls σ H locs hd hW hq => w_vret C hs hr hk hW hd hq) hW hl hq)
set_option maxHeartbeats 4000000 in
set_option maxRecDepth 100000 in
theorem kX11_beginDay (C : CallFix p m c cc nL s args lwg RX11) {σ : MS} (hW : WI g.1 (mw g) (mty g) A s σ H locs) (hRf : 1 ≤ R.frames) (hRl : 21 ≤ R.locals) (hls : ls.size = nL) (hro : (rest.map fun v => v.category).sum ≤ 8) (hd : decode cc pc = .ok (.invokevirtual 208, 3)) {P : MS → Prop} (hq : qX11_beginDay σ  P) (kk : ∀ (σ1 : MS) (H : Heap) (locs : List Loc), P σ1 → WI g.1 (mw g) (mty g) A s σ1 H locs → W p l e R s m args below meth c H locs 0 0 Q (F0 m (pc + 3) ls rest)) : W p l e R s m args below meth c H locs 0 0 Q (F0 m pc ls (.ref g.2.1 :: rest)) :=
  w_callv hW (w_runV C hW (mX11_beginDay hq _) ⟨lwg_at 1190 (by decide +kernel) rfl, lwg_at 74 (by decide +kernel) rfl, lwg_at 1187 (by decide +kernel) rfl⟩ (lwg_at 1189 (by decide +kernel) rfl) (lwg_at 40 (by decide +kernel) rfl) (np := 0) (by decide +kernel) ⟨rfl, rfl⟩ ⟨hRf, hRl⟩ (ci := 12) rfl rfl (q0 := 0) rfl rfl hls rfl hro hd ⟨Nat.zero_le _, Nat.zero_le _⟩) kk
-- X11_isSkipped
set_option maxHeartbeats 4000000 in
set_option maxRecDepth 100000 in
theorem wX11_isSkipped_J67 (C : CallFix p m c cX11_isSkipped 3 s args lwg RX11) (hRf : 1 ≤ R.frames) (hRl : 21 ≤ R.locals) {P : Int32 → MS → Prop} (hret : RetZ g.1 (mw g) (mty g) A p l e R s m args below meth c 0 0 Q cX11_isSkipped P) {σ : MS} {H : Heap} {locs : List Loc} {ls : Array Slot} (hW : WI g.1 (mw g) (mty g) A s σ H locs) (hl : lv_has ls 3 [(0, .ref g.2.1)]) (hq : qX11_isSkipped_J67  P σ ) : W p l e R s m args below meth c H locs 0 0 Q (F0 m 67 ls []) := by
  have hx := C.1
  have hb := C.2.1
  unfold qX11_isSkipped_J67 at hq
  refine lv_iconst (v := 1) hx hb dX11_isSkipped_67 (by decide) ?_
  refine lv_goto (tgt := 72) hx hb dX11_isSkipped_68 (by decide) ?_
  exact hret _ _ _ _ _ _ dX11_isSkipped_72 hW isB_1 hq
set_option maxHeartbeats 4000000 in
set_option maxRecDepth 100000 in
theorem wX11_isSkipped_J42 (C : CallFix p m c cX11_isSkipped 3 s args lwg RX11) (hRf : 1 ≤ R.frames) (hRl : 21 ≤ R.locals) {P : Int32 → MS → Prop} (hret : RetZ g.1 (mw g) (mty g) A p l e R s m args below meth c 0 0 Q cX11_isSkipped P) {σ : MS} {x1 : Int32} {y0 : Int32} {H : Heap} {locs : List Loc} {ls : Array Slot} (hW : WI g.1 (mw g) (mty g) A s σ H locs) (hl : lv_has ls 3 [(0, .ref g.2.1), (1, .int x1)]) (hq : qX11_isSkipped_J42  P σ x1 y0) : W p l e R s m args below meth c H locs 0 0 Q (F0 m 42 ls [.int y0]) := by
  have hx := C.1
  have hb := C.2.1
  unfold qX11_isSkipped_J42 at hq
  refine lv_istore_n (lv' := [(2, .int y0), (0, .ref g.2.1), (1, .int x1)]) hx hb dX11_isSkipped_42 rfl hl (by decide) rfl (fun ls hl => ?_)
  refine lv_iload_n hx hb dX11_isSkipped_43 rfl (lv_at hl 0 rfl) ?_
  refine lv_if_ne (tgt := 67) hx hb dX11_isSkipped_44 (by decide) (fun h => ?_) (fun h => ?_)
  · replace hq := br_neg h hq
    exact wX11_isSkipped_J67 C hRf hRl hret  hW (lv_sub hl [1] rfl) hq
  · replace hq := br_pos h hq
    refine lv_aload_n hx hb dX11_isSkipped_47 rfl (lv_at hl 1 rfl) ?_
    refine mg_35 C hW dX11_isSkipped_48 ?_
    refine lv_if_le (tgt := 71) hx hb dX11_isSkipped_51 (by decide) (fun h => ?_) (fun h => ?_)
    · replace hq := br_pos h hq
      refine lv_iconst (v := 0) hx hb dX11_isSkipped_71 (by decide) ?_
      exact hret _ _ _ _ _ _ dX11_isSkipped_72 hW isB_0 hq
    · replace hq := br_neg h hq
      refine lv_aload_n hx hb dX11_isSkipped_54 rfl (lv_at hl 1 rfl) ?_
      refine mg_46 C hW dX11_isSkipped_55 ?_
      refine lv_iload_n hx hb dX11_isSkipped_58 rfl (lv_at hl 2 rfl) ?_
      obtain ⟨hin1, hq⟩ := hq
      refine ma_46 C hW hin1 dX11_isSkipped_59 ?_
      refine lv_aload_n hx hb dX11_isSkipped_60 rfl (lv_at hl 1 rfl) ?_
      refine mg_35 C hW dX11_isSkipped_61 ?_
      refine lv_icmp_lt (tgt := 71) hx hb dX11_isSkipped_64 (by decide) (fun h => ?_) (fun h => ?_)
      · replace hq := br_pos h hq
        refine lv_iconst (v := 0) hx hb dX11_isSkipped_71 (by decide) ?_
        exact hret _ _ _ _ _ _ dX11_isSkipped_72 hW isB_0 hq
      · replace hq := br_neg h hq
        exact wX11_isSkipped_J67 C hRf hRl hret  hW (lv_sub hl [1] rfl) hq
set_option maxHeartbeats 4000000 in
set_option maxRecDepth 100000 in
theorem wX11_isSkipped_J41 (C : CallFix p m c cX11_isSkipped 3 s args lwg RX11) (hRf : 1 ≤ R.frames) (hRl : 21 ≤ R.locals) {P : Int32 → MS → Prop} (hret : RetZ g.1 (mw g) (mty g) A p l e R s m args below meth c 0 0 Q cX11_isSkipped P) {σ : MS} {x1 : Int32} {H : Heap} {locs : List Loc} {ls : Array Slot} (hW : WI g.1 (mw g) (mty g) A s σ H locs) (hl : lv_has ls 3 [(0, .ref g.2.1), (1, .int x1)]) (hq : qX11_isSkipped_J41  P σ x1) : W p l e R s m args below meth c H locs 0 0 Q (F0 m 41 ls []) := by
  have hx := C.1
  have hb := C.2.1
  unfold qX11_isSkipped_J41 at hq
  refine lv_iconst (v := 0) hx hb dX11_isSkipped_41 (by decide) ?_
  exact wX11_isSkipped_J42 C hRf hRl hret  hW hl hq
set_option maxHeartbeats 4000000 in
set_option maxRecDepth 100000 in
theorem wX11_isSkipped_J37 (C : CallFix p m c cX11_isSkipped 3 s args lwg RX11) (hRf : 1 ≤ R.frames) (hRl : 21 ≤ R.locals) {P : Int32 → MS → Prop} (hret : RetZ g.1 (mw g) (mty g) A p l e R s m args below meth c 0 0 Q cX11_isSkipped P) {σ : MS} {x1 : Int32} {H : Heap} {locs : List Loc} {ls : Array Slot} (hW : WI g.1 (mw g) (mty g) A s σ H locs) (hl : lv_has ls 3 [(0, .ref g.2.1), (1, .int x1)]) (hq : qX11_isSkipped_J37  P σ x1) : W p l e R s m args below meth c H locs 0 0 Q (F0 m 37 ls []) := by
  have hx := C.1
  have hb := C.2.1
  unfold qX11_isSkipped_J37 at hq
  refine lv_iconst (v := 1) hx hb dX11_isSkipped_37 (by decide) ?_
  refine lv_goto (tgt := 42) hx hb dX11_isSkipped_38 (by decide) ?_
  exact wX11_isSkipped_J42 C hRf hRl hret  hW hl hq
set_option maxHeartbeats 4000000 in
set_option maxRecDepth 100000 in
theorem wX11_isSkipped (C : CallFix p m c cX11_isSkipped 3 s args lwg RX11) (hRf : 1 ≤ R.frames) (hRl : 21 ≤ R.locals) {P : Int32 → MS → Prop} (hret : RetZ g.1 (mw g) (mty g) A p l e R s m args below meth c 0 0 Q cX11_isSkipped P) {σ : MS} {x1 : Int32} {H : Heap} {locs : List Loc} {ls : Array Slot} (hW : WI g.1 (mw g) (mty g) A s σ H locs) (hl : lv_has ls 3 [(0, .ref g.2.1), (1, .int x1)]) (hq : qX11_isSkipped σ x1 P) : W p l e R s m args below meth c H locs 0 0 Q (F0 m 0 ls []) := by
  have hx := C.1
  have hb := C.2.1
  unfold qX11_isSkipped at hq
  refine lv_aload_n hx hb dX11_isSkipped_0 rfl (lv_at hl 0 rfl) ?_
  refine mg_38 C hW dX11_isSkipped_1 ?_
  refine lv_iload_n hx hb dX11_isSkipped_4 rfl (lv_at hl 1 rfl) ?_
  obtain ⟨hin1, hq⟩ := hq
  refine ma_38 C hW hin1 dX11_isSkipped_5 ?_
  refine lv_if_lt (tgt := 37) hx hb dX11_isSkipped_6 (by decide) (fun h => ?_) (fun h => ?_)
  · replace hq := br_pos h hq
    exact wX11_isSkipped_J37 C hRf hRl hret  hW hl hq
  · replace hq := br_neg h hq
    refine lv_aload_n hx hb dX11_isSkipped_9 rfl (lv_at hl 0 rfl) ?_
    refine mg_36 C hW dX11_isSkipped_10 ?_
    refine lv_iload_n hx hb dX11_isSkipped_13 rfl (lv_at hl 1 rfl) ?_
    refine kX11_has C hW (Nat.le_trans (by decide) hRf) (Nat.le_trans (by decide) hRl) hl.1 (Nat.le_of_ble_eq_true rfl) dX11_isSkipped_14 hq (fun r_3 σ_2 H locs hq hW => ?_)
    refine lv_if_ne (tgt := 37) hx hb dX11_isSkipped_17 (by decide) (fun h => ?_) (fun h => ?_)
    · replace hq := br_neg h hq
      exact wX11_isSkipped_J37 C hRf hRl hret  hW hl hq
    · replace hq := br_pos h hq
      refine lv_aload_n hx hb dX11_isSkipped_20 rfl (lv_at hl 0 rfl) ?_
      refine mg_34 C hW dX11_isSkipped_21 ?_
      refine lv_if_eq (tgt := 41) hx hb dX11_isSkipped_24 (by decide) (fun h => ?_) (fun h => ?_)
      · replace hq := br_pos h hq
        exact wX11_isSkipped_J41 C hRf hRl hret  hW hl hq
      · replace hq := br_neg h hq
        refine lv_aload_n hx hb dX11_isSkipped_27 rfl (lv_at hl 0 rfl) ?_
        refine mg_1 C hW dX11_isSkipped_28 ?_
        refine lv_iload_n hx hb dX11_isSkipped_31 rfl (lv_at hl 1 rfl) ?_
        refine ma_1 C hW hin1 dX11_isSkipped_32 ?_
        refine lv_iconst (v := 2) hx hb dX11_isSkipped_33 (by decide) ?_
        refine (fun (K : ∀ v_4 : Int32, v_4 = ((if (mgeta σ_2 1 x1) = 2 then 1 else 0) : Int32) → W p l e R s m args below meth c H locs 0 0 Q (F0 m 42 ls (.int v_4 :: []))) => ?_) ?_
        · refine lv_icmp_ne (tgt := 41) hx hb dX11_isSkipped_34 (by decide) (fun h34 => ?_) (fun h34 => ?_)
          · refine lv_iconst (v := 0) hx hb dX11_isSkipped_41 (by decide) ?_
            exact K _ (by rw [if_neg h34])
          · refine lv_iconst (v := 1) hx hb dX11_isSkipped_37 (by decide) ?_
            refine lv_goto (tgt := 42) hx hb dX11_isSkipped_38 (by decide) ?_
            exact K _ (by rw [if_pos h34])
        intro v_4 ev_4
        replace hq := hq _ ev_4
        refine lv_istore_n (lv' := [(2, .int v_4), (0, .ref g.2.1), (1, .int x1)]) hx hb dX11_isSkipped_42 rfl hl (by decide) rfl (fun ls hl => ?_)
        refine lv_iload_n hx hb dX11_isSkipped_43 rfl (lv_at hl 0 rfl) ?_
        refine lv_if_ne (tgt := 67) hx hb dX11_isSkipped_44 (by decide) (fun h => ?_) (fun h => ?_)
        · replace hq := br_neg h hq
          exact wX11_isSkipped_J67 C hRf hRl hret  hW (lv_sub hl [1] rfl) hq
        · replace hq := br_pos h hq
          refine lv_aload_n hx hb dX11_isSkipped_47 rfl (lv_at hl 1 rfl) ?_
          refine mg_35 C hW dX11_isSkipped_48 ?_
          refine lv_if_le (tgt := 71) hx hb dX11_isSkipped_51 (by decide) (fun h => ?_) (fun h => ?_)
          · replace hq := br_pos h hq
            refine lv_iconst (v := 0) hx hb dX11_isSkipped_71 (by decide) ?_
            exact hret _ _ _ _ _ _ dX11_isSkipped_72 hW isB_0 hq
          · replace hq := br_neg h hq
            refine lv_aload_n hx hb dX11_isSkipped_54 rfl (lv_at hl 1 rfl) ?_
            refine mg_46 C hW dX11_isSkipped_55 ?_
            refine lv_iload_n hx hb dX11_isSkipped_58 rfl (lv_at hl 2 rfl) ?_
            refine ma_46 C hW hin1 dX11_isSkipped_59 ?_
            refine lv_aload_n hx hb dX11_isSkipped_60 rfl (lv_at hl 1 rfl) ?_
            refine mg_35 C hW dX11_isSkipped_61 ?_
            refine lv_icmp_lt (tgt := 71) hx hb dX11_isSkipped_64 (by decide) (fun h => ?_) (fun h => ?_)
            · replace hq := br_pos h hq
              refine lv_iconst (v := 0) hx hb dX11_isSkipped_71 (by decide) ?_
              exact hret _ _ _ _ _ _ dX11_isSkipped_72 hW isB_0 hq
            · replace hq := br_neg h hq
              exact wX11_isSkipped_J67 C hRf hRl hret  hW (lv_sub hl [1] rfl) hq
set_option maxHeartbeats 4000000 in
set_option maxRecDepth 100000 in
theorem mX11_isSkipped {l : Launch} {g : MG} {σ : MS} {x1 : Int32} {P : Int32 → MS → Prop} (hq : qX11_isSkipped σ x1 P) (sz : Nat) : Met l yX11_isSkipped (cws yX11_isSkipped cX11_isSkipped 3 (some .boolean)) ({ frames := 1, cells := 0, slots := 0, locals := 21 } : Room) (va_Pc [.ref g.2.1, .int x1] (WP g.1 (mw g) (mty g) σ sz)) (va_Qi P (WB g.1 (mw g) (mty g) σ sz) (va_A (mw g σ) sz)) 0 0 (va_A (mw g σ) sz) :=
  w_enter (by decide) (Nat.le_of_ble_eq_true rfl) (fun p e s m args below meth c ls C hr hk hn hs hW hl => wX11_isSkipped C (Nat.le_refl _) (Nat.le_refl _) (fun pc ls v σ H locs hd hW hv hq => w_zret C hs hr hk hW hd hv hq) hW hl hq)
set_option maxHeartbeats 4000000 in
set_option maxRecDepth 100000 in
theorem kX11_isSkipped (C : CallFix p m c cc nL s args lwg RX11) {σ : MS} (hW : WI g.1 (mw g) (mty g) A s σ H locs) (hRf : 2 ≤ R.frames) (hRl : 43 ≤ R.locals) (hls : ls.size = nL) (hro : (rest.map fun v => v.category).sum ≤ 8) {x1 : Int32} (hd : decode cc pc = .ok (.invokevirtual 193, 3)) {P : Int32 → MS → Prop} (hq : qX11_isSkipped σ x1 P) (kk : ∀ (r : Int32) (σ1 : MS) (H : Heap) (locs : List Loc), P r σ1 → WI g.1 (mw g) (mty g) A s σ1 H locs → W p l e R s m args below meth c H locs 0 0 Q (F0 m (pc + 3) ls (.int r :: rest))) : W p l e R s m args below meth c H locs 0 0 Q (F0 m pc ls (.int x1 :: .ref g.2.1 :: rest)) :=
  w_calli hW (w_runV C hW (mX11_isSkipped hq _) ⟨lwg_at 1206 (by decide +kernel) rfl, lwg_at 74 (by decide +kernel) rfl, lwg_at 1203 (by decide +kernel) rfl⟩ (lwg_at 1205 (by decide +kernel) rfl) (lwg_at 44 (by decide +kernel) rfl) (np := 1) (by decide +kernel) ⟨rfl, rfl⟩ ⟨hRf, hRl⟩ (ci := 12) rfl rfl (q0 := 0) rfl rfl hls rfl hro hd ⟨Nat.zero_le _, Nat.zero_le _⟩) kk
end
