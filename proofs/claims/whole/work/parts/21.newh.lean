/-! new hermits, new vows -/
set_option maxHeartbeats 4000000 in
set_option maxRecDepth 100000 in
theorem mX4_init_0 {l : Launch} {D : va_G} {a : Nat} {x1 x2 x3 x4 : Int32} {ty : List (ClassId × FieldType)} (sz : Nat) : Met l yX4_init (cws yX4_init cX4_init 5 none) ({ frames := 1, cells := 0, slots := 0, locals := 12 } : Room) (va_Pc [.ref a, .int x1, .int x2, .int x3, .int x4] (WP D idw ty [(a, .inr (5, [.int 0, .int 0, .int 0, .int 0]))] sz)) (va_Qv (fun u : va_W => u = [(a, .inr (5, [.int x1, .int x2, .int x3, .int x4]))]) (WB D idw ty [(a, .inr (5, [.int 0, .int 0, .int 0, .int 0]))] sz) (va_A (idw [(a, .inr (5, [.int 0, .int 0, .int 0, .int 0]))]) sz)) 0 0 (va_A (idw [(a, .inr (5, [.int 0, .int 0, .int 0, .int 0]))]) sz) := by
  refine w_enter (ww := idw) (σ := [(a, .inr (5, [.int 0, .int 0, .int 0, .int 0]))]) (by decide) (Nat.le_of_ble_eq_true rfl) (fun p e s m args below meth c ls C hr hk hn hs hW hl => ?_)
  have hx := C.1
  have hb := C.2.1
  have hl : lv_has ls 5 [(0, .ref a), (1, .int x1), (2, .int x2), (3, .int x3), (4, .int x4)] := hl
  refine lv_aload_n hx hb dX4_init_0 rfl (lv_at hl 0 rfl) ?_
  refine w_objInit C (lwg_at 478 (by decide +kernel) rfl) (lwg_at 93 (by decide +kernel) rfl) (lwg_at 94 (by decide +kernel) rfl) hl.1 dX4_init_1 (Nat.le_of_ble_eq_true rfl) (Nat.le_of_ble_eq_true rfl) ?_
  refine lv_aload_n hx hb dX4_init_4 rfl (lv_at hl 0 rfl) ?_
  refine lv_iload_n hx hb dX4_init_5 rfl (lv_at hl 1 rfl) ?_
  refine w_putF C hn hW inK0g tyX4 tyX4_ok nmX4 (q0 := 0) (ci := 5) (k := 0) rfl rfl (by decide) xl_X4_9 rfl rfl rfl rfl (Nat.le_of_ble_eq_true rfl) rfl dX4_init_6 (fun H locs hW => ?_)
  replace hW : WI D idw ty (va_A (idw [(a, .inr (5, [.int 0, .int 0, .int 0, .int 0]))]) sz) s ([(a, .inr (5, [.int x1, .int 0, .int 0, .int 0]))]) _ _ := hW
  refine lv_aload_n hx hb dX4_init_9 rfl (lv_at hl 0 rfl) ?_
  refine lv_iload_n hx hb dX4_init_10 rfl (lv_at hl 2 rfl) ?_
  refine w_putF C hn hW inK0g tyX4 tyX4_ok nmX4 (q0 := 0) (ci := 5) (k := 1) rfl rfl (by decide) xl_X4_15 rfl rfl rfl rfl (Nat.le_of_ble_eq_true rfl) rfl dX4_init_11 (fun H locs hW => ?_)
  replace hW : WI D idw ty (va_A (idw [(a, .inr (5, [.int 0, .int 0, .int 0, .int 0]))]) sz) s ([(a, .inr (5, [.int x1, .int x2, .int 0, .int 0]))]) _ _ := hW
  refine lv_aload_n hx hb dX4_init_14 rfl (lv_at hl 0 rfl) ?_
  refine lv_iload_n hx hb dX4_init_15 rfl (lv_at hl 3 rfl) ?_
  refine w_putF C hn hW inK0g tyX4 tyX4_ok nmX4 (q0 := 0) (ci := 5) (k := 2) rfl rfl (by decide) xl_X4_18 rfl rfl rfl rfl (Nat.le_of_ble_eq_true rfl) rfl dX4_init_16 (fun H locs hW => ?_)
  replace hW : WI D idw ty (va_A (idw [(a, .inr (5, [.int 0, .int 0, .int 0, .int 0]))]) sz) s ([(a, .inr (5, [.int x1, .int x2, .int x3, .int 0]))]) _ _ := hW
  refine lv_aload_n hx hb dX4_init_19 rfl (lv_at hl 0 rfl) ?_
  refine lv_iload hx hb dX4_init_20 (lv_at hl 4 rfl) ?_
  refine w_putF C hn hW inK0g tyX4 tyX4_ok nmX4 (q0 := 0) (ci := 5) (k := 3) rfl rfl (by decide) xl_X4_21 rfl rfl rfl rfl (Nat.le_of_ble_eq_true rfl) rfl dX4_init_22 (fun H locs hW => ?_)
  replace hW : WI D idw ty (va_A (idw [(a, .inr (5, [.int 0, .int 0, .int 0, .int 0]))]) sz) s ([(a, .inr (5, [.int x1, .int x2, .int x3, .int x4]))]) _ _ := hW
  exact w_vret C hs hr hk hW dX4_init_25 rfl
set_option maxHeartbeats 4000000 in
set_option maxRecDepth 100000 in
theorem mX4_init_1 {l : Launch} {D : va_G} {a : Nat} {x1 x2 x3 x4 : Int32} {ty : List (ClassId × FieldType)} (sz : Nat) : Met l yX4_init (cws yX4_init cX4_init 5 none) ({ frames := 1, cells := 0, slots := 0, locals := 12 } : Room) (va_Pc [.ref a, .int x1, .int x2, .int x3, .int x4] (WP D idw ty [(a, .inr (8, [.int 0, .int 0, .int 0, .int 0]))] sz)) (va_Qv (fun u : va_W => u = [(a, .inr (8, [.int x1, .int x2, .int x3, .int x4]))]) (WB D idw ty [(a, .inr (8, [.int 0, .int 0, .int 0, .int 0]))] sz) (va_A (idw [(a, .inr (8, [.int 0, .int 0, .int 0, .int 0]))]) sz)) 0 0 (va_A (idw [(a, .inr (8, [.int 0, .int 0, .int 0, .int 0]))]) sz) := by
  refine w_enter (ww := idw) (σ := [(a, .inr (8, [.int 0, .int 0, .int 0, .int 0]))]) (by decide) (Nat.le_of_ble_eq_true rfl) (fun p e s m args below meth c ls C hr hk hn hs hW hl => ?_)
  have hx := C.1
  have hb := C.2.1
  have hl : lv_has ls 5 [(0, .ref a), (1, .int x1), (2, .int x2), (3, .int x3), (4, .int x4)] := hl
  refine lv_aload_n hx hb dX4_init_0 rfl (lv_at hl 0 rfl) ?_
  refine w_objInit C (lwg_at 478 (by decide +kernel) rfl) (lwg_at 93 (by decide +kernel) rfl) (lwg_at 94 (by decide +kernel) rfl) hl.1 dX4_init_1 (Nat.le_of_ble_eq_true rfl) (Nat.le_of_ble_eq_true rfl) ?_
  refine lv_aload_n hx hb dX4_init_4 rfl (lv_at hl 0 rfl) ?_
  refine lv_iload_n hx hb dX4_init_5 rfl (lv_at hl 1 rfl) ?_
  refine w_putF C hn hW inK1g tyX7 tyX7_ok nmX7 (q0 := 0) (ci := 8) (k := 0) rfl rfl (by decide) xl_X4_9 rfl rfl rfl rfl (Nat.le_of_ble_eq_true rfl) rfl dX4_init_6 (fun H locs hW => ?_)
  replace hW : WI D idw ty (va_A (idw [(a, .inr (8, [.int 0, .int 0, .int 0, .int 0]))]) sz) s ([(a, .inr (8, [.int x1, .int 0, .int 0, .int 0]))]) _ _ := hW
  refine lv_aload_n hx hb dX4_init_9 rfl (lv_at hl 0 rfl) ?_
  refine lv_iload_n hx hb dX4_init_10 rfl (lv_at hl 2 rfl) ?_
  refine w_putF C hn hW inK1g tyX7 tyX7_ok nmX7 (q0 := 0) (ci := 8) (k := 1) rfl rfl (by decide) xl_X4_15 rfl rfl rfl rfl (Nat.le_of_ble_eq_true rfl) rfl dX4_init_11 (fun H locs hW => ?_)
  replace hW : WI D idw ty (va_A (idw [(a, .inr (8, [.int 0, .int 0, .int 0, .int 0]))]) sz) s ([(a, .inr (8, [.int x1, .int x2, .int 0, .int 0]))]) _ _ := hW
  refine lv_aload_n hx hb dX4_init_14 rfl (lv_at hl 0 rfl) ?_
  refine lv_iload_n hx hb dX4_init_15 rfl (lv_at hl 3 rfl) ?_
  refine w_putF C hn hW inK1g tyX7 tyX7_ok nmX7 (q0 := 0) (ci := 8) (k := 2) rfl rfl (by decide) xl_X4_18 rfl rfl rfl rfl (Nat.le_of_ble_eq_true rfl) rfl dX4_init_16 (fun H locs hW => ?_)
  replace hW : WI D idw ty (va_A (idw [(a, .inr (8, [.int 0, .int 0, .int 0, .int 0]))]) sz) s ([(a, .inr (8, [.int x1, .int x2, .int x3, .int 0]))]) _ _ := hW
  refine lv_aload_n hx hb dX4_init_19 rfl (lv_at hl 0 rfl) ?_
  refine lv_iload hx hb dX4_init_20 (lv_at hl 4 rfl) ?_
  refine w_putF C hn hW inK1g tyX7 tyX7_ok nmX7 (q0 := 0) (ci := 8) (k := 3) rfl rfl (by decide) xl_X4_21 rfl rfl rfl rfl (Nat.le_of_ble_eq_true rfl) rfl dX4_init_22 (fun H locs hW => ?_)
  replace hW : WI D idw ty (va_A (idw [(a, .inr (8, [.int 0, .int 0, .int 0, .int 0]))]) sz) s ([(a, .inr (8, [.int x1, .int x2, .int x3, .int x4]))]) _ _ := hW
  exact w_vret C hs hr hk hW dX4_init_25 rfl
set_option maxHeartbeats 4000000 in
set_option maxRecDepth 100000 in
theorem mX4_init_2 {l : Launch} {D : va_G} {a : Nat} {x1 x2 x3 x4 : Int32} {ty : List (ClassId × FieldType)} (sz : Nat) : Met l yX4_init (cws yX4_init cX4_init 5 none) ({ frames := 1, cells := 0, slots := 0, locals := 12 } : Room) (va_Pc [.ref a, .int x1, .int x2, .int x3, .int x4] (WP D idw ty [(a, .inr (2, [.int 0, .int 0, .int 0, .int 0]))] sz)) (va_Qv (fun u : va_W => u = [(a, .inr (2, [.int x1, .int x2, .int x3, .int x4]))]) (WB D idw ty [(a, .inr (2, [.int 0, .int 0, .int 0, .int 0]))] sz) (va_A (idw [(a, .inr (2, [.int 0, .int 0, .int 0, .int 0]))]) sz)) 0 0 (va_A (idw [(a, .inr (2, [.int 0, .int 0, .int 0, .int 0]))]) sz) := by
  refine w_enter (ww := idw) (σ := [(a, .inr (2, [.int 0, .int 0, .int 0, .int 0]))]) (by decide) (Nat.le_of_ble_eq_true rfl) (fun p e s m args below meth c ls C hr hk hn hs hW hl => ?_)
  have hx := C.1
  have hb := C.2.1
  have hl : lv_has ls 5 [(0, .ref a), (1, .int x1), (2, .int x2), (3, .int x3), (4, .int x4)] := hl
  refine lv_aload_n hx hb dX4_init_0 rfl (lv_at hl 0 rfl) ?_
  refine w_objInit C (lwg_at 478 (by decide +kernel) rfl) (lwg_at 93 (by decide +kernel) rfl) (lwg_at 94 (by decide +kernel) rfl) hl.1 dX4_init_1 (Nat.le_of_ble_eq_true rfl) (Nat.le_of_ble_eq_true rfl) ?_
  refine lv_aload_n hx hb dX4_init_4 rfl (lv_at hl 0 rfl) ?_
  refine lv_iload_n hx hb dX4_init_5 rfl (lv_at hl 1 rfl) ?_
  refine w_putF C hn hW inK2g tyX1 tyX1_ok nmX1 (q0 := 0) (ci := 2) (k := 0) rfl rfl (by decide) xl_X4_9 rfl rfl rfl rfl (Nat.le_of_ble_eq_true rfl) rfl dX4_init_6 (fun H locs hW => ?_)
  replace hW : WI D idw ty (va_A (idw [(a, .inr (2, [.int 0, .int 0, .int 0, .int 0]))]) sz) s ([(a, .inr (2, [.int x1, .int 0, .int 0, .int 0]))]) _ _ := hW
  refine lv_aload_n hx hb dX4_init_9 rfl (lv_at hl 0 rfl) ?_
  refine lv_iload_n hx hb dX4_init_10 rfl (lv_at hl 2 rfl) ?_
  refine w_putF C hn hW inK2g tyX1 tyX1_ok nmX1 (q0 := 0) (ci := 2) (k := 1) rfl rfl (by decide) xl_X4_15 rfl rfl rfl rfl (Nat.le_of_ble_eq_true rfl) rfl dX4_init_11 (fun H locs hW => ?_)
  replace hW : WI D idw ty (va_A (idw [(a, .inr (2, [.int 0, .int 0, .int 0, .int 0]))]) sz) s ([(a, .inr (2, [.int x1, .int x2, .int 0, .int 0]))]) _ _ := hW
  refine lv_aload_n hx hb dX4_init_14 rfl (lv_at hl 0 rfl) ?_
  refine lv_iload_n hx hb dX4_init_15 rfl (lv_at hl 3 rfl) ?_
  refine w_putF C hn hW inK2g tyX1 tyX1_ok nmX1 (q0 := 0) (ci := 2) (k := 2) rfl rfl (by decide) xl_X4_18 rfl rfl rfl rfl (Nat.le_of_ble_eq_true rfl) rfl dX4_init_16 (fun H locs hW => ?_)
  replace hW : WI D idw ty (va_A (idw [(a, .inr (2, [.int 0, .int 0, .int 0, .int 0]))]) sz) s ([(a, .inr (2, [.int x1, .int x2, .int x3, .int 0]))]) _ _ := hW
  refine lv_aload_n hx hb dX4_init_19 rfl (lv_at hl 0 rfl) ?_
  refine lv_iload hx hb dX4_init_20 (lv_at hl 4 rfl) ?_
  refine w_putF C hn hW inK2g tyX1 tyX1_ok nmX1 (q0 := 0) (ci := 2) (k := 3) rfl rfl (by decide) xl_X4_21 rfl rfl rfl rfl (Nat.le_of_ble_eq_true rfl) rfl dX4_init_22 (fun H locs hW => ?_)
  replace hW : WI D idw ty (va_A (idw [(a, .inr (2, [.int 0, .int 0, .int 0, .int 0]))]) sz) s ([(a, .inr (2, [.int x1, .int x2, .int x3, .int x4]))]) _ _ := hW
  exact w_vret C hs hr hk hW dX4_init_25 rfl
set_option maxHeartbeats 4000000 in
set_option maxRecDepth 100000 in
theorem mX4_init_3 {l : Launch} {D : va_G} {a : Nat} {x1 x2 x3 x4 : Int32} {ty : List (ClassId × FieldType)} (sz : Nat) : Met l yX4_init (cws yX4_init cX4_init 5 none) ({ frames := 1, cells := 0, slots := 0, locals := 12 } : Room) (va_Pc [.ref a, .int x1, .int x2, .int x3, .int x4] (WP D idw ty [(a, .inr (4, [.int 0, .int 0, .int 0, .int 0]))] sz)) (va_Qv (fun u : va_W => u = [(a, .inr (4, [.int x1, .int x2, .int x3, .int x4]))]) (WB D idw ty [(a, .inr (4, [.int 0, .int 0, .int 0, .int 0]))] sz) (va_A (idw [(a, .inr (4, [.int 0, .int 0, .int 0, .int 0]))]) sz)) 0 0 (va_A (idw [(a, .inr (4, [.int 0, .int 0, .int 0, .int 0]))]) sz) := by
  refine w_enter (ww := idw) (σ := [(a, .inr (4, [.int 0, .int 0, .int 0, .int 0]))]) (by decide) (Nat.le_of_ble_eq_true rfl) (fun p e s m args below meth c ls C hr hk hn hs hW hl => ?_)
  have hx := C.1
  have hb := C.2.1
  have hl : lv_has ls 5 [(0, .ref a), (1, .int x1), (2, .int x2), (3, .int x3), (4, .int x4)] := hl
  refine lv_aload_n hx hb dX4_init_0 rfl (lv_at hl 0 rfl) ?_
  refine w_objInit C (lwg_at 478 (by decide +kernel) rfl) (lwg_at 93 (by decide +kernel) rfl) (lwg_at 94 (by decide +kernel) rfl) hl.1 dX4_init_1 (Nat.le_of_ble_eq_true rfl) (Nat.le_of_ble_eq_true rfl) ?_
  refine lv_aload_n hx hb dX4_init_4 rfl (lv_at hl 0 rfl) ?_
  refine lv_iload_n hx hb dX4_init_5 rfl (lv_at hl 1 rfl) ?_
  refine w_putF C hn hW inK3g tyX3 tyX3_ok nmX3 (q0 := 0) (ci := 4) (k := 0) rfl rfl (by decide) xl_X4_9 rfl rfl rfl rfl (Nat.le_of_ble_eq_true rfl) rfl dX4_init_6 (fun H locs hW => ?_)
  replace hW : WI D idw ty (va_A (idw [(a, .inr (4, [.int 0, .int 0, .int 0, .int 0]))]) sz) s ([(a, .inr (4, [.int x1, .int 0, .int 0, .int 0]))]) _ _ := hW
  refine lv_aload_n hx hb dX4_init_9 rfl (lv_at hl 0 rfl) ?_
  refine lv_iload_n hx hb dX4_init_10 rfl (lv_at hl 2 rfl) ?_
  refine w_putF C hn hW inK3g tyX3 tyX3_ok nmX3 (q0 := 0) (ci := 4) (k := 1) rfl rfl (by decide) xl_X4_15 rfl rfl rfl rfl (Nat.le_of_ble_eq_true rfl) rfl dX4_init_11 (fun H locs hW => ?_)
  replace hW : WI D idw ty (va_A (idw [(a, .inr (4, [.int 0, .int 0, .int 0, .int 0]))]) sz) s ([(a, .inr (4, [.int x1, .int x2, .int 0, .int 0]))]) _ _ := hW
  refine lv_aload_n hx hb dX4_init_14 rfl (lv_at hl 0 rfl) ?_
  refine lv_iload_n hx hb dX4_init_15 rfl (lv_at hl 3 rfl) ?_
  refine w_putF C hn hW inK3g tyX3 tyX3_ok nmX3 (q0 := 0) (ci := 4) (k := 2) rfl rfl (by decide) xl_X4_18 rfl rfl rfl rfl (Nat.le_of_ble_eq_true rfl) rfl dX4_init_16 (fun H locs hW => ?_)
  replace hW : WI D idw ty (va_A (idw [(a, .inr (4, [.int 0, .int 0, .int 0, .int 0]))]) sz) s ([(a, .inr (4, [.int x1, .int x2, .int x3, .int 0]))]) _ _ := hW
  refine lv_aload_n hx hb dX4_init_19 rfl (lv_at hl 0 rfl) ?_
  refine lv_iload hx hb dX4_init_20 (lv_at hl 4 rfl) ?_
  refine w_putF C hn hW inK3g tyX3 tyX3_ok nmX3 (q0 := 0) (ci := 4) (k := 3) rfl rfl (by decide) xl_X4_21 rfl rfl rfl rfl (Nat.le_of_ble_eq_true rfl) rfl dX4_init_22 (fun H locs hW => ?_)
  replace hW : WI D idw ty (va_A (idw [(a, .inr (4, [.int 0, .int 0, .int 0, .int 0]))]) sz) s ([(a, .inr (4, [.int x1, .int x2, .int x3, .int x4]))]) _ _ := hW
  exact w_vret C hs hr hk hW dX4_init_25 rfl
set_option maxHeartbeats 4000000 in
set_option maxRecDepth 100000 in
theorem mX4_init_4 {l : Launch} {D : va_G} {a : Nat} {x1 x2 x3 x4 : Int32} {ty : List (ClassId × FieldType)} (sz : Nat) : Met l yX4_init (cws yX4_init cX4_init 5 none) ({ frames := 1, cells := 0, slots := 0, locals := 12 } : Room) (va_Pc [.ref a, .int x1, .int x2, .int x3, .int x4] (WP D idw ty [(a, .inr (3, [.int 0, .int 0, .int 0, .int 0]))] sz)) (va_Qv (fun u : va_W => u = [(a, .inr (3, [.int x1, .int x2, .int x3, .int x4]))]) (WB D idw ty [(a, .inr (3, [.int 0, .int 0, .int 0, .int 0]))] sz) (va_A (idw [(a, .inr (3, [.int 0, .int 0, .int 0, .int 0]))]) sz)) 0 0 (va_A (idw [(a, .inr (3, [.int 0, .int 0, .int 0, .int 0]))]) sz) := by
  refine w_enter (ww := idw) (σ := [(a, .inr (3, [.int 0, .int 0, .int 0, .int 0]))]) (by decide) (Nat.le_of_ble_eq_true rfl) (fun p e s m args below meth c ls C hr hk hn hs hW hl => ?_)
  have hx := C.1
  have hb := C.2.1
  have hl : lv_has ls 5 [(0, .ref a), (1, .int x1), (2, .int x2), (3, .int x3), (4, .int x4)] := hl
  refine lv_aload_n hx hb dX4_init_0 rfl (lv_at hl 0 rfl) ?_
  refine w_objInit C (lwg_at 478 (by decide +kernel) rfl) (lwg_at 93 (by decide +kernel) rfl) (lwg_at 94 (by decide +kernel) rfl) hl.1 dX4_init_1 (Nat.le_of_ble_eq_true rfl) (Nat.le_of_ble_eq_true rfl) ?_
  refine lv_aload_n hx hb dX4_init_4 rfl (lv_at hl 0 rfl) ?_
  refine lv_iload_n hx hb dX4_init_5 rfl (lv_at hl 1 rfl) ?_
  refine w_putF C hn hW inK4g tyX2 tyX2_ok nmX2 (q0 := 0) (ci := 3) (k := 0) rfl rfl (by decide) xl_X4_9 rfl rfl rfl rfl (Nat.le_of_ble_eq_true rfl) rfl dX4_init_6 (fun H locs hW => ?_)
  replace hW : WI D idw ty (va_A (idw [(a, .inr (3, [.int 0, .int 0, .int 0, .int 0]))]) sz) s ([(a, .inr (3, [.int x1, .int 0, .int 0, .int 0]))]) _ _ := hW
  refine lv_aload_n hx hb dX4_init_9 rfl (lv_at hl 0 rfl) ?_
  refine lv_iload_n hx hb dX4_init_10 rfl (lv_at hl 2 rfl) ?_
  refine w_putF C hn hW inK4g tyX2 tyX2_ok nmX2 (q0 := 0) (ci := 3) (k := 1) rfl rfl (by decide) xl_X4_15 rfl rfl rfl rfl (Nat.le_of_ble_eq_true rfl) rfl dX4_init_11 (fun H locs hW => ?_)
  replace hW : WI D idw ty (va_A (idw [(a, .inr (3, [.int 0, .int 0, .int 0, .int 0]))]) sz) s ([(a, .inr (3, [.int x1, .int x2, .int 0, .int 0]))]) _ _ := hW
  refine lv_aload_n hx hb dX4_init_14 rfl (lv_at hl 0 rfl) ?_
  refine lv_iload_n hx hb dX4_init_15 rfl (lv_at hl 3 rfl) ?_
  refine w_putF C hn hW inK4g tyX2 tyX2_ok nmX2 (q0 := 0) (ci := 3) (k := 2) rfl rfl (by decide) xl_X4_18 rfl rfl rfl rfl (Nat.le_of_ble_eq_true rfl) rfl dX4_init_16 (fun H locs hW => ?_)
  replace hW : WI D idw ty (va_A (idw [(a, .inr (3, [.int 0, .int 0, .int 0, .int 0]))]) sz) s ([(a, .inr (3, [.int x1, .int x2, .int x3, .int 0]))]) _ _ := hW
  refine lv_aload_n hx hb dX4_init_19 rfl (lv_at hl 0 rfl) ?_
  refine lv_iload hx hb dX4_init_20 (lv_at hl 4 rfl) ?_
  refine w_putF C hn hW inK4g tyX2 tyX2_ok nmX2 (q0 := 0) (ci := 3) (k := 3) rfl rfl (by decide) xl_X4_21 rfl rfl rfl rfl (Nat.le_of_ble_eq_true rfl) rfl dX4_init_22 (fun H locs hW => ?_)
  replace hW : WI D idw ty (va_A (idw [(a, .inr (3, [.int 0, .int 0, .int 0, .int 0]))]) sz) s ([(a, .inr (3, [.int x1, .int x2, .int x3, .int x4]))]) _ _ := hW
  exact w_vret C hs hr hk hW dX4_init_25 rfl
set_option maxHeartbeats 4000000 in
set_option maxRecDepth 100000 in
theorem mX7_init_1 {l : Launch} {D : va_G} {a : Nat} {x1 x2 x3 x4 : Int32} {ty : List (ClassId × FieldType)} (sz : Nat) : Met l yX7_init (cws yX7_init cX7_init 5 none) ({ frames := 2, cells := 0, slots := 0, locals := 36 } : Room) (va_Pc [.ref a, .int x1, .int x2, .int x3, .int x4] (WP D idw ty [(a, .inr (8, [.int 0, .int 0, .int 0, .int 0]))] sz)) (va_Qv (fun u : va_W => u = [(a, .inr (8, [.int x1, .int x2, .int x3, .int x4]))]) (WB D idw ty [(a, .inr (8, [.int 0, .int 0, .int 0, .int 0]))] sz) (va_A (idw [(a, .inr (8, [.int 0, .int 0, .int 0, .int 0]))]) sz)) 0 0 (va_A (idw [(a, .inr (8, [.int 0, .int 0, .int 0, .int 0]))]) sz) := by
  refine w_enter (ww := idw) (σ := [(a, .inr (8, [.int 0, .int 0, .int 0, .int 0]))]) (by decide) (Nat.le_of_ble_eq_true rfl) (fun p e s m args below meth c ls C hr hk hn hs hW hl => ?_)
  have hx := C.1
  have hb := C.2.1
  have hl : lv_has ls 5 [(0, .ref a), (1, .int x1), (2, .int x2), (3, .int x3), (4, .int x4)] := hl
  refine lv_aload_n hx hb dX7_init_0 rfl (lv_at hl 0 rfl) ?_
  refine lv_iload_n hx hb dX7_init_1 rfl (lv_at hl 1 rfl) ?_
  refine lv_iload_n hx hb dX7_init_2 rfl (lv_at hl 2 rfl) ?_
  refine lv_iload_n hx hb dX7_init_3 rfl (lv_at hl 3 rfl) ?_
  refine lv_iload hx hb dX7_init_4 (lv_at hl 4 rfl) ?_
  refine f_callv (wr := []) (ww := idw) hW (w_runI (ww := idw) (As := [.int x1, .int x2, .int x3, .int x4]) C (wi_right (wr := []) hW) (mX4_init_1 _) w_blind (fun U hU hV => w_pre (wi_right (wr := []) hW) U hU hV) ⟨(lwg_at 477 (by decide +kernel) rfl), (lwg_at 82 (by decide +kernel) rfl), (lwg_at 475 (by decide +kernel) rfl)⟩ rfl (lwg_at 476 (by decide +kernel) rfl) (np := 4) (by decide +kernel) ⟨rfl, rfl⟩ ⟨Nat.le_of_ble_eq_true rfl, Nat.le_of_ble_eq_true rfl⟩ rfl hl.1 rfl (Nat.le_of_ble_eq_true rfl) dX7_init_6 ⟨Nat.le_of_ble_eq_true rfl, Nat.le_of_ble_eq_true rfl⟩) (fun u H locs hq hW => ?_)
  subst hq
  exact w_vret C hs hr hk hW dX7_init_9 rfl
set_option maxHeartbeats 4000000 in
set_option maxRecDepth 100000 in
theorem mX7_init_4 {l : Launch} {D : va_G} {a : Nat} {x1 x2 x3 x4 : Int32} {ty : List (ClassId × FieldType)} (sz : Nat) : Met l yX7_init (cws yX7_init cX7_init 5 none) ({ frames := 2, cells := 0, slots := 0, locals := 36 } : Room) (va_Pc [.ref a, .int x1, .int x2, .int x3, .int x4] (WP D idw ty [(a, .inr (3, [.int 0, .int 0, .int 0, .int 0]))] sz)) (va_Qv (fun u : va_W => u = [(a, .inr (3, [.int x1, .int x2, .int x3, .int x4]))]) (WB D idw ty [(a, .inr (3, [.int 0, .int 0, .int 0, .int 0]))] sz) (va_A (idw [(a, .inr (3, [.int 0, .int 0, .int 0, .int 0]))]) sz)) 0 0 (va_A (idw [(a, .inr (3, [.int 0, .int 0, .int 0, .int 0]))]) sz) := by
  refine w_enter (ww := idw) (σ := [(a, .inr (3, [.int 0, .int 0, .int 0, .int 0]))]) (by decide) (Nat.le_of_ble_eq_true rfl) (fun p e s m args below meth c ls C hr hk hn hs hW hl => ?_)
  have hx := C.1
  have hb := C.2.1
  have hl : lv_has ls 5 [(0, .ref a), (1, .int x1), (2, .int x2), (3, .int x3), (4, .int x4)] := hl
  refine lv_aload_n hx hb dX7_init_0 rfl (lv_at hl 0 rfl) ?_
  refine lv_iload_n hx hb dX7_init_1 rfl (lv_at hl 1 rfl) ?_
  refine lv_iload_n hx hb dX7_init_2 rfl (lv_at hl 2 rfl) ?_
  refine lv_iload_n hx hb dX7_init_3 rfl (lv_at hl 3 rfl) ?_
  refine lv_iload hx hb dX7_init_4 (lv_at hl 4 rfl) ?_
  refine f_callv (wr := []) (ww := idw) hW (w_runI (ww := idw) (As := [.int x1, .int x2, .int x3, .int x4]) C (wi_right (wr := []) hW) (mX4_init_4 _) w_blind (fun U hU hV => w_pre (wi_right (wr := []) hW) U hU hV) ⟨(lwg_at 477 (by decide +kernel) rfl), (lwg_at 82 (by decide +kernel) rfl), (lwg_at 475 (by decide +kernel) rfl)⟩ rfl (lwg_at 476 (by decide +kernel) rfl) (np := 4) (by decide +kernel) ⟨rfl, rfl⟩ ⟨Nat.le_of_ble_eq_true rfl, Nat.le_of_ble_eq_true rfl⟩ rfl hl.1 rfl (Nat.le_of_ble_eq_true rfl) dX7_init_6 ⟨Nat.le_of_ble_eq_true rfl, Nat.le_of_ble_eq_true rfl⟩) (fun u H locs hq hW => ?_)
  subst hq
  exact w_vret C hs hr hk hW dX7_init_9 rfl
set_option maxHeartbeats 4000000 in
set_option maxRecDepth 100000 in
theorem mX3_init_3 {l : Launch} {D : va_G} {a : Nat} {x1 x2 x3 x4 : Int32} {ty : List (ClassId × FieldType)} (sz : Nat) : Met l yX3_init (cws yX3_init cX3_init 5 none) ({ frames := 2, cells := 0, slots := 0, locals := 36 } : Room) (va_Pc [.ref a, .int x1, .int x2, .int x3, .int x4] (WP D idw ty [(a, .inr (4, [.int 0, .int 0, .int 0, .int 0]))] sz)) (va_Qv (fun u : va_W => u = [(a, .inr (4, [.int x1, .int x2, .int x3, .int x4]))]) (WB D idw ty [(a, .inr (4, [.int 0, .int 0, .int 0, .int 0]))] sz) (va_A (idw [(a, .inr (4, [.int 0, .int 0, .int 0, .int 0]))]) sz)) 0 0 (va_A (idw [(a, .inr (4, [.int 0, .int 0, .int 0, .int 0]))]) sz) := by
  refine w_enter (ww := idw) (σ := [(a, .inr (4, [.int 0, .int 0, .int 0, .int 0]))]) (by decide) (Nat.le_of_ble_eq_true rfl) (fun p e s m args below meth c ls C hr hk hn hs hW hl => ?_)
  have hx := C.1
  have hb := C.2.1
  have hl : lv_has ls 5 [(0, .ref a), (1, .int x1), (2, .int x2), (3, .int x3), (4, .int x4)] := hl
  refine lv_aload_n hx hb dX3_init_0 rfl (lv_at hl 0 rfl) ?_
  refine lv_iload_n hx hb dX3_init_1 rfl (lv_at hl 1 rfl) ?_
  refine lv_iload_n hx hb dX3_init_2 rfl (lv_at hl 2 rfl) ?_
  refine lv_iload_n hx hb dX3_init_3 rfl (lv_at hl 3 rfl) ?_
  refine lv_iload hx hb dX3_init_4 (lv_at hl 4 rfl) ?_
  refine f_callv (wr := []) (ww := idw) hW (w_runI (ww := idw) (As := [.int x1, .int x2, .int x3, .int x4]) C (wi_right (wr := []) hW) (mX4_init_3 _) w_blind (fun U hU hV => w_pre (wi_right (wr := []) hW) U hU hV) ⟨(lwg_at 477 (by decide +kernel) rfl), (lwg_at 82 (by decide +kernel) rfl), (lwg_at 518 (by decide +kernel) rfl)⟩ rfl (lwg_at 476 (by decide +kernel) rfl) (np := 4) (by decide +kernel) ⟨rfl, rfl⟩ ⟨Nat.le_of_ble_eq_true rfl, Nat.le_of_ble_eq_true rfl⟩ rfl hl.1 rfl (Nat.le_of_ble_eq_true rfl) dX3_init_6 ⟨Nat.le_of_ble_eq_true rfl, Nat.le_of_ble_eq_true rfl⟩) (fun u H locs hq hW => ?_)
  subst hq
  exact w_vret C hs hr hk hW dX3_init_9 rfl
set_option maxHeartbeats 4000000 in
set_option maxRecDepth 100000 in
theorem mX1_init_2 {l : Launch} {D : va_G} {a : Nat} {x2 x3 x4 : Int32} {ty : List (ClassId × FieldType)} (sz : Nat) : Met l yX1_init (cws yX1_init cX1_init 4 none) ({ frames := 2, cells := 0, slots := 0, locals := 36 } : Room) (va_Pc [.ref a, .int x2, .int x3, .int x4] (WP D idw ty [(a, .inr (2, [.int 0, .int 0, .int 0, .int 0]))] sz)) (va_Qv (fun u : va_W => u = [(a, .inr (2, [.int 0, .int x2, .int x3, .int x4]))]) (WB D idw ty [(a, .inr (2, [.int 0, .int 0, .int 0, .int 0]))] sz) (va_A (idw [(a, .inr (2, [.int 0, .int 0, .int 0, .int 0]))]) sz)) 0 0 (va_A (idw [(a, .inr (2, [.int 0, .int 0, .int 0, .int 0]))]) sz) := by
  refine w_enter (ww := idw) (σ := [(a, .inr (2, [.int 0, .int 0, .int 0, .int 0]))]) (by decide) (Nat.le_of_ble_eq_true rfl) (fun p e s m args below meth c ls C hr hk hn hs hW hl => ?_)
  have hx := C.1
  have hb := C.2.1
  have hl : lv_has ls 4 [(0, .ref a), (1, .int x2), (2, .int x3), (3, .int x4)] := hl
  refine lv_aload_n hx hb dX1_init_0 rfl (lv_at hl 0 rfl) ?_
  refine lv_iconst (v := 0) hx hb dX1_init_1 (by decide) ?_
  refine lv_iload_n hx hb dX1_init_2 rfl (lv_at hl 1 rfl) ?_
  refine lv_iload_n hx hb dX1_init_3 rfl (lv_at hl 2 rfl) ?_
  refine lv_iload_n hx hb dX1_init_4 rfl (lv_at hl 3 rfl) ?_
  refine f_callv (wr := []) (ww := idw) hW (w_runI (ww := idw) (As := [.int 0, .int x2, .int x3, .int x4]) C (wi_right (wr := []) hW) (mX4_init_2 _) w_blind (fun U hU hV => w_pre (wi_right (wr := []) hW) U hU hV) ⟨(lwg_at 477 (by decide +kernel) rfl), (lwg_at 82 (by decide +kernel) rfl), (lwg_at 507 (by decide +kernel) rfl)⟩ rfl (lwg_at 476 (by decide +kernel) rfl) (np := 4) (by decide +kernel) ⟨rfl, rfl⟩ ⟨Nat.le_of_ble_eq_true rfl, Nat.le_of_ble_eq_true rfl⟩ rfl hl.1 rfl (Nat.le_of_ble_eq_true rfl) dX1_init_5 ⟨Nat.le_of_ble_eq_true rfl, Nat.le_of_ble_eq_true rfl⟩) (fun u H locs hq hW => ?_)
  subst hq
  exact w_vret C hs hr hk hW dX1_init_8 rfl
set_option maxHeartbeats 4000000 in
set_option maxRecDepth 100000 in
theorem mX2_init_4 {l : Launch} {D : va_G} {a : Nat} {x1 x2 x3 x4 : Int32} {ty : List (ClassId × FieldType)} (sz : Nat) : Met l yX2_init (cws yX2_init cX2_init 5 none) ({ frames := 3, cells := 0, slots := 0, locals := 60 } : Room) (va_Pc [.ref a, .int x1, .int x2, .int x3, .int x4] (WP D idw ty [(a, .inr (3, [.int 0, .int 0, .int 0, .int 0]))] sz)) (va_Qv (fun u : va_W => u = [(a, .inr (3, [.int x1, .int x2, .int x3, .int x4]))]) (WB D idw ty [(a, .inr (3, [.int 0, .int 0, .int 0, .int 0]))] sz) (va_A (idw [(a, .inr (3, [.int 0, .int 0, .int 0, .int 0]))]) sz)) 0 0 (va_A (idw [(a, .inr (3, [.int 0, .int 0, .int 0, .int 0]))]) sz) := by
  refine w_enter (ww := idw) (σ := [(a, .inr (3, [.int 0, .int 0, .int 0, .int 0]))]) (by decide) (Nat.le_of_ble_eq_true rfl) (fun p e s m args below meth c ls C hr hk hn hs hW hl => ?_)
  have hx := C.1
  have hb := C.2.1
  have hl : lv_has ls 5 [(0, .ref a), (1, .int x1), (2, .int x2), (3, .int x3), (4, .int x4)] := hl
  refine lv_aload_n hx hb dX2_init_0 rfl (lv_at hl 0 rfl) ?_
  refine lv_iload_n hx hb dX2_init_1 rfl (lv_at hl 1 rfl) ?_
  refine lv_iload_n hx hb dX2_init_2 rfl (lv_at hl 2 rfl) ?_
  refine lv_iload_n hx hb dX2_init_3 rfl (lv_at hl 3 rfl) ?_
  refine lv_iload hx hb dX2_init_4 (lv_at hl 4 rfl) ?_
  refine f_callv (wr := []) (ww := idw) hW (w_runI (ww := idw) (As := [.int x1, .int x2, .int x3, .int x4]) C (wi_right (wr := []) hW) (mX7_init_4 _) w_blind (fun U hU hV => w_pre (wi_right (wr := []) hW) U hU hV) ⟨(lwg_at 474 (by decide +kernel) rfl), (lwg_at 83 (by decide +kernel) rfl), (lwg_at 529 (by decide +kernel) rfl)⟩ rfl (lwg_at 473 (by decide +kernel) rfl) (np := 4) (by decide +kernel) ⟨rfl, rfl⟩ ⟨Nat.le_of_ble_eq_true rfl, Nat.le_of_ble_eq_true rfl⟩ rfl hl.1 rfl (Nat.le_of_ble_eq_true rfl) dX2_init_6 ⟨Nat.le_of_ble_eq_true rfl, Nat.le_of_ble_eq_true rfl⟩) (fun u H locs hq hW => ?_)
  subst hq
  exact w_vret C hs hr hk hW dX2_init_9 rfl
set_option maxHeartbeats 4000000 in
set_option maxRecDepth 100000 in
theorem mX10_newcomer_0 {l : Launch} {D : va_G} {x1 x2 x3 x4 : Int32} {ty : List (ClassId × FieldType)} (sz : Nat) : Met l yX10_newcomer (cws yX10_newcomer cX10_newcomer 5 (some (.object "HermitsSpoon$Hermit"))) ({ frames := 4, cells := 1, slots := 4, locals := 84 } : Room) (va_Pc [.int 0, .int x1, .int x2, .int x3, .int x4] (WP D idw ty [] sz)) (QcR Value.ref (fun (a : Nat) (u : va_W) => u = [(a, .inr (5, [.int 0, .int x2, .int x3, .int x4]))]) (WB D idw ty [] sz) (va_A (idw []) sz)) 1 4 (va_A (idw []) sz) := by
  refine w_enter (ww := idw) (σ := []) (by decide) (Nat.le_of_ble_eq_true rfl) (fun p e s m args below meth c ls C hr hk hn hs hW hl => ?_)
  have hx := C.1
  have hb := C.2.1
  have hl : lv_has ls 5 [(0, .int 0), (1, .int x1), (2, .int x2), (3, .int x3), (4, .int x4)] := hl
  refine lv_iload_n hx hb dX10_newcomer_0 rfl (lv_at hl 0 rfl) ?_
  refine lv_tableOut (tgt := 91) hx hb dX10_newcomer_1 (by decide) (by decide) ?_
  refine w_new C hW inK0g tyX4 tyX4_ok (lwg_at 535 (by decide +kernel) rfl) (lwg_at 536 (by decide +kernel) rfl) (lwg_at 82 (by decide +kernel) rfl) (ci := 5) rfl (fs := [.int 0, .int 0, .int 0, .int 0]) (fun j hj => by rcases (show j = 0 ∨ j = 1 ∨ j = 2 ∨ j = 3 by omega) with rfl | rfl | rfl | rfl <;> rfl) (Nat.le_of_ble_eq_true rfl) (Nat.le_of_ble_eq_true rfl) dX10_newcomer_91 (fun q0 H hW => ?_)
  refine W.widen (k := 1) (n := 4) (by omega) (by omega) ?_
  replace hW : WI D idw ty (va_A (idw []) sz) s ([(q0, .inr (5, [.int 0, .int 0, .int 0, .int 0]))]) _ _ := hW
  refine lv_dup hx hb dX10_newcomer_94 rfl ?_
  refine lv_iconst (v := 0) hx hb dX10_newcomer_95 (by decide) ?_
  refine lv_iload_n hx hb dX10_newcomer_96 rfl (lv_at hl 2 rfl) ?_
  refine lv_iload_n hx hb dX10_newcomer_97 rfl (lv_at hl 3 rfl) ?_
  refine lv_iload hx hb dX10_newcomer_98 (lv_at hl 4 rfl) ?_
  replace hW : WI D idw ty (va_A (idw []) sz) s ([] ++ [(q0, .inr (5, [.int 0, .int 0, .int 0, .int 0]))]) _ _ := hW
  refine f_callv (wr := []) (ww := idw) hW (w_runI (ww := idw) (As := [.int 0, .int x2, .int x3, .int x4]) C (wi_right (wr := []) hW) (mX4_init_0 _) w_blind (fun U hU hV => w_pre (wi_right (wr := []) hW) U hU hV) ⟨(lwg_at 477 (by decide +kernel) rfl), (lwg_at 82 (by decide +kernel) rfl), (lwg_at 537 (by decide +kernel) rfl)⟩ rfl (lwg_at 476 (by decide +kernel) rfl) (np := 4) (by decide +kernel) ⟨rfl, rfl⟩ ⟨Nat.le_of_ble_eq_true rfl, Nat.le_of_ble_eq_true rfl⟩ rfl hl.1 rfl (Nat.le_of_ble_eq_true rfl) dX10_newcomer_100 ⟨Nat.le_of_ble_eq_true rfl, Nat.le_of_ble_eq_true rfl⟩) (fun u H locs hq hW => ?_)
  subst hq
  refine W.widen (k := 1) (n := 4) (by omega) (by omega) ?_
  exact w_aret (f := Value.ref) (r := q0) C hs hr (Or.inl ⟨_, rfl⟩) hk hW dX10_newcomer_103 (Or.inr ⟨_, rfl⟩) rfl
set_option maxHeartbeats 4000000 in
set_option maxRecDepth 100000 in
theorem mX10_newcomer_1 {l : Launch} {D : va_G} {x1 x2 x3 x4 : Int32} {ty : List (ClassId × FieldType)} (sz : Nat) : Met l yX10_newcomer (cws yX10_newcomer cX10_newcomer 5 (some (.object "HermitsSpoon$Hermit"))) ({ frames := 4, cells := 1, slots := 4, locals := 84 } : Room) (va_Pc [.int 1, .int x1, .int x2, .int x3, .int x4] (WP D idw ty [] sz)) (QcR Value.ref (fun (a : Nat) (u : va_W) => u = [(a, .inr (8, [.int x1, .int x2, .int x3, .int x4]))]) (WB D idw ty [] sz) (va_A (idw []) sz)) 1 4 (va_A (idw []) sz) := by
  refine w_enter (ww := idw) (σ := []) (by decide) (Nat.le_of_ble_eq_true rfl) (fun p e s m args below meth c ls C hr hk hn hs hW hl => ?_)
  have hx := C.1
  have hb := C.2.1
  have hl : lv_has ls 5 [(0, .int 1), (1, .int x1), (2, .int x2), (3, .int x3), (4, .int x4)] := hl
  refine lv_iload_n hx hb dX10_newcomer_0 rfl (lv_at hl 0 rfl) ?_
  refine lv_tableIn (off := 31) (tgt := 32) hx hb dX10_newcomer_1 (by decide) (by decide) (by decide) (by decide) ?_
  refine w_new C hW inK1g tyX7 tyX7_ok (lwg_at 470 (by decide +kernel) rfl) (lwg_at 471 (by decide +kernel) rfl) (lwg_at 83 (by decide +kernel) rfl) (ci := 8) rfl (fs := [.int 0, .int 0, .int 0, .int 0]) (fun j hj => by rcases (show j = 0 ∨ j = 1 ∨ j = 2 ∨ j = 3 by omega) with rfl | rfl | rfl | rfl <;> rfl) (Nat.le_of_ble_eq_true rfl) (Nat.le_of_ble_eq_true rfl) dX10_newcomer_32 (fun q0 H hW => ?_)
  refine W.widen (k := 1) (n := 4) (by omega) (by omega) ?_
  replace hW : WI D idw ty (va_A (idw []) sz) s ([(q0, .inr (8, [.int 0, .int 0, .int 0, .int 0]))]) _ _ := hW
  refine lv_dup hx hb dX10_newcomer_35 rfl ?_
  refine lv_iload_n hx hb dX10_newcomer_36 rfl (lv_at hl 1 rfl) ?_
  refine lv_iload_n hx hb dX10_newcomer_37 rfl (lv_at hl 2 rfl) ?_
  refine lv_iload_n hx hb dX10_newcomer_38 rfl (lv_at hl 3 rfl) ?_
  refine lv_iload hx hb dX10_newcomer_39 (lv_at hl 4 rfl) ?_
  replace hW : WI D idw ty (va_A (idw []) sz) s ([] ++ [(q0, .inr (8, [.int 0, .int 0, .int 0, .int 0]))]) _ _ := hW
  refine f_callv (wr := []) (ww := idw) hW (w_runI (ww := idw) (As := [.int x1, .int x2, .int x3, .int x4]) C (wi_right (wr := []) hW) (mX7_init_1 _) w_blind (fun U hU hV => w_pre (wi_right (wr := []) hW) U hU hV) ⟨(lwg_at 474 (by decide +kernel) rfl), (lwg_at 83 (by decide +kernel) rfl), (lwg_at 472 (by decide +kernel) rfl)⟩ rfl (lwg_at 473 (by decide +kernel) rfl) (np := 4) (by decide +kernel) ⟨rfl, rfl⟩ ⟨Nat.le_of_ble_eq_true rfl, Nat.le_of_ble_eq_true rfl⟩ rfl hl.1 rfl (Nat.le_of_ble_eq_true rfl) dX10_newcomer_41 ⟨Nat.le_of_ble_eq_true rfl, Nat.le_of_ble_eq_true rfl⟩) (fun u H locs hq hW => ?_)
  subst hq
  refine W.widen (k := 1) (n := 4) (by omega) (by omega) ?_
  refine lv_goto (tgt := 103) hx hb dX10_newcomer_44 (by decide) ?_
  exact w_aret (f := Value.ref) (r := q0) C hs hr (Or.inl ⟨_, rfl⟩) hk hW dX10_newcomer_103 (Or.inr ⟨_, rfl⟩) rfl
set_option maxHeartbeats 4000000 in
set_option maxRecDepth 100000 in
theorem mX10_newcomer_2 {l : Launch} {D : va_G} {x1 x2 x3 x4 : Int32} {ty : List (ClassId × FieldType)} (sz : Nat) : Met l yX10_newcomer (cws yX10_newcomer cX10_newcomer 5 (some (.object "HermitsSpoon$Hermit"))) ({ frames := 4, cells := 1, slots := 4, locals := 84 } : Room) (va_Pc [.int 2, .int x1, .int x2, .int x3, .int x4] (WP D idw ty [] sz)) (QcR Value.ref (fun (a : Nat) (u : va_W) => u = [(a, .inr (2, [.int 0, .int x2, .int x3, .int x4]))]) (WB D idw ty [] sz) (va_A (idw []) sz)) 1 4 (va_A (idw []) sz) := by
  refine w_enter (ww := idw) (σ := []) (by decide) (Nat.le_of_ble_eq_true rfl) (fun p e s m args below meth c ls C hr hk hn hs hW hl => ?_)
  have hx := C.1
  have hb := C.2.1
  have hl : lv_has ls 5 [(0, .int 2), (1, .int x1), (2, .int x2), (3, .int x3), (4, .int x4)] := hl
  refine lv_iload_n hx hb dX10_newcomer_0 rfl (lv_at hl 0 rfl) ?_
  refine lv_tableIn (off := 46) (tgt := 47) hx hb dX10_newcomer_1 (by decide) (by decide) (by decide) (by decide) ?_
  refine w_new C hW inK2g tyX1 tyX1_ok (lwg_at 502 (by decide +kernel) rfl) (lwg_at 503 (by decide +kernel) rfl) (lwg_at 84 (by decide +kernel) rfl) (ci := 2) rfl (fs := [.int 0, .int 0, .int 0, .int 0]) (fun j hj => by rcases (show j = 0 ∨ j = 1 ∨ j = 2 ∨ j = 3 by omega) with rfl | rfl | rfl | rfl <;> rfl) (Nat.le_of_ble_eq_true rfl) (Nat.le_of_ble_eq_true rfl) dX10_newcomer_47 (fun q0 H hW => ?_)
  refine W.widen (k := 1) (n := 4) (by omega) (by omega) ?_
  replace hW : WI D idw ty (va_A (idw []) sz) s ([(q0, .inr (2, [.int 0, .int 0, .int 0, .int 0]))]) _ _ := hW
  refine lv_dup hx hb dX10_newcomer_50 rfl ?_
  refine lv_iload_n hx hb dX10_newcomer_51 rfl (lv_at hl 2 rfl) ?_
  refine lv_iload_n hx hb dX10_newcomer_52 rfl (lv_at hl 3 rfl) ?_
  refine lv_iload hx hb dX10_newcomer_53 (lv_at hl 4 rfl) ?_
  replace hW : WI D idw ty (va_A (idw []) sz) s ([] ++ [(q0, .inr (2, [.int 0, .int 0, .int 0, .int 0]))]) _ _ := hW
  refine f_callv (wr := []) (ww := idw) hW (w_runI (ww := idw) (As := [.int x2, .int x3, .int x4]) C (wi_right (wr := []) hW) (mX1_init_2 _) w_blind (fun U hU hV => w_pre (wi_right (wr := []) hW) U hU hV) ⟨(lwg_at 506 (by decide +kernel) rfl), (lwg_at 84 (by decide +kernel) rfl), (lwg_at 504 (by decide +kernel) rfl)⟩ rfl (lwg_at 505 (by decide +kernel) rfl) (np := 3) (by decide +kernel) ⟨rfl, rfl⟩ ⟨Nat.le_of_ble_eq_true rfl, Nat.le_of_ble_eq_true rfl⟩ rfl hl.1 rfl (Nat.le_of_ble_eq_true rfl) dX10_newcomer_55 ⟨Nat.le_of_ble_eq_true rfl, Nat.le_of_ble_eq_true rfl⟩) (fun u H locs hq hW => ?_)
  subst hq
  refine W.widen (k := 1) (n := 4) (by omega) (by omega) ?_
  refine lv_goto (tgt := 103) hx hb dX10_newcomer_58 (by decide) ?_
  exact w_aret (f := Value.ref) (r := q0) C hs hr (Or.inl ⟨_, rfl⟩) hk hW dX10_newcomer_103 (Or.inr ⟨_, rfl⟩) rfl
set_option maxHeartbeats 4000000 in
set_option maxRecDepth 100000 in
theorem mX10_newcomer_3 {l : Launch} {D : va_G} {x1 x2 x3 x4 : Int32} {ty : List (ClassId × FieldType)} (sz : Nat) : Met l yX10_newcomer (cws yX10_newcomer cX10_newcomer 5 (some (.object "HermitsSpoon$Hermit"))) ({ frames := 4, cells := 1, slots := 4, locals := 84 } : Room) (va_Pc [.int 3, .int x1, .int x2, .int x3, .int x4] (WP D idw ty [] sz)) (QcR Value.ref (fun (a : Nat) (u : va_W) => u = [(a, .inr (4, [.int x1, .int x2, .int x3, .int x4]))]) (WB D idw ty [] sz) (va_A (idw []) sz)) 1 4 (va_A (idw []) sz) := by
  refine w_enter (ww := idw) (σ := []) (by decide) (Nat.le_of_ble_eq_true rfl) (fun p e s m args below meth c ls C hr hk hn hs hW hl => ?_)
  have hx := C.1
  have hb := C.2.1
  have hl : lv_has ls 5 [(0, .int 3), (1, .int x1), (2, .int x2), (3, .int x3), (4, .int x4)] := hl
  refine lv_iload_n hx hb dX10_newcomer_0 rfl (lv_at hl 0 rfl) ?_
  refine lv_tableIn (off := 60) (tgt := 61) hx hb dX10_newcomer_1 (by decide) (by decide) (by decide) (by decide) ?_
  refine w_new C hW inK3g tyX3 tyX3_ok (lwg_at 513 (by decide +kernel) rfl) (lwg_at 514 (by decide +kernel) rfl) (lwg_at 85 (by decide +kernel) rfl) (ci := 4) rfl (fs := [.int 0, .int 0, .int 0, .int 0]) (fun j hj => by rcases (show j = 0 ∨ j = 1 ∨ j = 2 ∨ j = 3 by omega) with rfl | rfl | rfl | rfl <;> rfl) (Nat.le_of_ble_eq_true rfl) (Nat.le_of_ble_eq_true rfl) dX10_newcomer_61 (fun q0 H hW => ?_)
  refine W.widen (k := 1) (n := 4) (by omega) (by omega) ?_
  replace hW : WI D idw ty (va_A (idw []) sz) s ([(q0, .inr (4, [.int 0, .int 0, .int 0, .int 0]))]) _ _ := hW
  refine lv_dup hx hb dX10_newcomer_64 rfl ?_
  refine lv_iload_n hx hb dX10_newcomer_65 rfl (lv_at hl 1 rfl) ?_
  refine lv_iload_n hx hb dX10_newcomer_66 rfl (lv_at hl 2 rfl) ?_
  refine lv_iload_n hx hb dX10_newcomer_67 rfl (lv_at hl 3 rfl) ?_
  refine lv_iload hx hb dX10_newcomer_68 (lv_at hl 4 rfl) ?_
  replace hW : WI D idw ty (va_A (idw []) sz) s ([] ++ [(q0, .inr (4, [.int 0, .int 0, .int 0, .int 0]))]) _ _ := hW
  refine f_callv (wr := []) (ww := idw) hW (w_runI (ww := idw) (As := [.int x1, .int x2, .int x3, .int x4]) C (wi_right (wr := []) hW) (mX3_init_3 _) w_blind (fun U hU hV => w_pre (wi_right (wr := []) hW) U hU hV) ⟨(lwg_at 517 (by decide +kernel) rfl), (lwg_at 85 (by decide +kernel) rfl), (lwg_at 515 (by decide +kernel) rfl)⟩ rfl (lwg_at 516 (by decide +kernel) rfl) (np := 4) (by decide +kernel) ⟨rfl, rfl⟩ ⟨Nat.le_of_ble_eq_true rfl, Nat.le_of_ble_eq_true rfl⟩ rfl hl.1 rfl (Nat.le_of_ble_eq_true rfl) dX10_newcomer_70 ⟨Nat.le_of_ble_eq_true rfl, Nat.le_of_ble_eq_true rfl⟩) (fun u H locs hq hW => ?_)
  subst hq
  refine W.widen (k := 1) (n := 4) (by omega) (by omega) ?_
  refine lv_goto (tgt := 103) hx hb dX10_newcomer_73 (by decide) ?_
  exact w_aret (f := Value.ref) (r := q0) C hs hr (Or.inl ⟨_, rfl⟩) hk hW dX10_newcomer_103 (Or.inr ⟨_, rfl⟩) rfl
set_option maxHeartbeats 4000000 in
set_option maxRecDepth 100000 in
theorem mX10_newcomer_4 {l : Launch} {D : va_G} {x1 x2 x3 x4 : Int32} {ty : List (ClassId × FieldType)} (sz : Nat) : Met l yX10_newcomer (cws yX10_newcomer cX10_newcomer 5 (some (.object "HermitsSpoon$Hermit"))) ({ frames := 4, cells := 1, slots := 4, locals := 84 } : Room) (va_Pc [.int 4, .int x1, .int x2, .int x3, .int x4] (WP D idw ty [] sz)) (QcR Value.ref (fun (a : Nat) (u : va_W) => u = [(a, .inr (3, [.int x1, .int x2, .int x3, .int x4]))]) (WB D idw ty [] sz) (va_A (idw []) sz)) 1 4 (va_A (idw []) sz) := by
  refine w_enter (ww := idw) (σ := []) (by decide) (Nat.le_of_ble_eq_true rfl) (fun p e s m args below meth c ls C hr hk hn hs hW hl => ?_)
  have hx := C.1
  have hb := C.2.1
  have hl : lv_has ls 5 [(0, .int 4), (1, .int x1), (2, .int x2), (3, .int x3), (4, .int x4)] := hl
  refine lv_iload_n hx hb dX10_newcomer_0 rfl (lv_at hl 0 rfl) ?_
  refine lv_tableIn (off := 75) (tgt := 76) hx hb dX10_newcomer_1 (by decide) (by decide) (by decide) (by decide) ?_
  refine w_new C hW inK4g tyX2 tyX2_ok (lwg_at 524 (by decide +kernel) rfl) (lwg_at 525 (by decide +kernel) rfl) (lwg_at 86 (by decide +kernel) rfl) (ci := 3) rfl (fs := [.int 0, .int 0, .int 0, .int 0]) (fun j hj => by rcases (show j = 0 ∨ j = 1 ∨ j = 2 ∨ j = 3 by omega) with rfl | rfl | rfl | rfl <;> rfl) (Nat.le_of_ble_eq_true rfl) (Nat.le_of_ble_eq_true rfl) dX10_newcomer_76 (fun q0 H hW => ?_)
  refine W.widen (k := 1) (n := 4) (by omega) (by omega) ?_
  replace hW : WI D idw ty (va_A (idw []) sz) s ([(q0, .inr (3, [.int 0, .int 0, .int 0, .int 0]))]) _ _ := hW
  refine lv_dup hx hb dX10_newcomer_79 rfl ?_
  refine lv_iload_n hx hb dX10_newcomer_80 rfl (lv_at hl 1 rfl) ?_
  refine lv_iload_n hx hb dX10_newcomer_81 rfl (lv_at hl 2 rfl) ?_
  refine lv_iload_n hx hb dX10_newcomer_82 rfl (lv_at hl 3 rfl) ?_
  refine lv_iload hx hb dX10_newcomer_83 (lv_at hl 4 rfl) ?_
  replace hW : WI D idw ty (va_A (idw []) sz) s ([] ++ [(q0, .inr (3, [.int 0, .int 0, .int 0, .int 0]))]) _ _ := hW
  refine f_callv (wr := []) (ww := idw) hW (w_runI (ww := idw) (As := [.int x1, .int x2, .int x3, .int x4]) C (wi_right (wr := []) hW) (mX2_init_4 _) w_blind (fun U hU hV => w_pre (wi_right (wr := []) hW) U hU hV) ⟨(lwg_at 528 (by decide +kernel) rfl), (lwg_at 86 (by decide +kernel) rfl), (lwg_at 526 (by decide +kernel) rfl)⟩ rfl (lwg_at 527 (by decide +kernel) rfl) (np := 4) (by decide +kernel) ⟨rfl, rfl⟩ ⟨Nat.le_of_ble_eq_true rfl, Nat.le_of_ble_eq_true rfl⟩ rfl hl.1 rfl (Nat.le_of_ble_eq_true rfl) dX10_newcomer_85 ⟨Nat.le_of_ble_eq_true rfl, Nat.le_of_ble_eq_true rfl⟩) (fun u H locs hq hW => ?_)
  subst hq
  refine W.widen (k := 1) (n := 4) (by omega) (by omega) ?_
  refine lv_goto (tgt := 103) hx hb dX10_newcomer_88 (by decide) ?_
  exact w_aret (f := Value.ref) (r := q0) C hs hr (Or.inl ⟨_, rfl⟩) hk hW dX10_newcomer_103 (Or.inr ⟨_, rfl⟩) rfl
set_option maxHeartbeats 4000000 in
set_option maxRecDepth 100000 in
theorem mX9_init {l : Launch} {D : va_G} {a pg sg : Nat} {xp : Nat → Int32} {ty : List (ClassId × FieldType)} (hz0 : isB (xp 4)) (hz2 : isB (xp 6)) (sz : Nat) : Met l yX9_init (cws yX9_init cX9_init 2 none) ({ frames := 1, cells := 0, slots := 0, locals := 12 } : Room) (va_Pc [.ref a, .ref pg] (WP D idw ty [(pg, .inr (6, [.ref sg, .int (xp 1), .int (xp 2), .int (xp 3), .int (xp 4), .int (xp 5), .int (xp 6), .int (xp 7)])), (a, .inr (10, [.int 0, .int 0, .int 0, .int 0]))] sz)) (va_Qv (fun u : va_W => u = [(pg, .inr (6, [.ref sg, .int (xp 1), .int (xp 2), .int (xp 3), .int (xp 4), .int (xp 5), .int (xp 6), .int (xp 7)])), (a, .inr (10, [.int (xp 4), .int (xp 5), .int (xp 6), .int (xp 7)]))]) (WB D idw ty [(pg, .inr (6, [.ref sg, .int (xp 1), .int (xp 2), .int (xp 3), .int (xp 4), .int (xp 5), .int (xp 6), .int (xp 7)])), (a, .inr (10, [.int 0, .int 0, .int 0, .int 0]))] sz) (va_A (idw [(pg, .inr (6, [.ref sg, .int (xp 1), .int (xp 2), .int (xp 3), .int (xp 4), .int (xp 5), .int (xp 6), .int (xp 7)])), (a, .inr (10, [.int 0, .int 0, .int 0, .int 0]))]) sz)) 0 0 (va_A (idw [(pg, .inr (6, [.ref sg, .int (xp 1), .int (xp 2), .int (xp 3), .int (xp 4), .int (xp 5), .int (xp 6), .int (xp 7)])), (a, .inr (10, [.int 0, .int 0, .int 0, .int 0]))]) sz) := by
  refine w_enter (ww := idw) (σ := [(pg, .inr (6, [.ref sg, .int (xp 1), .int (xp 2), .int (xp 3), .int (xp 4), .int (xp 5), .int (xp 6), .int (xp 7)])), (a, .inr (10, [.int 0, .int 0, .int 0, .int 0]))]) (by decide) (Nat.le_of_ble_eq_true rfl) (fun p e s m args below meth c ls C hr hk hn hs hW hl => ?_)
  have hx := C.1
  have hb := C.2.1
  have hl : lv_has ls 2 [(0, .ref a), (1, .ref pg)] := hl
  refine lv_aload_n hx hb dX9_init_0 rfl (lv_at hl 0 rfl) ?_
  refine w_objInit C (lwg_at 344 (by decide +kernel) rfl) (lwg_at 93 (by decide +kernel) rfl) (lwg_at 94 (by decide +kernel) rfl) hl.1 dX9_init_1 (Nat.le_of_ble_eq_true rfl) (Nat.le_of_ble_eq_true rfl) ?_
  refine lv_aload_n hx hb dX9_init_4 rfl (lv_at hl 0 rfl) ?_
  refine lv_aload_n hx hb dX9_init_5 rfl (lv_at hl 1 rfl) ?_
  refine w_get C hW inPg (q0 := 0) (ci := 6) (k := 4) rfl rfl (by decide) xl_X9_7 rfl rfl dX9_init_6 ?_
  refine w_putF C hn hW inVg tyX9 tyX9_ok nmX9 (q0 := 1) (ci := 10) (k := 0) rfl rfl (by decide) xl_X9_13 rfl rfl (isB_nar hz0) (isB_fit hz0) (Nat.le_of_ble_eq_true rfl) rfl dX9_init_9 (fun H locs hW => ?_)
  replace hW : WI D idw ty (va_A (idw [(pg, .inr (6, [.ref sg, .int (xp 1), .int (xp 2), .int (xp 3), .int (xp 4), .int (xp 5), .int (xp 6), .int (xp 7)])), (a, .inr (10, [.int 0, .int 0, .int 0, .int 0]))]) sz) s ([(pg, .inr (6, [.ref sg, .int (xp 1), .int (xp 2), .int (xp 3), .int (xp 4), .int (xp 5), .int (xp 6), .int (xp 7)])), (a, .inr (10, [.int (xp 4), .int 0, .int 0, .int 0]))]) _ _ := hW
  refine lv_aload_n hx hb dX9_init_12 rfl (lv_at hl 0 rfl) ?_
  refine lv_aload_n hx hb dX9_init_13 rfl (lv_at hl 1 rfl) ?_
  refine w_get C hW inPg (q0 := 0) (ci := 6) (k := 5) rfl rfl (by decide) xl_X9_16 rfl rfl dX9_init_14 ?_
  refine w_putF C hn hW inVg tyX9 tyX9_ok nmX9 (q0 := 1) (ci := 10) (k := 1) rfl rfl (by decide) xl_X9_20 rfl rfl rfl rfl (Nat.le_of_ble_eq_true rfl) rfl dX9_init_17 (fun H locs hW => ?_)
  replace hW : WI D idw ty (va_A (idw [(pg, .inr (6, [.ref sg, .int (xp 1), .int (xp 2), .int (xp 3), .int (xp 4), .int (xp 5), .int (xp 6), .int (xp 7)])), (a, .inr (10, [.int 0, .int 0, .int 0, .int 0]))]) sz) s ([(pg, .inr (6, [.ref sg, .int (xp 1), .int (xp 2), .int (xp 3), .int (xp 4), .int (xp 5), .int (xp 6), .int (xp 7)])), (a, .inr (10, [.int (xp 4), .int (xp 5), .int 0, .int 0]))]) _ _ := hW
  refine lv_aload_n hx hb dX9_init_20 rfl (lv_at hl 0 rfl) ?_
  refine lv_aload_n hx hb dX9_init_21 rfl (lv_at hl 1 rfl) ?_
  refine w_get C hW inPg (q0 := 0) (ci := 6) (k := 6) rfl rfl (by decide) xl_X9_21 rfl rfl dX9_init_22 ?_
  refine w_putF C hn hW inVg tyX9 tyX9_ok nmX9 (q0 := 1) (ci := 10) (k := 2) rfl rfl (by decide) xl_X9_24 rfl rfl (isB_nar hz2) (isB_fit hz2) (Nat.le_of_ble_eq_true rfl) rfl dX9_init_25 (fun H locs hW => ?_)
  replace hW : WI D idw ty (va_A (idw [(pg, .inr (6, [.ref sg, .int (xp 1), .int (xp 2), .int (xp 3), .int (xp 4), .int (xp 5), .int (xp 6), .int (xp 7)])), (a, .inr (10, [.int 0, .int 0, .int 0, .int 0]))]) sz) s ([(pg, .inr (6, [.ref sg, .int (xp 1), .int (xp 2), .int (xp 3), .int (xp 4), .int (xp 5), .int (xp 6), .int (xp 7)])), (a, .inr (10, [.int (xp 4), .int (xp 5), .int (xp 6), .int 0]))]) _ _ := hW
  refine lv_aload_n hx hb dX9_init_28 rfl (lv_at hl 0 rfl) ?_
  refine lv_aload_n hx hb dX9_init_29 rfl (lv_at hl 1 rfl) ?_
  refine w_get C hW inPg (q0 := 0) (ci := 6) (k := 7) rfl rfl (by decide) xl_X9_25 rfl rfl dX9_init_30 ?_
  refine w_putF C hn hW inVg tyX9 tyX9_ok nmX9 (q0 := 1) (ci := 10) (k := 3) rfl rfl (by decide) xl_X9_28 rfl rfl rfl rfl (Nat.le_of_ble_eq_true rfl) rfl dX9_init_33 (fun H locs hW => ?_)
  replace hW : WI D idw ty (va_A (idw [(pg, .inr (6, [.ref sg, .int (xp 1), .int (xp 2), .int (xp 3), .int (xp 4), .int (xp 5), .int (xp 6), .int (xp 7)])), (a, .inr (10, [.int 0, .int 0, .int 0, .int 0]))]) sz) s ([(pg, .inr (6, [.ref sg, .int (xp 1), .int (xp 2), .int (xp 3), .int (xp 4), .int (xp 5), .int (xp 6), .int (xp 7)])), (a, .inr (10, [.int (xp 4), .int (xp 5), .int (xp 6), .int (xp 7)]))]) _ _ := hW
  exact w_vret C hs hr hk hW dX9_init_36 rfl
