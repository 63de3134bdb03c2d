/-! the component as it is made -/
set_option maxHeartbeats 4000000 in
set_option maxRecDepth 100000 in
theorem mJxa1e45_init_da8c8 {l : Launch} {D : va_G} {a : Nat} {ty : List (ClassId × FieldType)} (sz : Nat) : Met l yJxa1e45_init_da8c8 (cws yJxa1e45_init_da8c8 cJxa1e45_init_da8c8 1 none) ({ frames := 1, cells := 0, slots := 0, locals := 12 } : Room) (va_Pc [.ref a] (WP D idw ty [(a, .inr (0, [.int 0, .null, .int 0]))] sz)) (va_Qv (fun u : va_W => u = [(a, .inr (0, [.int 0, .null, .int 0]))]) (WB D idw ty [(a, .inr (0, [.int 0, .null, .int 0]))] sz) (va_A (idw [(a, .inr (0, [.int 0, .null, .int 0]))]) sz)) 0 0 (va_A (idw [(a, .inr (0, [.int 0, .null, .int 0]))]) sz) := by
  refine w_enterF (ww := idw) (σ := [(a, .inr (0, [.int 0, .null, .int 0]))]) (by decide +kernel) (Nat.le_of_ble_eq_true rfl) (fun p e s m args below meth c ls C hr hk hn hs hW hl => ?_)
  have hx := C.1
  have hb := C.2.1
  have hl : lv_has ls 1 [(0, .ref a)] := hl
  refine lv_aload_n hx hb dJxa1e45_init_da8c8_0 rfl (lv_at hl 0 rfl) ?_
  refine w_objInit C (lwg_at 106 (by decide +kernel) rfl) (lwg_at 93 (by decide +kernel) rfl) (lwg_at 94 (by decide +kernel) rfl) hl.1 dJxa1e45_init_da8c8_1 (Nat.le_of_ble_eq_true rfl) (Nat.le_of_ble_eq_true rfl) ?_
  exact w_vret C hs hr hk hW dJxa1e45_init_da8c8_4 rfl
set_option maxHeartbeats 4000000 in
set_option maxRecDepth 100000 in
theorem mJxc12de_init_da8c8 {l : Launch} {D : va_G} {a : Nat} {ty : List (ClassId × FieldType)} (sz : Nat) : Met l yJxc12de_init_da8c8 (cws yJxc12de_init_da8c8 cJxc12de_init_da8c8 1 none) ({ frames := 2, cells := 0, slots := 0, locals := 32 } : Room) (va_Pc [.ref a] (WP D idw ty [(a, .inr (0, [.int 0, .null, .int 0]))] sz)) (va_Qv (fun u : va_W => u = [(a, .inr (0, [.int 0, .null, .int 0]))]) (WB D idw ty [(a, .inr (0, [.int 0, .null, .int 0]))] sz) (va_A (idw [(a, .inr (0, [.int 0, .null, .int 0]))]) sz)) 0 0 (va_A (idw [(a, .inr (0, [.int 0, .null, .int 0]))]) sz) := by
  refine w_enterF (ww := idw) (σ := [(a, .inr (0, [.int 0, .null, .int 0]))]) (by decide +kernel) (Nat.le_of_ble_eq_true rfl) (fun p e s m args below meth c ls C hr hk hn hs hW hl => ?_)
  have hx := C.1
  have hb := C.2.1
  have hl : lv_has ls 1 [(0, .ref a)] := hl
  refine lv_aload_n hx hb dJxc12de_init_da8c8_0 rfl (lv_at hl 0 rfl) ?_
  refine f_callv (wr := []) (ww := idw) hW (w_runI (ww := idw) C (wi_right (wr := []) hW) (mJxa1e45_init_da8c8 _) w_blind (fun U hU hV => w_pre (wi_right (wr := []) hW) U hU hV) ⟨(lwg_at 105 (by decide +kernel) rfl), (lwg_at 67 (by decide +kernel) rfl), (lwg_at 103 (by decide +kernel) rfl)⟩ rfl (lwg_at 104 (by decide +kernel) rfl) (np := 0) (by decide +kernel) ⟨rfl, rfl⟩ ⟨Nat.le_of_ble_eq_true rfl, Nat.le_of_ble_eq_true rfl⟩ rfl hl.1 rfl (Nat.le_of_ble_eq_true rfl) dJxc12de_init_da8c8_1 ⟨Nat.le_of_ble_eq_true rfl, Nat.le_of_ble_eq_true rfl⟩) (fun u H locs hq hW => ?_)
  subst hq
  replace hW : WI D idw ty (va_A (idw [(a, .inr (0, [.int 0, .null, .int 0]))]) sz) s [(a, .inr (0, [.int 0, .null, .int 0]))] H locs := hW
  refine lv_aload_n hx hb dJxc12de_init_da8c8_4 rfl (lv_at hl 0 rfl) ?_
  refine lv_iconst (v := 0) hx hb dJxc12de_init_da8c8_5 (by decide) ?_
  refine w_put (σ' := [(a, .inr (0, [.int 0, .null, .int 0]))]) C hW inLg tyJx4a65c tyJx4a65c_ok nmJx4a65c (q0 := 0) (ci := 0) (k := 0) rfl rfl (by decide) (lwg_at 111 (by decide +kernel) rfl) rfl rfl rfl rfl (Nat.le_of_ble_eq_true rfl) rfl dJxc12de_init_da8c8_6 (fun σ1 H locs e1 hW => ?_)
  subst e1
  exact w_vret C hs hr hk hW dJxc12de_init_da8c8_9 rfl
set_option maxHeartbeats 4000000 in
set_option maxRecDepth 100000 in
theorem mJx4a65c_init_da8c8 {l : Launch} {D : va_G} {a em : Nat} {ty : List (ClassId × FieldType)} (sz : Nat) : Met l yJx4a65c_init_da8c8 (cws yJx4a65c_init_da8c8 cJx4a65c_init_da8c8 1 none) ({ frames := 3, cells := 0, slots := 0, locals := 52 } : Room) (va_Pc [.ref a] (WZ D idw ty em [(a, .inr (0, [.int 0, .null, .int 0]))] sz)) (va_Qv (fun u : va_W => u = [(a, .inr (0, [.int 0, .ref em, .int 0]))]) (WB D idw ty [(a, .inr (0, [.int 0, .null, .int 0]))] sz) (va_A (idw [(a, .inr (0, [.int 0, .null, .int 0]))]) sz)) 0 0 (va_A (idw [(a, .inr (0, [.int 0, .null, .int 0]))]) sz) := by
  refine w_enterZ (ww := idw) (σ := [(a, .inr (0, [.int 0, .null, .int 0]))]) (by decide +kernel) (Nat.le_of_ble_eq_true rfl) (fun p e s m args below meth c ls C hr hk hn hs hW hZ hl => ?_)
  have hx := C.1
  have hb := C.2.1
  have hl : lv_has ls 1 [(0, .ref a)] := hl
  refine lv_aload_n hx hb dJx4a65c_init_da8c8_0 rfl (lv_at hl 0 rfl) ?_
  refine f_callv (wr := []) (ww := idw) hW (w_runI (ww := idw) C (wi_right (wr := []) hW) (mJxc12de_init_da8c8 _) w_blind (fun U hU hV => w_pre (wi_right (wr := []) hW) U hU hV) ⟨(lwg_at 102 (by decide +kernel) rfl), (lwg_at 68 (by decide +kernel) rfl), (lwg_at 100 (by decide +kernel) rfl)⟩ rfl (lwg_at 101 (by decide +kernel) rfl) (np := 0) (by decide +kernel) ⟨rfl, rfl⟩ ⟨Nat.le_of_ble_eq_true rfl, Nat.le_of_ble_eq_true rfl⟩ rfl hl.1 rfl (Nat.le_of_ble_eq_true rfl) dJx4a65c_init_da8c8_1 ⟨Nat.le_of_ble_eq_true rfl, Nat.le_of_ble_eq_true rfl⟩) (fun u H locs hq hW => ?_)
  subst hq
  replace hW : WI D idw ty (va_A (idw [(a, .inr (0, [.int 0, .null, .int 0]))]) sz) s [(a, .inr (0, [.int 0, .null, .int 0]))] H locs := hW
  refine lv_aload_n hx hb dJx4a65c_init_da8c8_4 rfl (lv_at hl 0 rfl) ?_
  refine va_gets hx hb hZ.1 hW.2.2.2.1 C.2.2.2.1 (C.2.2.2.2 _ (lwg_at 107 (by decide +kernel) rfl)) (fun _ h9 => h9) dJx4a65c_init_da8c8_5 ?_
  refine w_put (σ' := [(a, .inr (0, [.int 0, .ref em, .int 0]))]) C hW inLg tyJx4a65c tyJx4a65c_ok nmJx4a65c (q0 := 0) (ci := 0) (k := 1) rfl rfl (by decide) xl_Jx4a65c_9 rfl rfl rfl rfl (Nat.le_of_ble_eq_true rfl) rfl dJx4a65c_init_da8c8_8 (fun σ1 H locs e1 hW => ?_)
  subst e1
  exact w_vret C hs hr hk hW dJx4a65c_init_da8c8_11 rfl
set_option maxHeartbeats 4000000 in
set_option maxRecDepth 100000 in
theorem mX5_init {l : Launch} {D : va_G} {a : Nat} {cI : ClassId} {ty : List (ClassId × FieldType)} (h0 : ty[0]? = some (cI, .int)) (sz : Nat) : Met l yX5_init (cws yX5_init cX5_init 1 none) ({ frames := 1, cells := 1, slots := 16, locals := 12 } : Room) (va_Pc [.ref a] (WP D idw ty [(a, .inr (6, [.null, .int 0, .int 0, .int 0, .int 0, .int 0, .int 0, .int 0]))] sz)) (va_Qv (fun u : va_W => ∃ q : Nat, u = [(a, .inr (6, [.ref q, .int 0, .int 0, .int 0, .int 0, .int 0, .int 0, .int 0])), (q, .inl (cI, 16, .inl (fun _ => 0)))]) (WB D idw ty [(a, .inr (6, [.null, .int 0, .int 0, .int 0, .int 0, .int 0, .int 0, .int 0]))] sz) (va_A (idw [(a, .inr (6, [.null, .int 0, .int 0, .int 0, .int 0, .int 0, .int 0, .int 0]))]) sz)) 1 16 (va_A (idw [(a, .inr (6, [.null, .int 0, .int 0, .int 0, .int 0, .int 0, .int 0, .int 0]))]) sz) := by
  refine w_enter (ww := idw) (σ := [(a, .inr (6, [.null, .int 0, .int 0, .int 0, .int 0, .int 0, .int 0, .int 0]))]) (by decide) (Nat.le_of_ble_eq_true rfl) (fun p e s m args below meth c ls C hr hk hn hs hW hl => ?_)
  have hx := C.1
  have hb := C.2.1
  have hl : lv_has ls 1 [(0, .ref a)] := hl
  refine lv_aload_n hx hb dX5_init_0 rfl (lv_at hl 0 rfl) ?_
  refine w_objInit C (lwg_at 126 (by decide +kernel) rfl) (lwg_at 93 (by decide +kernel) rfl) (lwg_at 94 (by decide +kernel) rfl) hl.1 dX5_init_1 (Nat.le_of_ble_eq_true rfl) (Nat.le_of_ble_eq_true rfl) ?_
  refine lv_aload_n hx hb dX5_init_4 rfl (lv_at hl 0 rfl) ?_
  refine lv_bipush (v := 16) hx hb dX5_init_5 (by decide) ?_
  refine w_newa (atype := .int) (ety := .int) C hW (t0 := 0) (lwg_at 160 (by decide +kernel) rfl) rfl h0 (by intro C h; cases h) (a0 := (16, .inl (fun _ => 0))) (N := 16) (fun _ => rfl) (by decide) rfl (Nat.le_of_ble_eq_true rfl) (Nat.le_of_ble_eq_true rfl) (Nat.le_of_ble_eq_true rfl) dX5_init_7 (fun q0 H hW => ?_)
  refine W.widen (k := 1) (n := 16) (by omega) (by omega) ?_
  replace hW : WI D idw ty (va_A (idw [(a, .inr (6, [.null, .int 0, .int 0, .int 0, .int 0, .int 0, .int 0, .int 0]))]) sz) s ([(a, .inr (6, [.null, .int 0, .int 0, .int 0, .int 0, .int 0, .int 0, .int 0])), (q0, .inl (cI, 16, .inl (fun _ => 0)))]) _ _ := hW
  refine w_putF C hn hW inPg tyX5 tyX5_ok nmX5 (q0 := 0) (ci := 6) (k := 0) rfl rfl (by decide) xl_X5_9 rfl rfl rfl rfl (Nat.le_of_ble_eq_true rfl) rfl dX5_init_9 (fun H locs hW => ?_)
  replace hW : WI D idw ty (va_A (idw [(a, .inr (6, [.null, .int 0, .int 0, .int 0, .int 0, .int 0, .int 0, .int 0]))]) sz) s ([(a, .inr (6, [.ref q0, .int 0, .int 0, .int 0, .int 0, .int 0, .int 0, .int 0])), (q0, .inl (cI, 16, .inl (fun _ => 0)))]) _ _ := hW
  exact w_vret C hs hr hk hW dX5_init_12 ⟨q0, rfl⟩
set_option maxHeartbeats 4000000 in
set_option maxRecDepth 100000 in
theorem mX6_init {l : Launch} {D : va_G} {a t : Nat} {cI : ClassId} {ty : List (ClassId × FieldType)} (h0 : ty[0]? = some (cI, .int)) (sz : Nat) : Met l yX6_init (cws yX6_init cX6_init 2 none) ({ frames := 1, cells := 5, slots := 40, locals := 12 } : Room) (va_Pc [.ref a, .ref t] (WP D idw ty [(a, .inr (7, [.null, .null, .int 0, .int 0, .int 0, .int 0, .int 0, .int 0, .null, .null, .null, .int 0, .int 0, .null]))] sz)) (va_Qv (fun u : va_W => ∃ q0 q1 q2 q3 q4 : Nat, u = [(a, .inr (7, [.ref t, .ref q0, .int 0, .int 0, .int 0, .int 0, .int 0, .int 0, .ref q1, .ref q2, .ref q3, .int 0, .int 0, .ref q4])), (q0, .inl (cI, 5, .inl (fun _ => 0))), (q1, .inl (cI, 10, .inl (fun _ => 0))), (q2, .inl (cI, 10, .inl (fun _ => 0))), (q3, .inl (cI, 10, .inl (fun _ => 0))), (q4, .inl (cI, 5, .inl (fun _ => 0)))]) (WB D idw ty [(a, .inr (7, [.null, .null, .int 0, .int 0, .int 0, .int 0, .int 0, .int 0, .null, .null, .null, .int 0, .int 0, .null]))] sz) (va_A (idw [(a, .inr (7, [.null, .null, .int 0, .int 0, .int 0, .int 0, .int 0, .int 0, .null, .null, .null, .int 0, .int 0, .null]))]) sz)) 5 40 (va_A (idw [(a, .inr (7, [.null, .null, .int 0, .int 0, .int 0, .int 0, .int 0, .int 0, .null, .null, .null, .int 0, .int 0, .null]))]) sz) := by
  refine w_enter (ww := idw) (σ := [(a, .inr (7, [.null, .null, .int 0, .int 0, .int 0, .int 0, .int 0, .int 0, .null, .null, .null, .int 0, .int 0, .null]))]) (by decide) (Nat.le_of_ble_eq_true rfl) (fun p e s m args below meth c ls C hr hk hn hs hW hl => ?_)
  have hx := C.1
  have hb := C.2.1
  have hl : lv_has ls 2 [(0, .ref a), (1, .ref t)] := hl
  refine lv_aload_n hx hb dX6_init_0 rfl (lv_at hl 0 rfl) ?_
  refine w_objInit C (lwg_at 203 (by decide +kernel) rfl) (lwg_at 93 (by decide +kernel) rfl) (lwg_at 94 (by decide +kernel) rfl) hl.1 dX6_init_1 (Nat.le_of_ble_eq_true rfl) (Nat.le_of_ble_eq_true rfl) ?_
  refine lv_aload_n hx hb dX6_init_4 rfl (lv_at hl 0 rfl) ?_
  refine lv_iconst (v := 5) hx hb dX6_init_5 (by decide) ?_
  refine w_newa (atype := .int) (ety := .int) C hW (t0 := 0) (lwg_at 160 (by decide +kernel) rfl) rfl h0 (by intro C h; cases h) (a0 := (5, .inl (fun _ => 0))) (N := 5) (fun _ => rfl) (by decide) rfl (Nat.le_of_ble_eq_true rfl) (Nat.le_of_ble_eq_true rfl) (Nat.le_of_ble_eq_true rfl) dX6_init_6 (fun q0 H hW => ?_)
  refine W.widen (k := 1) (n := 5) (by omega) (by omega) ?_
  replace hW : WI D idw ty (va_A (idw [(a, .inr (7, [.null, .null, .int 0, .int 0, .int 0, .int 0, .int 0, .int 0, .null, .null, .null, .int 0, .int 0, .null]))]) sz) s ([(a, .inr (7, [.null, .null, .int 0, .int 0, .int 0, .int 0, .int 0, .int 0, .null, .null, .null, .int 0, .int 0, .null])), (q0, .inl (cI, 5, .inl (fun _ => 0)))]) _ _ := hW
  refine w_putF C hn hW inSg tyX6 tyX6_ok nmX6 (q0 := 0) (ci := 7) (k := 1) rfl rfl (by decide) xl_X6_9 rfl rfl rfl rfl (Nat.le_of_ble_eq_true rfl) rfl dX6_init_8 (fun H locs hW => ?_)
  replace hW : WI D idw ty (va_A (idw [(a, .inr (7, [.null, .null, .int 0, .int 0, .int 0, .int 0, .int 0, .int 0, .null, .null, .null, .int 0, .int 0, .null]))]) sz) s ([(a, .inr (7, [.null, .ref q0, .int 0, .int 0, .int 0, .int 0, .int 0, .int 0, .null, .null, .null, .int 0, .int 0, .null])), (q0, .inl (cI, 5, .inl (fun _ => 0)))]) _ _ := hW
  refine lv_aload_n hx hb dX6_init_11 rfl (lv_at hl 0 rfl) ?_
  refine lv_bipush (v := 10) hx hb dX6_init_12 (by decide) ?_
  refine w_newa (atype := .int) (ety := .int) C hW (t0 := 0) (lwg_at 160 (by decide +kernel) rfl) rfl h0 (by intro C h; cases h) (a0 := (10, .inl (fun _ => 0))) (N := 10) (fun _ => rfl) (by decide) rfl (Nat.le_of_ble_eq_true rfl) (Nat.le_of_ble_eq_true rfl) (Nat.le_of_ble_eq_true rfl) dX6_init_14 (fun q1 H hW => ?_)
  refine W.widen (k := 2) (n := 15) (by omega) (by omega) ?_
  replace hW : WI D idw ty (va_A (idw [(a, .inr (7, [.null, .null, .int 0, .int 0, .int 0, .int 0, .int 0, .int 0, .null, .null, .null, .int 0, .int 0, .null]))]) sz) s ([(a, .inr (7, [.null, .ref q0, .int 0, .int 0, .int 0, .int 0, .int 0, .int 0, .null, .null, .null, .int 0, .int 0, .null])), (q0, .inl (cI, 5, .inl (fun _ => 0))), (q1, .inl (cI, 10, .inl (fun _ => 0)))]) _ _ := hW
  refine w_putF C hn hW inSg tyX6 tyX6_ok nmX6 (q0 := 0) (ci := 7) (k := 8) rfl rfl (by decide) xl_X6_15 rfl rfl rfl rfl (Nat.le_of_ble_eq_true rfl) rfl dX6_init_16 (fun H locs hW => ?_)
  replace hW : WI D idw ty (va_A (idw [(a, .inr (7, [.null, .null, .int 0, .int 0, .int 0, .int 0, .int 0, .int 0, .null, .null, .null, .int 0, .int 0, .null]))]) sz) s ([(a, .inr (7, [.null, .ref q0, .int 0, .int 0, .int 0, .int 0, .int 0, .int 0, .ref q1, .null, .null, .int 0, .int 0, .null])), (q0, .inl (cI, 5, .inl (fun _ => 0))), (q1, .inl (cI, 10, .inl (fun _ => 0)))]) _ _ := hW
  refine lv_aload_n hx hb dX6_init_19 rfl (lv_at hl 0 rfl) ?_
  refine lv_bipush (v := 10) hx hb dX6_init_20 (by decide) ?_
  refine w_newa (atype := .int) (ety := .int) C hW (t0 := 0) (lwg_at 160 (by decide +kernel) rfl) rfl h0 (by intro C h; cases h) (a0 := (10, .inl (fun _ => 0))) (N := 10) (fun _ => rfl) (by decide) rfl (Nat.le_of_ble_eq_true rfl) (Nat.le_of_ble_eq_true rfl) (Nat.le_of_ble_eq_true rfl) dX6_init_22 (fun q2 H hW => ?_)
  refine W.widen (k := 3) (n := 25) (by omega) (by omega) ?_
  replace hW : WI D idw ty (va_A (idw [(a, .inr (7, [.null, .null, .int 0, .int 0, .int 0, .int 0, .int 0, .int 0, .null, .null, .null, .int 0, .int 0, .null]))]) sz) s ([(a, .inr (7, [.null, .ref q0, .int 0, .int 0, .int 0, .int 0, .int 0, .int 0, .ref q1, .null, .null, .int 0, .int 0, .null])), (q0, .inl (cI, 5, .inl (fun _ => 0))), (q1, .inl (cI, 10, .inl (fun _ => 0))), (q2, .inl (cI, 10, .inl (fun _ => 0)))]) _ _ := hW
  refine w_putF C hn hW inSg tyX6 tyX6_ok nmX6 (q0 := 0) (ci := 7) (k := 9) rfl rfl (by decide) xl_X6_18 rfl rfl rfl rfl (Nat.le_of_ble_eq_true rfl) rfl dX6_init_24 (fun H locs hW => ?_)
  replace hW : WI D idw ty (va_A (idw [(a, .inr (7, [.null, .null, .int 0, .int 0, .int 0, .int 0, .int 0, .int 0, .null, .null, .null, .int 0, .int 0, .null]))]) sz) s ([(a, .inr (7, [.null, .ref q0, .int 0, .int 0, .int 0, .int 0, .int 0, .int 0, .ref q1, .ref q2, .null, .int 0, .int 0, .null])), (q0, .inl (cI, 5, .inl (fun _ => 0))), (q1, .inl (cI, 10, .inl (fun _ => 0))), (q2, .inl (cI, 10, .inl (fun _ => 0)))]) _ _ := hW
  refine lv_aload_n hx hb dX6_init_27 rfl (lv_at hl 0 rfl) ?_
  refine lv_bipush (v := 10) hx hb dX6_init_28 (by decide) ?_
  refine w_newa (atype := .int) (ety := .int) C hW (t0 := 0) (lwg_at 160 (by decide +kernel) rfl) rfl h0 (by intro C h; cases h) (a0 := (10, .inl (fun _ => 0))) (N := 10) (fun _ => rfl) (by decide) rfl (Nat.le_of_ble_eq_true rfl) (Nat.le_of_ble_eq_true rfl) (Nat.le_of_ble_eq_true rfl) dX6_init_30 (fun q3 H hW => ?_)
  refine W.widen (k := 4) (n := 35) (by omega) (by omega) ?_
  replace hW : WI D idw ty (va_A (idw [(a, .inr (7, [.null, .null, .int 0, .int 0, .int 0, .int 0, .int 0, .int 0, .null, .null, .null, .int 0, .int 0, .null]))]) sz) s ([(a, .inr (7, [.null, .ref q0, .int 0, .int 0, .int 0, .int 0, .int 0, .int 0, .ref q1, .ref q2, .null, .int 0, .int 0, .null])), (q0, .inl (cI, 5, .inl (fun _ => 0))), (q1, .inl (cI, 10, .inl (fun _ => 0))), (q2, .inl (cI, 10, .inl (fun _ => 0))), (q3, .inl (cI, 10, .inl (fun _ => 0)))]) _ _ := hW
  refine w_putF C hn hW inSg tyX6 tyX6_ok nmX6 (q0 := 0) (ci := 7) (k := 10) rfl rfl (by decide) xl_X6_21 rfl rfl rfl rfl (Nat.le_of_ble_eq_true rfl) rfl dX6_init_32 (fun H locs hW => ?_)
  replace hW : WI D idw ty (va_A (idw [(a, .inr (7, [.null, .null, .int 0, .int 0, .int 0, .int 0, .int 0, .int 0, .null, .null, .null, .int 0, .int 0, .null]))]) sz) s ([(a, .inr (7, [.null, .ref q0, .int 0, .int 0, .int 0, .int 0, .int 0, .int 0, .ref q1, .ref q2, .ref q3, .int 0, .int 0, .null])), (q0, .inl (cI, 5, .inl (fun _ => 0))), (q1, .inl (cI, 10, .inl (fun _ => 0))), (q2, .inl (cI, 10, .inl (fun _ => 0))), (q3, .inl (cI, 10, .inl (fun _ => 0)))]) _ _ := hW
  refine lv_aload_n hx hb dX6_init_35 rfl (lv_at hl 0 rfl) ?_
  refine lv_iconst (v := 5) hx hb dX6_init_36 (by decide) ?_
  refine w_newa (atype := .int) (ety := .int) C hW (t0 := 0) (lwg_at 160 (by decide +kernel) rfl) rfl h0 (by intro C h; cases h) (a0 := (5, .inl (fun _ => 0))) (N := 5) (fun _ => rfl) (by decide) rfl (Nat.le_of_ble_eq_true rfl) (Nat.le_of_ble_eq_true rfl) (Nat.le_of_ble_eq_true rfl) dX6_init_37 (fun q4 H hW => ?_)
  refine W.widen (k := 5) (n := 40) (by omega) (by omega) ?_
  replace hW : WI D idw ty (va_A (idw [(a, .inr (7, [.null, .null, .int 0, .int 0, .int 0, .int 0, .int 0, .int 0, .null, .null, .null, .int 0, .int 0, .null]))]) sz) s ([(a, .inr (7, [.null, .ref q0, .int 0, .int 0, .int 0, .int 0, .int 0, .int 0, .ref q1, .ref q2, .ref q3, .int 0, .int 0, .null])), (q0, .inl (cI, 5, .inl (fun _ => 0))), (q1, .inl (cI, 10, .inl (fun _ => 0))), (q2, .inl (cI, 10, .inl (fun _ => 0))), (q3, .inl (cI, 10, .inl (fun _ => 0))), (q4, .inl (cI, 5, .inl (fun _ => 0)))]) _ _ := hW
  refine w_putF C hn hW inSg tyX6 tyX6_ok nmX6 (q0 := 0) (ci := 7) (k := 13) rfl rfl (by decide) xl_X6_24 rfl rfl rfl rfl (Nat.le_of_ble_eq_true rfl) rfl dX6_init_39 (fun H locs hW => ?_)
  replace hW : WI D idw ty (va_A (idw [(a, .inr (7, [.null, .null, .int 0, .int 0, .int 0, .int 0, .int 0, .int 0, .null, .null, .null, .int 0, .int 0, .null]))]) sz) s ([(a, .inr (7, [.null, .ref q0, .int 0, .int 0, .int 0, .int 0, .int 0, .int 0, .ref q1, .ref q2, .ref q3, .int 0, .int 0, .ref q4])), (q0, .inl (cI, 5, .inl (fun _ => 0))), (q1, .inl (cI, 10, .inl (fun _ => 0))), (q2, .inl (cI, 10, .inl (fun _ => 0))), (q3, .inl (cI, 10, .inl (fun _ => 0))), (q4, .inl (cI, 5, .inl (fun _ => 0)))]) _ _ := hW
  refine lv_aload_n hx hb dX6_init_42 rfl (lv_at hl 0 rfl) ?_
  refine lv_aload_n hx hb dX6_init_43 rfl (lv_at hl 1 rfl) ?_
  refine w_put (σ' := [(a, .inr (7, [.ref t, .ref q0, .int 0, .int 0, .int 0, .int 0, .int 0, .int 0, .ref q1, .ref q2, .ref q3, .int 0, .int 0, .ref q4])), (q0, .inl (cI, 5, .inl (fun _ => 0))), (q1, .inl (cI, 10, .inl (fun _ => 0))), (q2, .inl (cI, 10, .inl (fun _ => 0))), (q3, .inl (cI, 10, .inl (fun _ => 0))), (q4, .inl (cI, 5, .inl (fun _ => 0)))]) C hW inSg tyX6 tyX6_ok nmX6 (q0 := 0) (ci := 7) (k := 0) rfl rfl (by decide) xl_X6_27 rfl rfl rfl rfl (Nat.le_of_ble_eq_true rfl) rfl dX6_init_44 (fun σ1 H locs e1 hW => ?_)
  subst e1
  replace hW : WI D idw ty (va_A (idw [(a, .inr (7, [.null, .null, .int 0, .int 0, .int 0, .int 0, .int 0, .int 0, .null, .null, .null, .int 0, .int 0, .null]))]) sz) s ([(a, .inr (7, [.ref t, .ref q0, .int 0, .int 0, .int 0, .int 0, .int 0, .int 0, .ref q1, .ref q2, .ref q3, .int 0, .int 0, .ref q4])), (q0, .inl (cI, 5, .inl (fun _ => 0))), (q1, .inl (cI, 10, .inl (fun _ => 0))), (q2, .inl (cI, 10, .inl (fun _ => 0))), (q3, .inl (cI, 10, .inl (fun _ => 0))), (q4, .inl (cI, 5, .inl (fun _ => 0)))]) _ _ := hW
  exact w_vret C hs hr hk hW dX6_init_47 ⟨q0, q1, q2, q3, q4, rfl⟩
theorem x8_loop {p : Program} {l : Launch} {e : Env} {R : Room} {s : State} {m : MethodId} {args : Array Value} {below : List Frame} {meth : Method} {c : Code} {cells slots : Nat} {Q : State → Prop} {D : va_G} {ty : List (ClassId × FieldType)} {A : Nat → Prop} {a lh q0 q1 q2 : Nat} {cI : ClassId} (C : CallFix p m c cX8_init 3 s args lwg RX8) (h0 : ty[0]? = some (cI, .int))
    (kk : ∀ (f : Nat → Int32) (H : Heap) (locs : List Loc) (ls : Array Slot), (∀ i, i < 10 → f i = nI i) → WI D idw ty A s [(a, .inr (9, [.ref lh, .ref q0, .ref q1, .ref q2, .int 100, .int 0])), (q0, .inl (cI, 10, .inl (fun _ => 0))), (q1, .inl (cI, 10, .inl (f))), (q2, .inl (cI, 5, .inl (fun _ => 0)))] H locs → W p l e R s m args below meth c H locs cells slots Q (F0 m 59 ls [])) :
    ∀ (n i : Nat), i + n = 10 → ∀ (f : Nat → Int32) (H : Heap) (locs : List Loc) (ls : Array Slot), (∀ k, k < i → f k = nI k) → WI D idw ty A s [(a, .inr (9, [.ref lh, .ref q0, .ref q1, .ref q2, .int 100, .int 0])), (q0, .inl (cI, 10, .inl (fun _ => 0))), (q1, .inl (cI, 10, .inl (f))), (q2, .inl (cI, 5, .inl (fun _ => 0)))] H locs → lv_has ls 3 [(2, .int (nI i)), (0, .ref a), (1, .ref lh)] → W p l e R s m args below meth c H locs cells slots Q (F0 m 40 ls []) := by
  have hx := C.1
  have hb := C.2.1
  intro n
  induction n with
  | zero =>
    intro i hi f H locs ls hf hW hL
    refine lv_iload_n hx hb dX8_init_40 rfl (lv_at hL 0 rfl) ?_
    refine lv_bipush (v := 10) hx hb dX8_init_41 (by decide) ?_
    refine lv_icmp_ge (tgt := 59) hx hb dX8_init_43 (by decide) (fun h => kk f H locs ls (fun k hk => hf k (by omega)) hW) (fun h => ?_)
    exact absurd (show (10 : Int32) ≤ nI i by rw [show i = 10 by omega]; decide) h
  | succ n ih =>
    intro i hi f H locs ls hf hW hL
    refine lv_iload_n hx hb dX8_init_40 rfl (lv_at hL 0 rfl) ?_
    refine lv_bipush (v := 10) hx hb dX8_init_41 (by decide) ?_
    refine lv_icmp_ge (tgt := 59) hx hb dX8_init_43 (by decide) (fun h => ?_) (fun h => ?_)
    · exact absurd h (nI_ge (a := i) (b := 10) (by omega) (by decide))
    refine lv_aload_n hx hb dX8_init_46 rfl (lv_at hL 1 rfl) ?_
    refine w_get C hW inTg (q0 := 0) (ci := 9) (k := 2) rfl rfl (by decide) xl_X8_15 rfl rfl dX8_init_47 ?_
    refine lv_iload_n hx hb dX8_init_50 rfl (lv_at hL 0 rfl) ?_
    refine lv_iload_n hx hb dX8_init_51 rfl (lv_at hL 0 rfl) ?_
    refine w_ast (σ' := [(a, .inr (9, [.ref lh, .ref q0, .ref q1, .ref q2, .int 100, .int 0])), (q0, .inl (cI, 10, .inl (fun _ => 0))), (q1, .inl (cI, 10, .inl (upd f (nI i).toNatClampNeg (nI i)))), (q2, .inl (cI, 5, .inl (fun _ => 0)))]) C hW (q0 := 2) (t0 := 0) rfl h0 rfl (vp_in_nI (by omega) (by decide)) dX8_init_52 (fun σ1 H locs e1 hW => ?_)
    subst e1
    refine lv_iinc (v := nI (i + 1)) (lv' := [(2, .int (nI (i + 1))), (0, .ref a), (1, .ref lh)]) hx hb dX8_init_53 hL (k := 0) rfl (nI_1 i) (by decide) rfl (fun ls hL => ?_)
    refine lv_goto (tgt := 40) hx hb dX8_init_56 (by decide) ?_
    refine ih (i + 1) (by omega) _ H locs ls (fun k hk => ?_) hW hL
    rw [nI_clamp (by omega)]
    by_cases h2 : k = i
    · subst h2; exact pk_us
    · rw [pk_un h2]; exact hf k (by omega)
set_option maxHeartbeats 4000000 in
set_option maxRecDepth 100000 in
theorem mX8_init {l : Launch} {D : va_G} {a lh : Nat} {cI : ClassId} {ty : List (ClassId × FieldType)} (h0 : ty[0]? = some (cI, .int)) (sz : Nat) : Met l yX8_init (cws yX8_init cX8_init 3 none) ({ frames := 1, cells := 3, slots := 25, locals := 12 } : Room) (va_Pc [.ref a, .ref lh] (WP D idw ty [(a, .inr (9, [.null, .null, .null, .null, .int 0, .int 0]))] sz)) (va_Qv (fun u : va_W => ∃ (q0 q1 q2 : Nat) (f : Nat → Int32), (∀ i, i < 10 → f i = nI i) ∧ u = [(a, .inr (9, [.ref lh, .ref q0, .ref q1, .ref q2, .int 100, .int 0])), (q0, .inl (cI, 10, .inl (fun _ => 0))), (q1, .inl (cI, 10, .inl (f))), (q2, .inl (cI, 5, .inl (fun _ => 0)))]) (WB D idw ty [(a, .inr (9, [.null, .null, .null, .null, .int 0, .int 0]))] sz) (va_A (idw [(a, .inr (9, [.null, .null, .null, .null, .int 0, .int 0]))]) sz)) 3 25 (va_A (idw [(a, .inr (9, [.null, .null, .null, .null, .int 0, .int 0]))]) sz) := by
  refine w_enter (ww := idw) (σ := [(a, .inr (9, [.null, .null, .null, .null, .int 0, .int 0]))]) (by decide) (Nat.le_of_ble_eq_true rfl) (fun p e s m args below meth c ls C hr hk hn hs hW hL => ?_)
  have hx := C.1
  have hb := C.2.1
  have hl : lv_has ls 3 [(0, .ref a), (1, .ref lh)] := hL
  refine lv_aload_n hx hb dX8_init_0 rfl (lv_at hl 0 rfl) ?_
  refine w_objInit C (lwg_at 166 (by decide +kernel) rfl) (lwg_at 93 (by decide +kernel) rfl) (lwg_at 94 (by decide +kernel) rfl) hl.1 dX8_init_1 (Nat.le_of_ble_eq_true rfl) (Nat.le_of_ble_eq_true rfl) ?_
  refine lv_aload_n hx hb dX8_init_4 rfl (lv_at hl 0 rfl) ?_
  refine lv_bipush (v := 10) hx hb dX8_init_5 (by decide) ?_
  refine w_newa (atype := .int) (ety := .int) C hW (t0 := 0) (lwg_at 160 (by decide +kernel) rfl) rfl h0 (by intro C h; cases h) (a0 := (10, .inl (fun _ => 0))) (N := 10) (fun _ => rfl) (by decide) rfl (Nat.le_of_ble_eq_true rfl) (Nat.le_of_ble_eq_true rfl) (Nat.le_of_ble_eq_true rfl) dX8_init_7 (fun q0 H hW => ?_)
  refine W.widen (k := 1) (n := 10) (by omega) (by omega) ?_
  replace hW : WI D idw ty (va_A (idw [(a, .inr (9, [.null, .null, .null, .null, .int 0, .int 0]))]) sz) s ([(a, .inr (9, [.null, .null, .null, .null, .int 0, .int 0])), (q0, .inl (cI, 10, .inl (fun _ => 0)))]) _ _ := hW
  refine w_putF C hn hW inTg tyX8 tyX8_ok nmX8 (q0 := 0) (ci := 9) (k := 1) rfl rfl (by decide) xl_X8_9 rfl rfl rfl rfl (Nat.le_of_ble_eq_true rfl) rfl dX8_init_9 (fun H locs hW => ?_)
  replace hW : WI D idw ty (va_A (idw [(a, .inr (9, [.null, .null, .null, .null, .int 0, .int 0]))]) sz) s ([(a, .inr (9, [.null, .ref q0, .null, .null, .int 0, .int 0])), (q0, .inl (cI, 10, .inl (fun _ => 0)))]) _ _ := hW
  refine lv_aload_n hx hb dX8_init_12 rfl (lv_at hl 0 rfl) ?_
  refine lv_bipush (v := 10) hx hb dX8_init_13 (by decide) ?_
  refine w_newa (atype := .int) (ety := .int) C hW (t0 := 0) (lwg_at 160 (by decide +kernel) rfl) rfl h0 (by intro C h; cases h) (a0 := (10, .inl (fun _ => 0))) (N := 10) (fun _ => rfl) (by decide) rfl (Nat.le_of_ble_eq_true rfl) (Nat.le_of_ble_eq_true rfl) (Nat.le_of_ble_eq_true rfl) dX8_init_15 (fun q1 H hW => ?_)
  refine W.widen (k := 2) (n := 20) (by omega) (by omega) ?_
  replace hW : WI D idw ty (va_A (idw [(a, .inr (9, [.null, .null, .null, .null, .int 0, .int 0]))]) sz) s ([(a, .inr (9, [.null, .ref q0, .null, .null, .int 0, .int 0])), (q0, .inl (cI, 10, .inl (fun _ => 0))), (q1, .inl (cI, 10, .inl (fun _ => 0)))]) _ _ := hW
  refine w_putF C hn hW inTg tyX8 tyX8_ok nmX8 (q0 := 0) (ci := 9) (k := 2) rfl rfl (by decide) xl_X8_15 rfl rfl rfl rfl (Nat.le_of_ble_eq_true rfl) rfl dX8_init_17 (fun H locs hW => ?_)
  replace hW : WI D idw ty (va_A (idw [(a, .inr (9, [.null, .null, .null, .null, .int 0, .int 0]))]) sz) s ([(a, .inr (9, [.null, .ref q0, .ref q1, .null, .int 0, .int 0])), (q0, .inl (cI, 10, .inl (fun _ => 0))), (q1, .inl (cI, 10, .inl (fun _ => 0)))]) _ _ := hW
  refine lv_aload_n hx hb dX8_init_20 rfl (lv_at hl 0 rfl) ?_
  refine lv_iconst (v := 5) hx hb dX8_init_21 (by decide) ?_
  refine w_newa (atype := .int) (ety := .int) C hW (t0 := 0) (lwg_at 160 (by decide +kernel) rfl) rfl h0 (by intro C h; cases h) (a0 := (5, .inl (fun _ => 0))) (N := 5) (fun _ => rfl) (by decide) rfl (Nat.le_of_ble_eq_true rfl) (Nat.le_of_ble_eq_true rfl) (Nat.le_of_ble_eq_true rfl) dX8_init_22 (fun q2 H hW => ?_)
  refine W.widen (k := 3) (n := 25) (by omega) (by omega) ?_
  replace hW : WI D idw ty (va_A (idw [(a, .inr (9, [.null, .null, .null, .null, .int 0, .int 0]))]) sz) s ([(a, .inr (9, [.null, .ref q0, .ref q1, .null, .int 0, .int 0])), (q0, .inl (cI, 10, .inl (fun _ => 0))), (q1, .inl (cI, 10, .inl (fun _ => 0))), (q2, .inl (cI, 5, .inl (fun _ => 0)))]) _ _ := hW
  refine w_putF C hn hW inTg tyX8 tyX8_ok nmX8 (q0 := 0) (ci := 9) (k := 3) rfl rfl (by decide) xl_X8_18 rfl rfl rfl rfl (Nat.le_of_ble_eq_true rfl) rfl dX8_init_24 (fun H locs hW => ?_)
  replace hW : WI D idw ty (va_A (idw [(a, .inr (9, [.null, .null, .null, .null, .int 0, .int 0]))]) sz) s ([(a, .inr (9, [.null, .ref q0, .ref q1, .ref q2, .int 0, .int 0])), (q0, .inl (cI, 10, .inl (fun _ => 0))), (q1, .inl (cI, 10, .inl (fun _ => 0))), (q2, .inl (cI, 5, .inl (fun _ => 0)))]) _ _ := hW
  refine lv_aload_n hx hb dX8_init_27 rfl (lv_at hl 0 rfl) ?_
  refine lv_bipush (v := 100) hx hb dX8_init_28 (by decide) ?_
  refine w_put (σ' := [(a, .inr (9, [.null, .ref q0, .ref q1, .ref q2, .int 100, .int 0])), (q0, .inl (cI, 10, .inl (fun _ => 0))), (q1, .inl (cI, 10, .inl (fun _ => 0))), (q2, .inl (cI, 5, .inl (fun _ => 0)))]) C hW inTg tyX8 tyX8_ok nmX8 (q0 := 0) (ci := 9) (k := 4) rfl rfl (by decide) xl_X8_21 rfl rfl rfl rfl (Nat.le_of_ble_eq_true rfl) rfl dX8_init_30 (fun σ1 H locs e1 hW => ?_)
  subst e1
  replace hW : WI D idw ty (va_A (idw [(a, .inr (9, [.null, .null, .null, .null, .int 0, .int 0]))]) sz) s ([(a, .inr (9, [.null, .ref q0, .ref q1, .ref q2, .int 100, .int 0])), (q0, .inl (cI, 10, .inl (fun _ => 0))), (q1, .inl (cI, 10, .inl (fun _ => 0))), (q2, .inl (cI, 5, .inl (fun _ => 0)))]) _ _ := hW
  refine lv_aload_n hx hb dX8_init_33 rfl (lv_at hl 0 rfl) ?_
  refine lv_aload_n hx hb dX8_init_34 rfl (lv_at hl 1 rfl) ?_
  refine w_putF C hn hW inTg tyX8 tyX8_ok nmX8 (q0 := 0) (ci := 9) (k := 0) rfl rfl (by decide) xl_X8_25 rfl rfl rfl rfl (Nat.le_of_ble_eq_true rfl) rfl dX8_init_35 (fun H locs hW => ?_)
  replace hW : WI D idw ty (va_A (idw [(a, .inr (9, [.null, .null, .null, .null, .int 0, .int 0]))]) sz) s ([(a, .inr (9, [.ref lh, .ref q0, .ref q1, .ref q2, .int 100, .int 0])), (q0, .inl (cI, 10, .inl (fun _ => 0))), (q1, .inl (cI, 10, .inl (fun _ => 0))), (q2, .inl (cI, 5, .inl (fun _ => 0)))]) _ _ := hW
  refine lv_iconst (v := 0) hx hb dX8_init_38 (by decide) ?_
  refine lv_istore_n (lv' := [(2, .int 0), (0, .ref a), (1, .ref lh)]) hx hb dX8_init_39 rfl hl (by decide) rfl (fun ls hl => ?_)
  refine x8_loop C h0 (fun f H locs ls hf hW => ?_) 10 0 rfl _ H locs ls (fun k hk => absurd hk (Nat.not_lt_zero k)) hW hl
  exact w_vret C hs hr hk hW dX8_init_59 ⟨q0, q1, q2, f, hf, rfl⟩
