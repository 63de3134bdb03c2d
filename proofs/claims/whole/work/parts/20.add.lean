/-! adding to a list: the first element of all, or one more where there is room -/
theorem f_callg {p : Program} {l : Launch} {e : Env} {R : Room} {s : State} {m : MethodId} {args : Array Value} {below : List Frame} {meth : Method} {c : Code} {H : Heap} {locs : List Loc} {cells slots : Nat} {Q : State → Prop} {pc : Nat} {ls : Array Slot} {rest : List Value} {D : va_G} {ty : List (ClassId × FieldType)} {A : Nat → Prop} {wr : va_W}
    {S α : Type} {f : α → Value} {ww : S → va_W} {ty' : List (ClassId × FieldType)} {σ : S} (hW : WI D idw ty A s (wr ++ ww σ) H locs) {mc ms : Nat} {st : List Value} {post : α → S → Prop} {a : Array Value} (hr : va_Run p l e R s m args below meth c H locs cells slots mc ms (F0 m pc ls st) rest (QcR f post (WB D ww ty' σ H.size) (va_A (ww σ) H.size) a) (va_A (ww σ) H.size))
    (kk : ∀ (r : α) (σ' : S) (H' : Heap) (locs' : List Loc), post r σ' → WI D idw ty A s (wr ++ ww σ') H' locs' → W p l e R s m args below meth c H' locs' (cells + mc) (slots + ms) Q (F0 m (pc + 3) ls (f r :: rest))) : W p l e R s m args below meth c H locs cells slots Q (F0 m pc ls st) := by
  intro T hT X
  obtain ⟨v, st₀, t, T', L, h0, X', hL, e1, e2, ⟨⟨r, u, hv, hp, hb⟩, hz, hk⟩, st⟩ := hr T hT X
  cases hv
  rw [h0] at hz hk
  have hS := hW.2.2.2.1
  have hA := w_sub (wi_right hW)
  have hS' : va_S A s.heap T'.heap (locs ++ L) := ⟨Nat.le_trans hS.1 (by rw [e1]; exact hz), fun q h1 h2 => by rw [e1, hk q (Nat.lt_of_lt_of_le h1 hS.1) (fun z => h2 (hA q z))]; exact hS.2.1 q h1 h2, fun q hq => by
      rcases List.mem_append.mp hq with h | h
      · exact hS.2.2 q h
      · exact hA _ (hL q h)⟩
  obtain ⟨t2, a1, b1⟩ := kk r u T'.heap (locs ++ L) hp (wi_join hW (fun q h1 h2 => by rw [e1]; exact hk q h1 h2) (by rw [e1]; exact hb.1) hb.2.2 hS') T' rfl X'
  exact ⟨t2, st t2 a1, b1⟩
/-- a call of an instance method of the class of the receiver, any start -/
theorem f_runV {p : Program} {l : Launch} {e : Env} {R : Room} {s : State} {m : MethodId} {args : Array Value} {below : List Frame} {meth : Method} {c : Code} {H : Heap} {locs : List Loc} {cells slots : Nat} {cc : ByteArray} {pc : Nat} {ls : Array Slot} {rest : List Value} {own : String} {nL : Nat} {D : va_G} {ty : List (ClassId × FieldType)} {A : Nat → Prop} {S : Type} {ww : S → va_W} {σ : S}
    (C : CallFix p m c cc nL s args lwg own) (hW : WI D ww ty A s σ H locs) {y : MethodName} {b : ByteArray} {n idx np q0 ci a : Nat} {ret : Option FieldType} {rm : Room} {As : List Value} {mc ms : Nat} {Pc : Array Value → State → Prop} {Qc : Array Value → State → Outcome → State → Prop} {free : Addr → Prop} {fs : List Value} {vc : vw_C}
    (hM : Met l y (cws y b n ret) rm Pc Qc mc ms free) (hbl : FrameBlind Pc) (hpre : ∀ U : State, U.heap = H → s.WarmedH U.vm → Pc (Value.ref a :: As).toArray U) (hc : cOK own idx y b n ret) (hi : Cond.instanceMethod y ∈ lwg) (hse : Cond.selects y.cls y y ∈ lwg)
    (hd : y.cls ≠ "java/lang/invoke/MethodHandle" ∧ y.cls ≠ "java/lang/invoke/VarHandle" ∧ (parseMethodDescriptor y.desc).map (fun d => d.parameters.length) = some np) (hrm : rm.cells = mc ∧ rm.slots = ms) (hR : rm.frames + 1 ≤ R.frames ∧ 8 + (n + 11) + rm.locals ≤ R.locals)
    (hcl : vwCl[ci]? = some vc) (hvc : vc.1 = y.cls) (he : (ww σ)[q0]? = some (a, .inr (ci, fs))) (hn : As.length = np) (hls : ls.size = nL) {st : List Value} (hst : st = As.reverse ++ .ref a :: rest) (hro : (rest.map fun v => v.category).sum ≤ 8) (hdg : decode cc pc = .ok (.invokevirtual idx, 3)) (hf : cells + mc ≤ R.cells ∧ slots + ms ≤ R.slots) :
    va_Run p l e R s m args below meth c H locs cells slots mc ms (F0 m pc ls st) rest (Qc (Value.ref a :: As).toArray) free := by
  obtain ⟨h1, h2, h3⟩ := hc
  obtain ⟨hx, hb, hml, hown, hts⟩ := C
  refine va_runV (C := y.cls) ⟨hx, hb, hml, hown, hts⟩ hM ⟨callB_of np hts (cws_good h1) rfl hrm.1 hrm.2 (hts _ h2) (hts _ h3) hd hR, hts _ hi, hts _ hse⟩ ⟨hbl, ?_, hpre⟩ rfl hn hls hst (lv_room hro) hdg hf
  rw [← hvc]
  exact va_recv hW.2.2.1 hW.1 hcl he
set_option maxHeartbeats 4000000 in
set_option maxRecDepth 100000 in
theorem mJx4a65c_grow_92f84 {l : Launch} {D : va_G} {h em : Nat} {mo : Int32} {cO : ClassId} {ty : List (ClassId × FieldType)} {t4 : Nat} (h4 : ty[t4]? = some (cO, .object "java/lang/Object")) (sz : Nat) : Met l yJx4a65c_grow_92f84 (cws yJx4a65c_grow_92f84 cJx4a65c_grow_92f84 4 (some (.array (.object "java/lang/Object")))) ({ frames := 1, cells := 1, slots := 10, locals := 21 } : Room) (va_Pc [.ref h, .int 1] (WZ D idw ty em [(h, .inr (0, [.int mo, .ref em, .int 0]))] sz)) (QcR Value.ref (fun (r : Nat) (u : va_W) => u = [(h, .inr (0, [.int mo, .ref r, .int 0])), (r, .inl (cO, 10, .inr (.inr (.inr (.inr (fun _ => none))))))]) (WB D idw ty [(h, .inr (0, [.int mo, .ref em, .int 0]))] sz) (va_A (idw [(h, .inr (0, [.int mo, .ref em, .int 0]))]) sz)) 1 10 (va_A (idw [(h, .inr (0, [.int mo, .ref em, .int 0]))]) sz) := by
  refine w_enterZ (ww := idw) (σ := [(h, .inr (0, [.int mo, .ref em, .int 0]))]) (by decide +kernel) (Nat.le_of_ble_eq_true rfl) (fun p e s m args below meth c ls C hr hk hn hs hW hZ hl => ?_)
  have hx := C.1
  have hb := C.2.1
  have hl : lv_has ls 4 [(0, .ref h), (1, .int 1)] := hl
  refine lv_aload_n hx hb dJx4a65c_grow_92f84_0 rfl (lv_at hl 0 rfl) ?_
  refine w_get C hW inLg (q0 := 0) (ci := 0) (k := 1) rfl rfl (by decide) xl_Jx4a65c_9 rfl rfl dJx4a65c_grow_92f84_1 ?_
  refine va_tlen hx hb hZ.2 hW.2.2.2.1 (v := 0) rfl dJx4a65c_grow_92f84_4 ?_
  refine lv_istore_n (lv' := [(2, .int 0), (0, .ref h), (1, .int 1)]) hx hb dJx4a65c_grow_92f84_5 rfl hl (by decide) rfl (fun ls hl => ?_)
  refine lv_iload_n hx hb dJx4a65c_grow_92f84_6 rfl (lv_at hl 0 rfl) ?_
  refine lv_if_gt (tgt := 20) hx hb dJx4a65c_grow_92f84_7 (by decide) (fun h => absurd h (by decide)) (fun _ => ?_)
  refine lv_aload_n hx hb dJx4a65c_grow_92f84_10 rfl (lv_at hl 1 rfl) ?_
  refine w_get C hW inLg (q0 := 0) (ci := 0) (k := 1) rfl rfl (by decide) xl_Jx4a65c_9 rfl rfl dJx4a65c_grow_92f84_11 ?_
  refine va_gets hx hb hZ.1 hW.2.2.2.1 C.2.2.2.1 (C.2.2.2.2 _ (lwg_at 107 (by decide +kernel) rfl)) (fun _ h9 => h9) dJx4a65c_grow_92f84_14 ?_
  refine W.eq (g2 := F0 m 17 ls [va_rf (some em), va_rf (some em)]) rfl ?_
  refine lv_acmp_eq (tgt := 45) hx hb dJx4a65c_grow_92f84_17 (by decide) (fun _ => ?_) (fun h => absurd rfl h)
  refine lv_aload_n hx hb dJx4a65c_grow_92f84_45 rfl (lv_at hl 1 rfl) ?_
  refine lv_bipush (v := 10) hx hb dJx4a65c_grow_92f84_46 (by decide) ?_
  refine lv_iload_n hx hb dJx4a65c_grow_92f84_48 rfl (lv_at hl 2 rfl) ?_
  refine w_mmax C (lwg_at 423 (by decide +kernel) rfl) (lwg_at 385 (by decide +kernel) rfl) (lwg_at 77 (by decide +kernel) rfl) (lwg_at 386 (by decide +kernel) rfl) hl.1 (Nat.le_of_ble_eq_true rfl) (Nat.le_of_ble_eq_true rfl) dJx4a65c_grow_92f84_49 ?_
  refine W.eq (g2 := F0 m 52 ls [.int 10, .ref h]) (by rw [if_neg (by decide)]) ?_
  refine w_newq C hW (t0 := t4) (lwg_at 424 (by decide +kernel) rfl) hW.2.2.2.2.2.2.2.2 h4 (N := 10) (by decide) rfl (Nat.le_of_ble_eq_true rfl) (Nat.le_of_ble_eq_true rfl) (Nat.le_of_ble_eq_true rfl) dJx4a65c_grow_92f84_52 (fun ed H hW => ?_)
  refine W.widen (k := 1) (n := 10) (by omega) (by omega) ?_
  replace hW : WI D idw ty (va_A (idw [(h, .inr (0, [.int mo, .ref em, .int 0]))]) sz) s [(h, .inr (0, [.int mo, .ref em, .int 0])), (ed, .inl (cO, 10, .inr (.inr (.inr (.inr (fun _ => none))))))] _ _ := hW
  refine lv_dup_x1 hx hb dJx4a65c_grow_92f84_55 rfl rfl ?_
  refine w_put (σ' := [(h, .inr (0, [.int mo, .ref ed, .int 0])), (ed, .inl (cO, 10, .inr (.inr (.inr (.inr (fun _ => none))))))]) C hW inLg tyJx4a65c tyJx4a65c_ok nmJx4a65c (q0 := 0) (ci := 0) (k := 1) rfl rfl (by decide) xl_Jx4a65c_9 rfl rfl rfl rfl (Nat.le_of_ble_eq_true rfl) rfl dJx4a65c_grow_92f84_56 (fun σ1 H locs e1 hW => ?_)
  subst e1
  exact w_aret (f := Value.ref) (r := ed) C hs hr (Or.inr ⟨_, rfl⟩) hk hW dJx4a65c_grow_92f84_59 (Or.inr ⟨_, rfl⟩) rfl
set_option maxHeartbeats 4000000 in
set_option maxRecDepth 100000 in
theorem mJx4a65c_grow_d5877 {l : Launch} {D : va_G} {h em : Nat} {mo : Int32} {cO : ClassId} {ty : List (ClassId × FieldType)} {t4 : Nat} (h4 : ty[t4]? = some (cO, .object "java/lang/Object")) (sz : Nat) : Met l yJx4a65c_grow_d5877 (cws yJx4a65c_grow_d5877 cJx4a65c_grow_d5877 1 (some (.array (.object "java/lang/Object")))) ({ frames := 2, cells := 1, slots := 10, locals := 44 } : Room) (va_Pc [.ref h] (WZ D idw ty em [(h, .inr (0, [.int mo, .ref em, .int 0]))] sz)) (QcR Value.ref (fun (r : Nat) (u : va_W) => u = [(h, .inr (0, [.int mo, .ref r, .int 0])), (r, .inl (cO, 10, .inr (.inr (.inr (.inr (fun _ => none))))))]) (WB D idw ty [(h, .inr (0, [.int mo, .ref em, .int 0]))] sz) (va_A (idw [(h, .inr (0, [.int mo, .ref em, .int 0]))]) sz)) 1 10 (va_A (idw [(h, .inr (0, [.int mo, .ref em, .int 0]))]) sz) := by
  refine w_enterZ (ww := idw) (σ := [(h, .inr (0, [.int mo, .ref em, .int 0]))]) (by decide +kernel) (Nat.le_of_ble_eq_true rfl) (fun p e s m args below meth c ls C hr hk hn hs hW hZ hl => ?_)
  have hx := C.1
  have hb := C.2.1
  have hl : lv_has ls 1 [(0, .ref h)] := hl
  refine lv_aload_n hx hb dJx4a65c_grow_d5877_0 rfl (lv_at hl 0 rfl) ?_
  refine lv_aload_n hx hb dJx4a65c_grow_d5877_1 rfl (lv_at hl 0 rfl) ?_
  refine w_get C hW inLg (q0 := 0) (ci := 0) (k := 2) rfl rfl (by decide) xl_Jx4a65c_48 rfl rfl dJx4a65c_grow_d5877_2 ?_
  refine lv_iconst (v := 1) hx hb dJx4a65c_grow_d5877_5 (by decide) ?_
  refine lv_iadd hx hb dJx4a65c_grow_d5877_6 ?_
  refine f_callg (wr := []) (ww := idw) hW (f_runV (ww := idw) (As := [.int 1]) C (wi_right (wr := []) hW) (mJx4a65c_grow_92f84 h4 _) wz_blind (fun U hU hV => wz_pre (wi_right (wr := []) hW) hZ U hU hV) ⟨(lwg_at 380 (by decide +kernel) rfl), (lwg_at 69 (by decide +kernel) rfl), (lwg_at 377 (by decide +kernel) rfl)⟩ (lwg_at 379 (by decide +kernel) rfl) (lwg_at 4 (by decide +kernel) rfl) (np := 1) (by decide +kernel) ⟨rfl, rfl⟩ ⟨Nat.le_of_ble_eq_true rfl, Nat.le_of_ble_eq_true rfl⟩ (ci := 0) rfl rfl (q0 := 0) rfl rfl hl.1 rfl (Nat.le_of_ble_eq_true rfl) dJx4a65c_grow_d5877_7 ⟨Nat.le_of_ble_eq_true rfl, Nat.le_of_ble_eq_true rfl⟩) (fun r u H locs hq hW => ?_)
  subst hq
  exact w_aret (f := Value.ref) (r := r) C hs hr (Or.inr ⟨_, rfl⟩) hk hW dJx4a65c_grow_d5877_10 (Or.inr ⟨_, rfl⟩) rfl
set_option maxHeartbeats 4000000 in
set_option maxRecDepth 100000 in
theorem mJx4a65c_add_72be8_E {l : Launch} {D : va_G} {h em q : Nat} {mo : Int32} {cO : ClassId} {ty : List (ClassId × FieldType)} {ci : Nat} {fs : List Value} {vc : vw_C} (hcv : vwCl[ci]? = some vc) (hok : ∀ U, xNc U → va_Nw (.castable vc.1 "java/lang/Object") U) {t4 : Nat} (h4 : ty[t4]? = some (cO, .object "java/lang/Object")) (sz : Nat) : Met l yJx4a65c_add_72be8 (cws yJx4a65c_add_72be8 cJx4a65c_add_72be8 4 none) ({ frames := 3, cells := 1, slots := 10, locals := 64 } : Room) (va_Pc [.ref h, .ref q, .ref em, .int 0] (WZ D idw ty em [(q, .inr (ci, fs)), (h, .inr (0, [.int mo, .ref em, .int 0]))] sz)) (va_Qv (fun u : va_W => ∃ ed : Nat, u = [(q, .inr (ci, fs)), (h, .inr (0, [.int mo, .ref ed, .int 1])), (ed, .inl (cO, 10, .inr (.inr (.inr (.inr (va_up (fun _ => none) 0 (some q)))))))]) (WB D idw ty [(q, .inr (ci, fs)), (h, .inr (0, [.int mo, .ref em, .int 0]))] sz) (va_A (idw [(q, .inr (ci, fs)), (h, .inr (0, [.int mo, .ref em, .int 0]))]) sz)) 1 10 (va_A (idw [(q, .inr (ci, fs)), (h, .inr (0, [.int mo, .ref em, .int 0]))]) sz) := by
  refine w_enterZ (ww := idw) (σ := [(q, .inr (ci, fs)), (h, .inr (0, [.int mo, .ref em, .int 0]))]) (by decide +kernel) (Nat.le_of_ble_eq_true rfl) (fun p e s m args below meth c ls C hr hk hn hs hW hZ hl => ?_)
  have hx := C.1
  have hb := C.2.1
  have hl : lv_has ls 4 [(0, .ref h), (1, .ref q), (2, .ref em), (3, .int 0)] := hl
  refine lv_iload_n hx hb dJx4a65c_add_72be8_0 rfl (lv_at hl 3 rfl) ?_
  refine lv_aload_n hx hb dJx4a65c_add_72be8_1 rfl (lv_at hl 2 rfl) ?_
  refine va_tlen hx hb hZ.2 hW.2.2.2.1 (v := 0) rfl dJx4a65c_add_72be8_2 ?_
  refine lv_icmp_ne (tgt := 11) hx hb dJx4a65c_add_72be8_3 (by decide) (fun h => absurd rfl h) (fun _ => ?_)
  refine lv_aload_n hx hb dJx4a65c_add_72be8_6 rfl (lv_at hl 0 rfl) ?_
  refine f_callg (wr := [(q, .inr (ci, fs))]) (ww := idw) hW (f_runV (ww := idw) (As := []) C (wi_right (wr := [(q, .inr (ci, fs))]) (wc := [(h, .inr (0, [.int mo, .ref em, .int 0]))]) hW) (mJx4a65c_grow_d5877 h4 _) wz_blind (fun U hU hV => wz_pre (wi_right (wr := [(q, .inr (ci, fs))]) (wc := [(h, .inr (0, [.int mo, .ref em, .int 0]))]) hW) hZ U hU hV) ⟨(lwg_at 376 (by decide +kernel) rfl), (lwg_at 69 (by decide +kernel) rfl), (lwg_at 373 (by decide +kernel) rfl)⟩ (lwg_at 375 (by decide +kernel) rfl) (lwg_at 3 (by decide +kernel) rfl) (np := 0) (by decide +kernel) ⟨rfl, rfl⟩ ⟨Nat.le_of_ble_eq_true rfl, Nat.le_of_ble_eq_true rfl⟩ (ci := 0) rfl rfl (q0 := 0) rfl rfl hl.1 rfl (Nat.le_of_ble_eq_true rfl) dJx4a65c_add_72be8_7 ⟨Nat.le_of_ble_eq_true rfl, Nat.le_of_ble_eq_true rfl⟩) (fun ed u H locs hq hW => ?_)
  subst hq
  refine W.widen (k := 1) (n := 10) (by omega) (by omega) ?_
  replace hW : WI D idw ty (va_A (idw [(q, .inr (ci, fs)), (h, .inr (0, [.int mo, .ref em, .int 0]))]) sz) s [(q, .inr (ci, fs)), (h, .inr (0, [.int mo, .ref ed, .int 0])), (ed, .inl (cO, 10, .inr (.inr (.inr (.inr (fun _ => none))))))] H locs := hW
  refine lv_astore_n (lv' := [(2, .ref ed), (0, .ref h), (1, .ref q), (3, .int 0)]) hx hb dJx4a65c_add_72be8_10 rfl hl (by decide) rfl (fun ls hl => ?_)
  refine lv_aload_n hx hb dJx4a65c_add_72be8_11 rfl (lv_at hl 0 rfl) ?_
  refine lv_iload_n hx hb dJx4a65c_add_72be8_12 rfl (lv_at hl 3 rfl) ?_
  refine lv_aload_n hx hb dJx4a65c_add_72be8_13 rfl (lv_at hl 2 rfl) ?_
  refine va_astqO hx hb hW.2.2.1 hW.1 hW.2.1 hW.2.2.2.1 2 t4 0 ci rfl h4 (hok s hW.2.2.2.2.2) rfl hcv (by unfold vp_in; decide) dJx4a65c_add_72be8_14 (fun H locs hP hD hS => ?_)
  replace hW : WI D idw ty (va_A (idw [(q, .inr (ci, fs)), (h, .inr (0, [.int mo, .ref em, .int 0]))]) sz) s [(q, .inr (ci, fs)), (h, .inr (0, [.int mo, .ref ed, .int 0])), (ed, .inl (cO, 10, .inr (.inr (.inr (.inr (va_up (fun _ => none) 0 (some q)))))))] H locs := ⟨hP, hD, hW.2.2.1, hS, hW.2.2.2.2⟩
  refine lv_aload_n hx hb dJx4a65c_add_72be8_15 rfl (lv_at hl 1 rfl) ?_
  refine lv_iload_n hx hb dJx4a65c_add_72be8_16 rfl (lv_at hl 3 rfl) ?_
  refine lv_iconst (v := 1) hx hb dJx4a65c_add_72be8_17 (by decide) ?_
  refine lv_iadd hx hb dJx4a65c_add_72be8_18 ?_
  refine w_put (σ' := [(q, .inr (ci, fs)), (h, .inr (0, [.int mo, .ref ed, .int 1])), (ed, .inl (cO, 10, .inr (.inr (.inr (.inr (va_up (fun _ => none) 0 (some q)))))))]) C hW inLg tyJx4a65c tyJx4a65c_ok nmJx4a65c (q0 := 1) (ci := 0) (k := 2) rfl rfl (by decide) xl_Jx4a65c_48 rfl rfl rfl rfl (Nat.le_of_ble_eq_true rfl) rfl dJx4a65c_add_72be8_19 (fun σ1 H locs e1 hW => ?_)
  subst e1
  exact w_vret C hs hr hk hW dJx4a65c_add_72be8_22 ⟨ed, rfl⟩
set_option maxHeartbeats 4000000 in
set_option maxRecDepth 100000 in
theorem mJx4a65c_add_72be8_N {l : Launch} {D : va_G} {h ed q k : Nat} {f : Nat → Option Nat} {mo : Int32} {cO : ClassId} {ty : List (ClassId × FieldType)} {ci : Nat} {fs : List Value} {vc : vw_C} (hcv : vwCl[ci]? = some vc) (hok : ∀ U, xNc U → va_Nw (.castable vc.1 "java/lang/Object") U) {t4 : Nat} (h4 : ty[t4]? = some (cO, .object "java/lang/Object")) (hk10 : k < 10) (sz : Nat) : Met l yJx4a65c_add_72be8 (cws yJx4a65c_add_72be8 cJx4a65c_add_72be8 4 none) ({ frames := 3, cells := 0, slots := 0, locals := 64 } : Room) (va_Pc [.ref h, .ref q, .ref ed, .int (nI k)] (WP D idw ty [(q, .inr (ci, fs)), (h, .inr (0, [.int mo, .ref ed, .int (nI k)])), (ed, .inl (cO, 10, .inr (.inr (.inr (.inr (f))))))] sz)) (va_Qv (fun u : va_W => u = [(q, .inr (ci, fs)), (h, .inr (0, [.int mo, .ref ed, .int (nI (k + 1))])), (ed, .inl (cO, 10, .inr (.inr (.inr (.inr (va_up f k (some q)))))))]) (WB D idw ty [(q, .inr (ci, fs)), (h, .inr (0, [.int mo, .ref ed, .int (nI k)])), (ed, .inl (cO, 10, .inr (.inr (.inr (.inr (f))))))] sz) (va_A (idw [(q, .inr (ci, fs)), (h, .inr (0, [.int mo, .ref ed, .int (nI k)])), (ed, .inl (cO, 10, .inr (.inr (.inr (.inr (f))))))]) sz)) 0 0 (va_A (idw [(q, .inr (ci, fs)), (h, .inr (0, [.int mo, .ref ed, .int (nI k)])), (ed, .inl (cO, 10, .inr (.inr (.inr (.inr (f))))))]) sz) := by
  refine w_enterF (ww := idw) (σ := [(q, .inr (ci, fs)), (h, .inr (0, [.int mo, .ref ed, .int (nI k)])), (ed, .inl (cO, 10, .inr (.inr (.inr (.inr (f))))))]) (by decide +kernel) (Nat.le_of_ble_eq_true rfl) (fun p e s m args below meth c ls C hr hk hn hs hW hl => ?_)
  have hx := C.1
  have hb := C.2.1
  have hl : lv_has ls 4 [(0, .ref h), (1, .ref q), (2, .ref ed), (3, .int (nI k))] := hl
  refine lv_iload_n hx hb dJx4a65c_add_72be8_0 rfl (lv_at hl 3 rfl) ?_
  refine lv_aload_n hx hb dJx4a65c_add_72be8_1 rfl (lv_at hl 2 rfl) ?_
  refine va_alen hx hb hW.2.2.1 hW.1 2 t4 rfl h4 (v := 10) rfl dJx4a65c_add_72be8_2 ?_
  refine lv_icmp_ne (tgt := 11) hx hb dJx4a65c_add_72be8_3 (by decide) (fun _ => ?_) (fun h => absurd ((nI_eq (a := k) (b := 10) (by omega) (by decide)).mp h) (by omega))
  refine lv_aload_n hx hb dJx4a65c_add_72be8_11 rfl (lv_at hl 2 rfl) ?_
  refine lv_iload_n hx hb dJx4a65c_add_72be8_12 rfl (lv_at hl 3 rfl) ?_
  refine lv_aload_n hx hb dJx4a65c_add_72be8_13 rfl (lv_at hl 1 rfl) ?_
  refine va_astqO hx hb hW.2.2.1 hW.1 hW.2.1 hW.2.2.2.1 2 t4 0 ci rfl h4 (hok s hW.2.2.2.2.2) rfl hcv (vp_in_nI hk10 (by decide)) dJx4a65c_add_72be8_14 (fun H locs hP hD hS => ?_)
  rw [nI_clamp (by omega)] at hP hD
  replace hW : WI D idw ty (va_A (idw [(q, .inr (ci, fs)), (h, .inr (0, [.int mo, .ref ed, .int (nI k)])), (ed, .inl (cO, 10, .inr (.inr (.inr (.inr (f))))))]) sz) s [(q, .inr (ci, fs)), (h, .inr (0, [.int mo, .ref ed, .int (nI k)])), (ed, .inl (cO, 10, .inr (.inr (.inr (.inr (va_up f k (some q)))))))] H locs := ⟨hP, hD, hW.2.2.1, hS, hW.2.2.2.2⟩
  refine lv_aload_n hx hb dJx4a65c_add_72be8_15 rfl (lv_at hl 0 rfl) ?_
  refine lv_iload_n hx hb dJx4a65c_add_72be8_16 rfl (lv_at hl 3 rfl) ?_
  refine lv_iconst (v := 1) hx hb dJx4a65c_add_72be8_17 (by decide) ?_
  refine lv_iadd hx hb dJx4a65c_add_72be8_18 ?_
  rw [nI_1]
  refine w_put (σ' := [(q, .inr (ci, fs)), (h, .inr (0, [.int mo, .ref ed, .int (nI (k + 1))])), (ed, .inl (cO, 10, .inr (.inr (.inr (.inr (va_up f k (some q)))))))]) C hW inLg tyJx4a65c tyJx4a65c_ok nmJx4a65c (q0 := 1) (ci := 0) (k := 2) rfl rfl (by decide) xl_Jx4a65c_48 rfl rfl rfl rfl (Nat.le_of_ble_eq_true rfl) rfl dJx4a65c_add_72be8_19 (fun σ1 H locs e1 hW => ?_)
  subst e1
  exact w_vret C hs hr hk hW dJx4a65c_add_72be8_22 rfl
theorem w_putS {p : Program} {l : Launch} {e : Env} {R : Room} {s : State} {m : MethodId} {args : Array Value} {below : List Frame} {meth : Method} {c : Code} {H : Heap} {locs : List Loc} {cells slots : Nat} {Q : State → Prop} {cc : ByteArray} {pc : Nat} {ls : Array Slot} {rest : List Value} {own : String} {nL : Nat} {S : Type} {D : va_G} {ww : S → va_W} {ty : List (ClassId × FieldType)} {A : Nat → Prop} {σ σ' : S}
    (C : CallFix p m c cc nL s args lwg own) (hW : WI D ww ty A s σ H locs) {ref Cn : String} {T : u_T} {N ci index q0 k a : Nat} {fs : List Value} {v : Value} (hin : ∀ w ∈ u_ws Cn T N, w ∈ lwg) (ty0 : Nat → FieldType) (hty : ∀ k, k < N → parseFieldDescriptor (T k).2.2.1 = some (ty0 k)) (hnm : ∀ a, a < N → ∀ b, b < N → a ≠ b → (T a).2.1 ≠ (T b).2.1) (he : (ww σ)[q0]? = some (a, .inr (ci, fs))) (hc : vwCl[ci]? = some (Cn, T, N)) (hk : k < N) (hl : Cond.fieldLink own index ref (T k).2.1 (T k).2.2.1 ∈ lwg) (href : Cond.sameField ref (T k).1 (T k).2.1 (T k).2.2.1 ∈ lwg) (hfin : (T k).2.2.2 = false) (hn : narrow (ty0 k) v = v) (hfit : fits (ty0 k) v = true) (hlen : k < fs.length) (hset : (ww σ).set q0 (a, .inr (ci, fs.set k v)) = ww σ') (hd : decode cc pc = .ok (.putfield index, 3))
    (kk : ∀ (σ1 : S) (H' : Heap) (locs' : List Loc), σ1 = σ' → WI D ww ty A s σ1 H' locs' → W p l e R s m args below meth c H' locs' cells slots Q (F0 m (pc + 3) ls rest)) : W p l e R s m args below meth c H locs cells slots Q (F0 m pc ls (v :: .ref a :: rest)) := by
  obtain ⟨hx, hb, hml, hown, hts⟩ := C
  refine va_put hx hb hts hin ty0 hty hnm hown hW.2.2.1 hW.1 hW.2.1 hW.2.2.2.1 q0 he hc k hk (hts _ hl) (fun x h => u_same (hts _ href) x h) hfin (hty k hk) hn hfit hlen hd (fun H1 locs1 hP hD hS => ?_)
  rw [hset] at hP hD
  exact kk σ' H1 locs1 rfl ⟨hP, hD, hW.2.2.1, hS, hW.2.2.2.2⟩
set_option maxHeartbeats 4000000 in
set_option maxRecDepth 100000 in
theorem mJx4a65c_add_9ea2d_E {l : Launch} {D : va_G} {h em q : Nat} {mo : Int32} {cO : ClassId} {ty : List (ClassId × FieldType)} {ci : Nat} {fs : List Value} {vc : vw_C} (hcv : vwCl[ci]? = some vc) (hok : ∀ U, xNc U → va_Nw (.castable vc.1 "java/lang/Object") U) {t4 : Nat} (h4 : ty[t4]? = some (cO, .object "java/lang/Object")) (sz : Nat) : Met l yJx4a65c_add_9ea2d (cws yJx4a65c_add_9ea2d cJx4a65c_add_9ea2d 2 (some .boolean)) ({ frames := 4, cells := 1, slots := 10, locals := 87 } : Room) (va_Pc [.ref h, .ref q] (WZ D idw ty em [(q, .inr (ci, fs)), (h, .inr (0, [.int mo, .ref em, .int 0]))] sz)) (va_Qi (fun (_ : Int32) (u : va_W) => ∃ ed : Nat, u = [(q, .inr (ci, fs)), (h, .inr (0, [.int (mo + 1), .ref ed, .int 1])), (ed, .inl (cO, 10, .inr (.inr (.inr (.inr (va_up (fun _ => none) 0 (some q)))))))]) (WB D idw ty [(q, .inr (ci, fs)), (h, .inr (0, [.int mo, .ref em, .int 0]))] sz) (va_A (idw [(q, .inr (ci, fs)), (h, .inr (0, [.int mo, .ref em, .int 0]))]) sz)) 1 10 (va_A (idw [(q, .inr (ci, fs)), (h, .inr (0, [.int mo, .ref em, .int 0]))]) sz) := by
  refine w_enterZ (ww := idw) (σ := [(q, .inr (ci, fs)), (h, .inr (0, [.int mo, .ref em, .int 0]))]) (by decide +kernel) (Nat.le_of_ble_eq_true rfl) (fun p e s m args below meth c ls C hr hk hn hs hW hZ hl => ?_)
  have hx := C.1
  have hb := C.2.1
  have hl : lv_has ls 2 [(0, .ref h), (1, .ref q)] := hl
  refine lv_aload_n hx hb dJx4a65c_add_9ea2d_0 rfl (lv_at hl 0 rfl) ?_
  refine lv_dup hx hb dJx4a65c_add_9ea2d_1 rfl ?_
  refine w_getS C hW inLg (q0 := 1) (ci := 0) (k := 0) rfl rfl (by decide) xl_Jx4a65c_63 (lwg_at 113 (by decide +kernel) rfl) rfl dJx4a65c_add_9ea2d_2 ?_
  refine lv_iconst (v := 1) hx hb dJx4a65c_add_9ea2d_5 (by decide) ?_
  refine lv_iadd hx hb dJx4a65c_add_9ea2d_6 ?_
  refine w_putS (σ' := [(q, .inr (ci, fs)), (h, .inr (0, [.int (mo + 1), .ref em, .int 0]))]) C hW inLg tyJx4a65c tyJx4a65c_ok nmJx4a65c (q0 := 1) (ci := 0) (k := 0) rfl rfl (by decide) xl_Jx4a65c_63 (lwg_at 113 (by decide +kernel) rfl) rfl rfl rfl (Nat.le_of_ble_eq_true rfl) rfl dJx4a65c_add_9ea2d_7 (fun σ1 H locs e1 hW => ?_)
  subst e1
  refine lv_aload_n hx hb dJx4a65c_add_9ea2d_10 rfl (lv_at hl 0 rfl) ?_
  refine lv_aload_n hx hb dJx4a65c_add_9ea2d_11 rfl (lv_at hl 1 rfl) ?_
  refine lv_aload_n hx hb dJx4a65c_add_9ea2d_12 rfl (lv_at hl 0 rfl) ?_
  refine w_get C hW inLg (q0 := 1) (ci := 0) (k := 1) rfl rfl (by decide) xl_Jx4a65c_9 rfl rfl dJx4a65c_add_9ea2d_13 ?_
  refine lv_aload_n hx hb dJx4a65c_add_9ea2d_16 rfl (lv_at hl 0 rfl) ?_
  refine w_get C hW inLg (q0 := 1) (ci := 0) (k := 2) rfl rfl (by decide) xl_Jx4a65c_48 rfl rfl dJx4a65c_add_9ea2d_17 ?_
  refine f_callv (wr := []) (ww := idw) hW (f_runV (ww := idw) (As := [.ref q, .ref em, .int 0]) C (wi_right (wr := []) hW) (mJx4a65c_add_72be8_E hcv hok h4 _) wz_blind (fun U hU hV => wz_pre (wi_right (wr := []) hW) hZ U hU hV) ⟨(lwg_at 372 (by decide +kernel) rfl), (lwg_at 69 (by decide +kernel) rfl), (lwg_at 369 (by decide +kernel) rfl)⟩ (lwg_at 371 (by decide +kernel) rfl) (lwg_at 2 (by decide +kernel) rfl) (np := 3) (by decide +kernel) ⟨rfl, rfl⟩ ⟨Nat.le_of_ble_eq_true rfl, Nat.le_of_ble_eq_true rfl⟩ (ci := 0) rfl rfl (q0 := 1) rfl rfl hl.1 rfl (Nat.le_of_ble_eq_true rfl) dJx4a65c_add_9ea2d_20 ⟨Nat.le_of_ble_eq_true rfl, Nat.le_of_ble_eq_true rfl⟩) (fun u H locs hq hW => ?_)
  obtain ⟨ed, rfl⟩ := hq
  refine lv_iconst (v := 1) hx hb dJx4a65c_add_9ea2d_23 (by decide) ?_
  exact w_zret C hs hr hk hW dJx4a65c_add_9ea2d_24 isB_1 ⟨ed, rfl⟩
set_option maxHeartbeats 4000000 in
set_option maxRecDepth 100000 in
theorem mJx4a65c_add_9ea2d_N {l : Launch} {D : va_G} {h ed q k : Nat} {f : Nat → Option Nat} {mo : Int32} {cO : ClassId} {ty : List (ClassId × FieldType)} {ci : Nat} {fs : List Value} {vc : vw_C} (hcv : vwCl[ci]? = some vc) (hok : ∀ U, xNc U → va_Nw (.castable vc.1 "java/lang/Object") U) {t4 : Nat} (h4 : ty[t4]? = some (cO, .object "java/lang/Object")) (hk10 : k < 10) (sz : Nat) : Met l yJx4a65c_add_9ea2d (cws yJx4a65c_add_9ea2d cJx4a65c_add_9ea2d 2 (some .boolean)) ({ frames := 4, cells := 0, slots := 0, locals := 87 } : Room) (va_Pc [.ref h, .ref q] (WP D idw ty [(q, .inr (ci, fs)), (h, .inr (0, [.int mo, .ref ed, .int (nI k)])), (ed, .inl (cO, 10, .inr (.inr (.inr (.inr (f))))))] sz)) (va_Qi (fun (_ : Int32) (u : va_W) => u = [(q, .inr (ci, fs)), (h, .inr (0, [.int (mo + 1), .ref ed, .int (nI (k + 1))])), (ed, .inl (cO, 10, .inr (.inr (.inr (.inr (va_up f k (some q)))))))]) (WB D idw ty [(q, .inr (ci, fs)), (h, .inr (0, [.int mo, .ref ed, .int (nI k)])), (ed, .inl (cO, 10, .inr (.inr (.inr (.inr (f))))))] sz) (va_A (idw [(q, .inr (ci, fs)), (h, .inr (0, [.int mo, .ref ed, .int (nI k)])), (ed, .inl (cO, 10, .inr (.inr (.inr (.inr (f))))))]) sz)) 0 0 (va_A (idw [(q, .inr (ci, fs)), (h, .inr (0, [.int mo, .ref ed, .int (nI k)])), (ed, .inl (cO, 10, .inr (.inr (.inr (.inr (f))))))]) sz) := by
  refine w_enterF (ww := idw) (σ := [(q, .inr (ci, fs)), (h, .inr (0, [.int mo, .ref ed, .int (nI k)])), (ed, .inl (cO, 10, .inr (.inr (.inr (.inr (f))))))]) (by decide +kernel) (Nat.le_of_ble_eq_true rfl) (fun p e s m args below meth c ls C hr hk hn hs hW hl => ?_)
  have hx := C.1
  have hb := C.2.1
  have hl : lv_has ls 2 [(0, .ref h), (1, .ref q)] := hl
  refine lv_aload_n hx hb dJx4a65c_add_9ea2d_0 rfl (lv_at hl 0 rfl) ?_
  refine lv_dup hx hb dJx4a65c_add_9ea2d_1 rfl ?_
  refine w_getS C hW inLg (q0 := 1) (ci := 0) (k := 0) rfl rfl (by decide) xl_Jx4a65c_63 (lwg_at 113 (by decide +kernel) rfl) rfl dJx4a65c_add_9ea2d_2 ?_
  refine lv_iconst (v := 1) hx hb dJx4a65c_add_9ea2d_5 (by decide) ?_
  refine lv_iadd hx hb dJx4a65c_add_9ea2d_6 ?_
  refine w_putS (σ' := [(q, .inr (ci, fs)), (h, .inr (0, [.int (mo + 1), .ref ed, .int (nI k)])), (ed, .inl (cO, 10, .inr (.inr (.inr (.inr (f))))))]) C hW inLg tyJx4a65c tyJx4a65c_ok nmJx4a65c (q0 := 1) (ci := 0) (k := 0) rfl rfl (by decide) xl_Jx4a65c_63 (lwg_at 113 (by decide +kernel) rfl) rfl rfl rfl (Nat.le_of_ble_eq_true rfl) rfl dJx4a65c_add_9ea2d_7 (fun σ1 H locs e1 hW => ?_)
  subst e1
  refine lv_aload_n hx hb dJx4a65c_add_9ea2d_10 rfl (lv_at hl 0 rfl) ?_
  refine lv_aload_n hx hb dJx4a65c_add_9ea2d_11 rfl (lv_at hl 1 rfl) ?_
  refine lv_aload_n hx hb dJx4a65c_add_9ea2d_12 rfl (lv_at hl 0 rfl) ?_
  refine w_get C hW inLg (q0 := 1) (ci := 0) (k := 1) rfl rfl (by decide) xl_Jx4a65c_9 rfl rfl dJx4a65c_add_9ea2d_13 ?_
  refine lv_aload_n hx hb dJx4a65c_add_9ea2d_16 rfl (lv_at hl 0 rfl) ?_
  refine w_get C hW inLg (q0 := 1) (ci := 0) (k := 2) rfl rfl (by decide) xl_Jx4a65c_48 rfl rfl dJx4a65c_add_9ea2d_17 ?_
  refine f_callv (wr := []) (ww := idw) hW (f_runV (ww := idw) (As := [.ref q, .ref ed, .int (nI k)]) C (wi_right (wr := []) hW) (mJx4a65c_add_72be8_N hcv hok h4 hk10 _) w_blind (fun U hU hV => w_pre (wi_right (wr := []) hW) U hU hV) ⟨(lwg_at 372 (by decide +kernel) rfl), (lwg_at 69 (by decide +kernel) rfl), (lwg_at 369 (by decide +kernel) rfl)⟩ (lwg_at 371 (by decide +kernel) rfl) (lwg_at 2 (by decide +kernel) rfl) (np := 3) (by decide +kernel) ⟨rfl, rfl⟩ ⟨Nat.le_of_ble_eq_true rfl, Nat.le_of_ble_eq_true rfl⟩ (ci := 0) rfl rfl (q0 := 1) rfl rfl hl.1 rfl (Nat.le_of_ble_eq_true rfl) dJx4a65c_add_9ea2d_20 ⟨Nat.le_of_ble_eq_true rfl, Nat.le_of_ble_eq_true rfl⟩) (fun u H locs hq hW => ?_)
  subst hq
  refine lv_iconst (v := 1) hx hb dJx4a65c_add_9ea2d_23 (by decide) ?_
  exact w_zret C hs hr hk hW dJx4a65c_add_9ea2d_24 isB_1 rfl
