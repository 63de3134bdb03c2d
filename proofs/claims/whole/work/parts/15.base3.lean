/-! worlds as plain lists: making cells, the frame rule, the empty list's own array -/
abbrev idw (w : va_W) : va_W := w
section BASE3
variable {p : Program} {l : Launch} {e : Env} {R : Room} {s : State} {m : MethodId} {args : Array Value} {below : List Frame} {meth : Method} {c : Code} {H : Heap} {locs : List Loc} {cells slots : Nat} {Q : State → Prop}
variable {cc : ByteArray} {pc : Nat} {ls : Array Slot} {rest : List Value} {own : String} {nL : Nat}
variable {D : va_G} {ty : List (ClassId × FieldType)} {A : Nat → Prop} {ws wr wc w1 : va_W}
theorem wi_right (hW : WI D idw ty A s (wr ++ wc) H locs) : WI D idw ty A s wc H locs := by
  obtain ⟨hP, hD, hK, hS, hA, hN⟩ := hW
  have at' : ∀ (k : Nat) (q : Nat × va_E), wc[k]? = some q → (wr ++ wc)[wr.length + k]? = some q := fun k q h => by
    rw [List.getElem?_append_right (by omega), Nat.add_sub_cancel_left]
    exact h
  refine ⟨fun k q h => hP _ q (at' k q h), ⟨fun i j x y hx hy e => ?_, fun k q h => hD.2 _ q (at' k q h)⟩, hK, hS, hA, hN⟩
  have := hD.1 _ _ x y (at' i x hx) (at' j y hy) e
  omega
theorem wi_left (hW : WI D idw ty A s (wr ++ wc) H locs) : WI D idw ty A s wr H locs := by
  obtain ⟨hP, hD, hK, hS, hA, hN⟩ := hW
  have at' : ∀ (k : Nat) (q : Nat × va_E), wr[k]? = some q → (wr ++ wc)[k]? = some q := fun k q h => by
    rw [List.getElem?_append_left (List.getElem?_eq_some_iff.mp h).1]
    exact h
  exact ⟨fun k q h => hP _ q (at' k q h), ⟨fun i j x y hx hy e => hD.1 _ _ x y (at' i x hx) (at' j y hy) e, fun k q h => hD.2 _ q (at' k q h)⟩, hK, hS, hA, hN⟩
theorem wi_swap (hW : WI D idw ty A s (wr ++ wc) H locs) : WI D idw ty A s (wc ++ wr) H locs := by
  obtain ⟨hP, hD, hK, hS, hA, hN⟩ := hW
  have at' : ∀ (k : Nat) (q : Nat × va_E), (wc ++ wr)[k]? = some q → (wr ++ wc)[if k < wc.length then wr.length + k else k - wc.length]? = some q := fun k q h => by
    by_cases hk : k < wc.length
    · rw [if_pos hk, List.getElem?_append_right (by omega), Nat.add_sub_cancel_left]
      rwa [List.getElem?_append_left hk] at h
    · rw [if_neg hk]
      rw [List.getElem?_append_right (by omega)] at h
      rw [List.getElem?_append_left (List.getElem?_eq_some_iff.mp h).1]
      exact h
  refine ⟨fun k q h => hP _ q (at' k q h), ⟨fun i j x y hx hy e => ?_, fun k q h => hD.2 _ q (at' k q h)⟩, hK, hS, hA, hN⟩
  have h := hD.1 _ _ x y (at' i x hx) (at' j y hy) e
  have hi : i < (wc ++ wr).length := (List.getElem?_eq_some_iff.mp hx).1
  have hj : j < (wc ++ wr).length := (List.getElem?_eq_some_iff.mp hy).1
  rw [List.length_append] at hi hj
  by_cases h1 : i < wc.length <;> by_cases h2 : j < wc.length <;> simp only [h1, h2, if_true, if_false] at h <;> omega
theorem wi_join {s : State} {H H1 : Heap} {locs locs1 : List Loc} (hW : WI D idw ty A s (wr ++ wc) H locs) (hk : ∀ q : Nat, q < H.size → ¬ va_A wc H.size q → H1[q]? = H[q]?) (hP1 : va_P D vwCl w1 H1) (hD1 : va_D (va_A wc H.size) w1) (hS1 : va_S A s.heap H1 locs1) : WI D idw ty A s (wr ++ w1) H1 locs1 := by
  have hsub := w_sub (wi_right hW)
  have hl := wi_left hW
  obtain ⟨hP, hD, hK, hS, hA, hN⟩ := hW
  have apart : ∀ (k : Nat) (q : Nat × va_E), wr[k]? = some q → q.1 < H.size ∧ ¬ va_A wc H.size q.1 := by
    intro k q hq
    have hlt := (hl.1 k q hq).lt
    refine ⟨hlt, fun h => ?_⟩
    rcases h with ⟨k2, e, h⟩ | h
    · have h1 : (wr ++ wc)[k]? = some q := by rw [List.getElem?_append_left (List.getElem?_eq_some_iff.mp hq).1]; exact hq
      have h2 : (wr ++ wc)[wr.length + k2]? = some (q.1, e) := by rw [List.getElem?_append_right (by omega), Nat.add_sub_cancel_left]; exact h
      have := hD.1 _ _ q (q.1, e) h1 h2 rfl
      have := (List.getElem?_eq_some_iff.mp hq).1
      omega
    · omega
  refine ⟨va_P.app (fun k q hq => (hl.1 k q hq).kept (hk q.1 (apart k q hq).1 (apart k q hq).2)) hP1, va_D.app hl.2.1 (hD1.weaken (fun k q _ h => hsub q.1 h)) (fun i j x y hx hy hxy => ?_), hK, hS1, hA, hN⟩
  exact (apart i x hx).2 (by rw [hxy]; exact hD1.2 j y hy)
theorem wi_K {ty' : List (ClassId × FieldType)} (hW : WI D idw ty A s ws H locs) (h : ∀ q ∈ ty', q ∈ ty) : WI D idw ty' A s ws H locs := by
  obtain ⟨hP, hD, hK, hS, hA, hN⟩ := hW
  refine ⟨hP, hD, ⟨hK.1, fun k q hk => ?_⟩, hS, hA, hN⟩
  obtain ⟨i, hi⟩ := List.getElem?_of_mem (h q (List.mem_of_getElem? hk))
  exact hK.2 i q hi
theorem f_calli {S : Type} {ww : S → va_W} {ty' : List (ClassId × FieldType)} {σ : S} (hW : WI D idw ty A s (wr ++ ww σ) H locs) {mc ms : Nat} {st : List Value} {post : Int32 → S → Prop} {a : Array Value} (hr : va_Run p l e R s m args below meth c H locs cells slots mc ms (F0 m pc ls st) rest (va_Qi post (WB D ww ty' σ H.size) (va_A (ww σ) H.size) a) (va_A (ww σ) H.size))
    (kk : ∀ (r : Int32) (σ' : S) (H' : Heap) (locs' : List Loc), post r σ' → WI D idw ty A s (wr ++ ww σ') H' locs' → W p l e R s m args below meth c H' locs' (cells + mc) (slots + ms) Q (F0 m (pc + 3) ls (.int r :: rest))) : W p l e R s m args below meth c H locs cells slots Q (F0 m pc ls st) :=
  va_calli hr hW.2.2.2.1 (fun q _ h => w_sub (wi_right hW) q h) (w_sub (wi_right hW)) (fun r u t H1 locs1 ht hvm hp hB _ hk hS => kk r u H1 locs1 hp (wi_join hW hk (by rw [← ht]; exact hB.1) hB.2.2 hS))
theorem f_calll {S : Type} {ww : S → va_W} {ty' : List (ClassId × FieldType)} {σ : S} (hW : WI D idw ty A s (wr ++ ww σ) H locs) {mc ms : Nat} {st : List Value} {post : Int64 → S → Prop} {a : Array Value} (hr : va_Run p l e R s m args below meth c H locs cells slots mc ms (F0 m pc ls st) rest (va_Ql post (WB D ww ty' σ H.size) (va_A (ww σ) H.size) a) (va_A (ww σ) H.size))
    (kk : ∀ (r : Int64) (σ' : S) (H' : Heap) (locs' : List Loc), post r σ' → WI D idw ty A s (wr ++ ww σ') H' locs' → W p l e R s m args below meth c H' locs' (cells + mc) (slots + ms) Q (F0 m (pc + 3) ls (.long r :: rest))) : W p l e R s m args below meth c H locs cells slots Q (F0 m pc ls st) :=
  va_calll hr hW.2.2.2.1 (fun q _ h => w_sub (wi_right hW) q h) (w_sub (wi_right hW)) (fun r u t H1 locs1 ht hvm hp hB _ hk hS => kk r u H1 locs1 hp (wi_join hW hk (by rw [← ht]; exact hB.1) hB.2.2 hS))
theorem f_callv {S : Type} {ww : S → va_W} {ty' : List (ClassId × FieldType)} {σ : S} (hW : WI D idw ty A s (wr ++ ww σ) H locs) {mc ms : Nat} {st : List Value} {post : S → Prop} {a : Array Value} (hr : va_Run p l e R s m args below meth c H locs cells slots mc ms (F0 m pc ls st) rest (va_Qv post (WB D ww ty' σ H.size) (va_A (ww σ) H.size) a) (va_A (ww σ) H.size))
    (kk : ∀ (σ' : S) (H' : Heap) (locs' : List Loc), post σ' → WI D idw ty A s (wr ++ ww σ') H' locs' → W p l e R s m args below meth c H' locs' (cells + mc) (slots + ms) Q (F0 m (pc + 3) ls rest)) : W p l e R s m args below meth c H locs cells slots Q (F0 m pc ls st) :=
  va_callv hr hW.2.2.2.1 (fun q _ h => w_sub (wi_right hW) q h) (w_sub (wi_right hW)) (fun u t H1 locs1 ht hvm hp hB _ hk hS => kk u H1 locs1 hp (wi_join hW hk (by rw [← ht]; exact hB.1) hB.2.2 hS))
/-- a new object, the last cell -/
theorem w_new (C : CallFix p m c cc nL s args lwg own) (hW : WI D idw ty A s ws H locs) {Cn : String} {T : u_T} {N ci index : Nat} {fs : List Value} (hin : ∀ w ∈ u_ws Cn T N, w ∈ lwg) (ty0 : Nat → FieldType) (hty : ∀ k, k < N → parseFieldDescriptor (T k).2.2.1 = some (ty0 k)) (hcl : Cond.classLink own index Cn ∈ lwg) (hinst : Cond.instantiable Cn N ∈ lwg) (hini : Cond.initialized Cn ∈ lwg) (hc : vwCl[ci]? = some (Cn, T, N)) (hfs : ∀ j, j < N → defaultValue (ty0 j) = vp_V fs j) (hcells : cells + 1 ≤ R.cells) (hslots : slots + N ≤ R.slots) (hd : decode cc pc = .ok (.new index, 3))
    (kk : ∀ (q : Nat) (H1 : Heap), WI D idw ty A s (ws ++ [(q, .inr (ci, fs))]) H1 locs → W p l e R s m args below meth c H1 locs (cells + 1) (slots + N) Q (F0 m (pc + 3) ls (.ref q :: rest))) : W p l e R s m args below meth c H locs cells slots Q (F0 m pc ls rest) := by
  obtain ⟨hx, hb, hml, hown, hts⟩ := C
  exact va_new hx hb hts hin ty0 hty hown (hts _ hcl) (hts _ hinst) (hts _ hini) hW.2.2.1 hW.1 hW.2.1 hW.2.2.2.1 hW.2.2.2.2.1 hc hfs hcells hslots hd (fun q H1 hP hD hS => kk q H1 ⟨hP, hD, hW.2.2.1, hS, hW.2.2.2.2⟩)
/-- a new row of whole numbers, of the class that is known -/
theorem w_newa (C : CallFix p m c cc nL s args lwg own) (hW : WI D idw ty A s ws H locs) {atype : ArrayType} {ety : FieldType} {t0 : Nat} {cA : ClassId} (harr : Cond.arrayClass (newarray.typeOf atype) ∈ lwg) (hty : newarray.typeOf atype = ety) (ht : ty[t0]? = some (cA, ety)) (hprim : ∀ C, ety ≠ .object C) {n : Int32} {N : Nat} {a0 : vp_A} (ha : ∀ cA : ClassId, vp_cell cA a0 = arrV cA N (fun _ => defaultValue ety)) (hn : ¬ n < 0) (hN : n.toNatClampNeg = N) (hbytes : N * componentBytes ety ≤ 536870912) (hcells : cells + 1 ≤ R.cells) (hslots : slots + N ≤ R.slots) (hd : decode cc pc = .ok (.newarray atype, 2))
    (kk : ∀ (q : Nat) (H1 : Heap), WI D idw ty A s (ws ++ [(q, .inl (cA, a0))]) H1 locs → W p l e R s m args below meth c H1 locs (cells + 1) (slots + N) Q (F0 m (pc + 2) ls (.ref q :: rest))) : W p l e R s m args below meth c H locs cells slots Q (F0 m pc ls (.int n :: rest)) := by
  obtain ⟨hx, hb, hml, hown, hts⟩ := C
  refine va_newa hx hb (hts _ harr) hty hW.2.2.1 hW.1 hW.2.1 hW.2.2.2.1 hW.2.2.2.2.1 ha hn hN hbytes hcells hslots hd (fun q cA' H1 hK hP hD hS => ?_)
  have h1 := (hK.2 ty.length (cA', ety) (by rw [List.getElem?_append_right (Nat.le_refl _), Nat.sub_self]; rfl)).2
  have h2 := (hW.2.2.1.2 t0 _ ht).2
  have e : cA' = cA := by
    cases ety with
    | object C => exact absurd rfl (hprim C)
    | _ => exact Option.some.inj (h1.symm.trans h2)
  subst e
  exact kk q H1 ⟨hP, hD, hW.2.2.1, hS, hW.2.2.2.2⟩
theorem w_newq (C : CallFix p m c cc nL s args lwg own) (hW : WI D idw ty A s ws H locs) {E : String} {index t0 : Nat} {cA : ClassId} (hcl : Cond.classLink own index E ∈ lwg) (hover : va_AO E s) (ht : ty[t0]? = some (cA, .object E)) {n : Int32} {N : Nat} (hn : ¬ n < 0) (hN : n.toNatClampNeg = N) (hbytes : N * 4 ≤ 536870912) (hcells : cells + 1 ≤ R.cells) (hslots : slots + N ≤ R.slots) (hd : decode cc pc = .ok (.anewarray index, 3))
    (kk : ∀ (q : Nat) (H1 : Heap), WI D idw ty A s (ws ++ [(q, .inl (cA, N, .inr (.inr (.inr (.inr (fun _ => none))))))]) H1 locs → W p l e R s m args below meth c H1 locs (cells + 1) (slots + N) Q (F0 m (pc + 3) ls (.ref q :: rest))) : W p l e R s m args below meth c H locs cells slots Q (F0 m pc ls (.int n :: rest)) := by
  obtain ⟨hx, hb, hml, hown, hts⟩ := C
  refine va_newq hx hb hown (hts _ hcl) hover hW.2.2.1 hW.1 hW.2.1 hW.2.2.2.1 hW.2.2.2.2.1 hn hN hbytes hcells hslots hd (fun q cA' H1 hK hP hD hS => ?_)
  obtain ⟨-, -, -, -, -, h1⟩ := (hK.2 ty.length (cA', .object E) (by rw [List.getElem?_append_right (Nat.le_refl _), Nat.sub_self]; rfl)).2
  obtain ⟨-, -, -, -, -, h2⟩ := (hW.2.2.1.2 t0 _ ht).2
  have e : cA' = cA := Option.some.inj (h1.symm.trans h2)
  subst e
  exact kk q H1 ⟨hP, hD, hW.2.2.1, hS, hW.2.2.2.2⟩
/-- a field of an object that is being made -/
theorem w_putF (C : CallFix p m c cc nL s args lwg own) (hi : meth.name = "<init>") (hW : WI D idw ty A s ws H locs) {Cn : String} {T : u_T} {N ci index q0 k a : Nat} {fs : List Value} {v : Value} (hin : ∀ w ∈ u_ws Cn T N, w ∈ lwg) (ty0 : Nat → FieldType) (hty : ∀ k, k < N → parseFieldDescriptor (T k).2.2.1 = some (ty0 k)) (hnm : ∀ a, a < N → ∀ b, b < N → a ≠ b → (T a).2.1 ≠ (T b).2.1) (he : ws[q0]? = some (a, .inr (ci, fs))) (hc : vwCl[ci]? = some (Cn, T, N)) (hk : k < N) (hl : Cond.fieldLink own index own (T k).2.1 (T k).2.2.1 ∈ lwg) (hfin : (T k).2.2.2 = true) (hdecl : (T k).1 = own) (hn : narrow (ty0 k) v = v) (hfit : fits (ty0 k) v = true) (hlen : k < fs.length) (hset : ws.set q0 (a, .inr (ci, fs.set k v)) = w1) (hd : decode cc pc = .ok (.putfield index, 3))
    (kk : ∀ (H' : Heap) (locs' : List Loc), WI D idw ty A s w1 H' locs' → W p l e R s m args below meth c H' locs' cells slots Q (F0 m (pc + 3) ls rest)) : W p l e R s m args below meth c H locs cells slots Q (F0 m pc ls (v :: .ref a :: rest)) := by
  obtain ⟨hx, hb, hml, hown, hts⟩ := C
  refine va_putF hx hb hts hin ty0 hty hnm hown hW.2.2.1 hW.1 hW.2.1 hW.2.2.2.1 q0 he hc k hk (hts _ hl) (fun x h => by rw [← hdecl]; exact h) hfin hi hdecl (hty k hk) hn hfit hlen hd (fun H1 locs1 hP hD hS => ?_)
  rw [hset] at hP hD
  exact kk H1 locs1 ⟨hP, hD, hW.2.2.1, hS, hW.2.2.2.2⟩
theorem w_objInit (C : CallFix p m c cc nL s args lwg own) {idx : Nat} (hlink : Cond.methodLink own idx Lib.objectInit ∈ lwg) (hinst : Cond.instanceMethod Lib.objectInit ∈ lwg) (hcode : Cond.code Lib.objectInit ⟨#[0xb1]⟩ 1 none ∈ lwg) (hls : ls.size = nL) {a : Nat} (hd : decode cc pc = .ok (.invokespecial idx, 3)) (hframes : 1 ≤ R.frames) (hlocals : (rest.map fun v => v.category).sum + 12 ≤ R.locals)
    (kk : W p l e R s m args below meth c H locs cells slots Q (F0 m (pc + 3) ls rest)) : W p l e R s m args below meth c H locs cells slots Q (F0 m pc ls (.ref a :: rest)) := by
  obtain ⟨hx, hb, hml, hown, hts⟩ := C
  exact W.objInit hx hb hown (hts _ hlink) (hts _ hinst) (hts _ hcode) rfl (by rw [hml]; exact hls) rfl hd hframes (by show 2 * 0 + _ + 12 ≤ _; omega) kk
theorem w_runI {S : Type} {ww : S → va_W} {σ : S} (C : CallFix p m c cc nL s args lwg own) (hW : WI D ww ty A s σ H locs) {y : MethodName} {b : ByteArray} {n idx np a : Nat} {rm : Room} {As : List Value} {mc ms : Nat} {Pc : Array Value → State → Prop} {Qc : Array Value → State → Outcome → State → Prop} {free : Addr → Prop}
    (hM : Met l y (cws y b n none) rm Pc Qc mc ms free) (hbl : FrameBlind Pc) (hpre : ∀ U : State, U.heap = H → s.WarmedH U.vm → Pc (Value.ref a :: As).toArray U) (hc : cOK own idx y b n none) (hy : y.name = "<init>") (hi : Cond.instanceMethod y ∈ lwg)
    (hd : y.cls ≠ "java/lang/invoke/MethodHandle" ∧ y.cls ≠ "java/lang/invoke/VarHandle" ∧ (parseMethodDescriptor y.desc).map (fun d => d.parameters.length) = some np) (hrm : rm.cells = mc ∧ rm.slots = ms) (hR : rm.frames + 1 ≤ R.frames ∧ 8 + (n + 11) + rm.locals ≤ R.locals)
    (hn : As.length = np) (hls : ls.size = nL) {st : List Value} (hst : st = As.reverse ++ .ref a :: rest) (hro : (rest.map fun v => v.category).sum ≤ 8) (hdg : decode cc pc = .ok (.invokespecial idx, 3)) (hf : cells + mc ≤ R.cells ∧ slots + ms ≤ R.slots) :
    va_Run p l e R s m args below meth c H locs cells slots mc ms (F0 m pc ls st) rest (Qc (Value.ref a :: As).toArray) free := by
  obtain ⟨h1, h2, h3⟩ := hc
  obtain ⟨hx, hb, hml, hown, hts⟩ := C
  exact va_runI ⟨hx, hb, hml, hown, hts⟩ hM ⟨callB_of np hts (cws_good h1) rfl hrm.1 hrm.2 (hts _ h2) (hts _ h3) hd hR, hy, hts _ hi⟩ ⟨hbl, hpre⟩ rfl hn hls hst (lv_room hro) hdg hf
/-- the array that all empty lists share -/
def zst (em : Nat) (A : Nat → Prop) (U : State) (H : Heap) : Prop := va_Z "java/util/ArrayList" "DEFAULTCAPACITY_EMPTY_ELEMENTDATA" "[Ljava/lang/Object;" (.ref em) A U H ∧ va_T (.object "java/lang/Object") em 0 (fun _ => .null) A U H
theorem zst.at {em : Nat} {A B : Nat → Prop} {s U : State} {H : Heap} {locs : List Loc} (h : zst em A s s.heap) (hS : va_S A s.heap H locs) (hB : ∀ q, B q → A q) (hvm : s.vm.Alike U.vm) : zst em B U H :=
  ⟨((h.1.kept (fun a h1 h2 => hS.2.1 a h1 h2)).narrow hB).moved hvm, ((h.2.kept (fun a h1 h2 => hS.2.1 a h1 h2)).narrow hB).moved hvm⟩
def WZ {S : Type} (D : va_G) (ww : S → va_W) (ty : List (ClassId × FieldType)) (em : Nat) (σ : S) (sz : Nat) (U : State) : Prop := WP D ww ty σ sz U ∧ zst em (va_A (ww σ) sz) U U.heap
theorem wz_blind {S : Type} {ww : S → va_W} {σ : S} {Av : List Value} {em sz : Nat} : FrameBlind (va_Pc Av (WZ D ww ty em σ sz)) := fun a U g mk q => by
  obtain ⟨q0, q1, q2⟩ := q
  have h := w_blind (D := D) (ww := ww) (ty := ty) (σ := σ) (sz := sz) a U g mk ⟨q0, q1⟩
  exact ⟨h.1, h.2, q2.1.moved (u := U) (U := U.calling g mk a) (Vm.Alike.refl U.vm), q2.2.moved (u := U) (U := U.calling g mk a) (Vm.Alike.refl U.vm)⟩
theorem wz_pre {S : Type} {ww : S → va_W} {σ : S} {em : Nat} (hW : WI D ww ty A s σ H locs) (hZ : zst em A s s.heap) {Av : List Value} (U : State) (hU : U.heap = H) (hV : s.WarmedH U.vm) : va_Pc Av (WZ D ww ty em σ H.size) Av.toArray U := by
  have h := w_pre hW (Av := Av) U hU hV
  exact ⟨rfl, h.2, by rw [hU]; exact hZ.at hW.2.2.2.1 (w_sub hW) hV.alike⟩
theorem w_enterZ {S : Type} {ww : S → va_W} {σ : S} {y : MethodName} {b : ByteArray} {n em : Nat} {ret : Option FieldType} {rm : Room} {Av : List Value} {mc ms sz : Nat} {Qc : Array Value → State → Outcome → State → Prop} (hy : plainFor y = true) (hn : (lg_sl Av).length ≤ n)
    (body : ∀ (p : Program) (e : Env) (s : State) (m : MethodId) (args : Array Value) (below : List Frame) (meth : Method) (c : Code) (ls : Array Slot), CallFix p m c b n s args lwg y.cls → meth.sig.returnType = ret → meth.locks = false → meth.name = y.name → s.heap.size = sz →
      WI D ww ty (va_A (ww σ) sz) s σ s.heap [] → zst em (va_A (ww σ) sz) s s.heap → lv_has ls n (lv_args 0 Av) → W p l e rm s m args below meth c s.heap [] 0 0 (MQ below Qc args s mc ms (va_A (ww σ) sz)) (F0 m 0 ls [])) :
    Met l y (cws y b n ret) rm (va_Pc Av (WZ D ww ty em σ sz)) Qc mc ms (va_A (ww σ) sz) := by
  refine va_MetF (cc := b) (maxL := n) (ret := ret) hy rfl ?_
  intro p e s m args below meth c s₁ B hml hv
  obtain ⟨rfl, ⟨hsz, hP, hK, hD, hN⟩, hZ⟩ := hv
  have hts := atoms_spec (ws := cws y b n ret) B.pre
  have hl := lv_entry Av (n := n) hn
  rw [lg_entry_eq]
  exact body p e s m _ below meth c _ ⟨B.exec, B.bytes, hml, findClass_of_methodNamed B.named, fun w hw => hts w (List.mem_cons_of_mem _ hw)⟩ B.returns B.notSynchronized (name_of_methodNamed B.named B.method).1 hsz ⟨hP, hD.self, hK, va_S.rf, fun q h => Or.inr (by rw [← hsz]; exact h), hN⟩ hZ hl
end BASE3
