/-! worlds as a function of a mathematical state: entry, returns, calls, fields, arrays -/
def lwg : List Cond := lw_tbl.filter goodWord
theorem lwG : lwg.all goodWord = true := List.all_eq_true.mpr (fun w h => (List.mem_filter.mp h).2)
theorem lwg_of {w : Cond} (h : w ∈ lw_tbl) (hg : goodWord w = true) : w ∈ lwg := List.mem_filter.mpr ⟨h, hg⟩
theorem lwg_at {w : Cond} (i : Nat) (h : lw_tbl[i]? = some w) (hg : goodWord w = true) : w ∈ lwg := lwg_of (List.mem_of_getElem? h) hg
theorem lwg_all {ws : List Cond} (h : ws.all (fun w => goodWord w && lw_tbl.contains w) = true) : ∀ w ∈ ws, w ∈ lwg := fun w hw => by
  have h1 := List.all_eq_true.mp h w hw
  simp only [Bool.and_eq_true] at h1
  exact lwg_of (List.contains_iff_mem.mp h1.2) h1.1
def bnd {α : Type} (a : α) (f : α → Prop) : Prop := ∀ x, x = a → f x
theorem bnd_iff {α : Type} {a : α} {f : α → Prop} : bnd a f ↔ f a := ⟨fun h => h a rfl, fun h x e => e ▸ h⟩
theorem br_pos {c A B : Prop} [Decidable c] (h : c) (q : if c then A else B) : A := by rwa [if_pos h] at q
theorem br_neg {c A B : Prop} [Decidable c] (h : ¬ c) (q : if c then A else B) : B := by rwa [if_neg h] at q
def isB (v : Int32) : Prop := v = 0 ∨ v = 1
theorem isB_0 : isB 0 := Or.inl rfl
theorem isB_1 : isB 1 := Or.inr rfl
theorem isB_ite {c : Prop} [Decidable c] {a b : Int32} (ha : isB a) (hb : isB b) : isB (if c then a else b) := by split <;> assumption
theorem isB_nar {v : Int32} (h : isB v) : narrow .boolean (.int v) = .int v := by rcases h with rfl | rfl <;> decide
theorem isB_fit {v : Int32} (h : isB v) : fits .boolean (.int v) = true := by rcases h with rfl | rfl <;> decide
theorem isB_vnar {v : Int32} (h : isB v) : vp_nar .boolean v = v := by rcases h with rfl | rfl <;> decide
def xN1 (U : State) : Prop := va_Nc "HermitsSpoon$Hermit" "HermitsSpoon$Slow" U ∧ va_Nc "HermitsSpoon$Deaf" "HermitsSpoon$Slow" U ∧ va_Nc "HermitsSpoon$Greedy" "HermitsSpoon$Slow" U ∧ va_Nc "HermitsSpoon$Hermit" "HermitsSpoon$Deaf" U ∧ va_Nc "HermitsSpoon$Slow" "HermitsSpoon$Deaf" U ∧ va_Nc "HermitsSpoon$Greedy" "HermitsSpoon$Deaf" U ∧ va_Nc "HermitsSpoon$Feeder" "HermitsSpoon$Deaf" U ∧ va_Nc "HermitsSpoon$Hermit" "HermitsSpoon$Greedy" U ∧ va_Nc "HermitsSpoon$Slow" "HermitsSpoon$Greedy" U ∧ va_Nc "HermitsSpoon$Deaf" "HermitsSpoon$Greedy" U ∧ va_Nc "HermitsSpoon$Feeder" "HermitsSpoon$Greedy" U ∧ va_Nc "HermitsSpoon$Hermit" "HermitsSpoon$Feeder" U ∧ va_Nc "HermitsSpoon$Slow" "HermitsSpoon$Feeder" U ∧ va_Nc "HermitsSpoon$Deaf" "HermitsSpoon$Feeder" U ∧ va_Nc "HermitsSpoon$Greedy" "HermitsSpoon$Feeder" U
def xN2 (U : State) : Prop := va_Nw (.castable "HermitsSpoon$Deaf" "HermitsSpoon$Hermit") U ∧ va_Nw (.castable "HermitsSpoon$Feeder" "HermitsSpoon$Hermit") U ∧ va_Nw (.castable "HermitsSpoon$Greedy" "HermitsSpoon$Hermit") U ∧ va_Nw (.castable "HermitsSpoon$Slow" "HermitsSpoon$Hermit") U ∧ va_Nw (.castable "HermitsSpoon$Feeder" "HermitsSpoon$Slow") U ∧ va_Nw (.castable "HermitsSpoon$Deaf" "java/lang/Object") U ∧ va_Nw (.castable "HermitsSpoon$Feeder" "java/lang/Object") U ∧ va_Nw (.castable "HermitsSpoon$Greedy" "java/lang/Object") U ∧ va_Nw (.castable "HermitsSpoon$Slow" "java/lang/Object") U ∧ va_Nw (.castable "HermitsSpoon$Hermit" "java/lang/Object") U ∧ va_Nw (.castable "HermitsSpoon$Vow" "java/lang/Object") U
def xN3 (U : State) : Prop := va_Nw (.methodLinkNest "HermitsSpoon" 21 ⟨"HermitsSpoon$Page", "<init>", "()V"⟩ "HermitsSpoon") U ∧ va_Nw (.methodLinkNest "HermitsSpoon$Vow" 29 ⟨"HermitsSpoon", "asNumber", "(Z)I"⟩ "HermitsSpoon") U ∧ va_Nw (.methodLinkNest "HermitsSpoon$Sitting" 161 ⟨"HermitsSpoon", "asNumber", "(Z)I"⟩ "HermitsSpoon") U ∧ va_Nw (.methodLinkNest "HermitsSpoon$Table" 59 ⟨"HermitsSpoon", "asNumber", "(Z)I"⟩ "HermitsSpoon") U
/-- what the tables say that no word list carries: casts that fail, casts that hold, links among nest mates, the class of Object[] -/
def xNc (U : State) : Prop := xN1 U ∧ xN2 U ∧ xN3 U ∧ va_AO "java/lang/Object" U
theorem xN1.moved {u U : State} (hvm : u.vm.Alike U.vm) (h : xN1 u) : xN1 U := by
  obtain ⟨h0, h1, h2, h3, h4, h5, h6, h7, h8, h9, h10, h11, h12, h13, h14⟩ := h
  exact ⟨h0.moved hvm, h1.moved hvm, h2.moved hvm, h3.moved hvm, h4.moved hvm, h5.moved hvm, h6.moved hvm, h7.moved hvm, h8.moved hvm, h9.moved hvm, h10.moved hvm, h11.moved hvm, h12.moved hvm, h13.moved hvm, h14.moved hvm⟩
theorem xN2.warm {u U : State} (hV : u.WarmedH U.vm) (h : xN2 u) : xN2 U := by
  obtain ⟨h0, h1, h2, h3, h4, h5, h6, h7, h8, h9, h10⟩ := h
  exact ⟨va_Nw.warmC hV h0, va_Nw.warmC hV h1, va_Nw.warmC hV h2, va_Nw.warmC hV h3, va_Nw.warmC hV h4, va_Nw.warmC hV h5, va_Nw.warmC hV h6, va_Nw.warmC hV h7, va_Nw.warmC hV h8, va_Nw.warmC hV h9, va_Nw.warmC hV h10⟩
theorem xN3.warm {u U : State} (hV : u.WarmedH U.vm) (h : xN3 u) : xN3 U := by
  obtain ⟨h0, h1, h2, h3⟩ := h
  exact ⟨va_Nw.warmM hV h0, va_Nw.warmM hV h1, va_Nw.warmM hV h2, va_Nw.warmM hV h3⟩
theorem xN2.same {u U : State} (hV : u.vm = U.vm) (h : xN2 u) : xN2 U := by
  obtain ⟨h0, h1, h2, h3, h4, h5, h6, h7, h8, h9, h10⟩ := h
  exact ⟨va_Nw.same rfl hV h0, va_Nw.same rfl hV h1, va_Nw.same rfl hV h2, va_Nw.same rfl hV h3, va_Nw.same rfl hV h4, va_Nw.same rfl hV h5, va_Nw.same rfl hV h6, va_Nw.same rfl hV h7, va_Nw.same rfl hV h8, va_Nw.same rfl hV h9, va_Nw.same rfl hV h10⟩
theorem xN3.same {u U : State} (hV : u.vm = U.vm) (h : xN3 u) : xN3 U := by
  obtain ⟨h0, h1, h2, h3⟩ := h
  exact ⟨va_Nw.same rfl hV h0, va_Nw.same rfl hV h1, va_Nw.same rfl hV h2, va_Nw.same rfl hV h3⟩
theorem xNc.warm {u U : State} (hV : u.WarmedH U.vm) (h : xNc u) : xNc U := ⟨h.1.moved hV.alike, h.2.1.warm hV, h.2.2.1.warm hV, h.2.2.2.moved hV.alike⟩
theorem xNc.same {u U : State} (hV : u.vm = U.vm) (h : xNc u) : xNc U := ⟨h.1.moved (by rw [hV]; exact Vm.Alike.refl _), h.2.1.same hV, h.2.2.1.same hV, h.2.2.2.moved (by rw [hV]; exact Vm.Alike.refl _)⟩
section BASE
variable {p : Program} {l : Launch} {e : Env} {R : Room} {s : State} {m : MethodId} {args : Array Value} {below : List Frame} {meth : Method} {c : Code} {H : Heap} {locs : List Loc} {cells slots : Nat} {Q : State → Prop}
variable {cc : ByteArray} {pc : Nat} {ls : Array Slot} {rest : List Value} {own : String} {nL : Nat}
variable {S : Type} {D : va_G} {ww : S → va_W} {ty : List (ClassId × FieldType)} {A : Nat → Prop} {σ σ' : S}
def WI {S : Type} (D : va_G) (ww : S → va_W) (ty : List (ClassId × FieldType)) (A : Nat → Prop) (s : State) (σ : S) (H : Heap) (locs : List Loc) : Prop :=
  va_P D vwCl (ww σ) H ∧ va_D A (ww σ) ∧ va_K D vwCl ty s ∧ va_S A s.heap H locs ∧ (∀ q, s.heap.size ≤ q → A q) ∧ xNc s
def WP {S : Type} (D : va_G) (ww : S → va_W) (ty : List (ClassId × FieldType)) (σ : S) (sz : Nat) (U : State) : Prop :=
  U.heap.size = sz ∧ va_P D vwCl (ww σ) U.heap ∧ va_K D vwCl ty U ∧ va_D (fun _ => True) (ww σ) ∧ xNc U
def WB {S : Type} (D : va_G) (ww : S → va_W) (ty : List (ClassId × FieldType)) (σ : S) (sz : Nat) (σ' : S) (t : State) : Prop :=
  va_P D vwCl (ww σ') t.heap ∧ va_K D vwCl ty t ∧ va_D (va_A (ww σ) sz) (ww σ')
abbrev cws (y : MethodName) (b : ByteArray) (n : Nat) (ret : Option FieldType) : List Cond := Cond.code y b n ret :: lwg
theorem w_enter {y : MethodName} {b : ByteArray} {n : Nat} {ret : Option FieldType} {rm : Room} {Av : List Value} {mc ms sz : Nat} {Qc : Array Value → State → Outcome → State → Prop} (hy : plainName y.cls = true) (hn : (lg_sl Av).length ≤ n)
    (body : ∀ (p : Program) (e : Env) (s : State) (m : MethodId) (args : Array Value) (below : List Frame) (meth : Method) (c : Code) (ls : Array Slot), CallFix p m c b n s args lwg y.cls → meth.sig.returnType = ret → meth.locks = false → meth.name = y.name → s.heap.size = sz →
      WI D ww ty (va_A (ww σ) sz) s σ s.heap [] → lv_has ls n (lv_args 0 Av) → W p l e rm s m args below meth c s.heap [] 0 0 (MQ below Qc args s mc ms (va_A (ww σ) sz)) (F0 m 0 ls [])) :
    Met l y (cws y b n ret) rm (va_Pc Av (WP D ww ty σ sz)) Qc mc ms (va_A (ww σ) sz) := by
  refine Met.ofW (cc := b) (maxL := n) (ret := ret) hy rfl ?_
  intro p e s m args below meth c s₁ B hml hv
  obtain ⟨rfl, hsz, hP, hK, hD, hN⟩ := hv
  have hts := atoms_spec (ws := cws y b n ret) B.pre
  have hl := lv_entry Av (n := n) hn
  rw [lg_entry_eq]
  exact body p e s m _ below meth c _ ⟨B.exec, B.bytes, hml, findClass_of_methodNamed B.named, fun w hw => hts w (List.mem_cons_of_mem _ hw)⟩ B.returns B.notSynchronized (name_of_methodNamed B.named B.method).1 hsz ⟨hP, hD.self, hK, va_S.rf, fun q h => Or.inr (by rw [← hsz]; exact h), hN⟩ hl
theorem w_iret (C : CallFix p m c cc nL s args lwg own) {sz : Nat} (hs : s.heap.size = sz) (hr : meth.sig.returnType = some .int) (hk : meth.locks = false) (hW : WI D ww ty (va_A (ww σ) sz) s σ' H locs) {post : Int32 → S → Prop} {v : Int32} (hd : decode cc pc = .ok (.ireturn, 1)) (hq : post v σ') :
    W p l e R s m args below meth c H locs cells slots (MQ below (va_Qi post (WB D ww ty σ sz) (va_A (ww σ) sz)) args s cells slots (va_A (ww σ) sz)) (F0 m pc ls [.int v]) := by
  obtain ⟨hP, hD, hK, hS, -⟩ := hW
  exact W.iret (v := v) C.1 C.2.1 hr (fun t ht hW => ⟨⟨v, σ', rfl, hq, by rw [ht]; exact hP, va_K.moved hW.alike hK, hD⟩, hS.F ht⟩) hS.2.2 hd
theorem w_zret (C : CallFix p m c cc nL s args lwg own) {sz : Nat} (hs : s.heap.size = sz) (hr : meth.sig.returnType = some .boolean) (hk : meth.locks = false) (hW : WI D ww ty (va_A (ww σ) sz) s σ' H locs) {post : Int32 → S → Prop} {v : Int32} (hd : decode cc pc = .ok (.ireturn, 1)) (hv : isB v) (hq : post v σ') :
    W p l e R s m args below meth c H locs cells slots (MQ below (va_Qi post (WB D ww ty σ sz) (va_A (ww σ) sz)) args s cells slots (va_A (ww σ) sz)) (F0 m pc ls [.int v]) := by
  obtain ⟨hP, hD, hK, hS, -⟩ := hW
  exact W.zret (v := v) C.1 C.2.1 hr (isB_nar hv) (fun t ht hW => ⟨⟨v, σ', rfl, hq, by rw [ht]; exact hP, va_K.moved hW.alike hK, hD⟩, hS.F ht⟩) hS.2.2 hd
theorem w_lret (C : CallFix p m c cc nL s args lwg own) {sz : Nat} (hs : s.heap.size = sz) (hr : meth.sig.returnType = some .long) (hk : meth.locks = false) (hW : WI D ww ty (va_A (ww σ) sz) s σ' H locs) {post : Int64 → S → Prop} {v : Int64} (hd : decode cc pc = .ok (.lreturn, 1)) (hq : post v σ') :
    W p l e R s m args below meth c H locs cells slots (MQ below (va_Ql post (WB D ww ty σ sz) (va_A (ww σ) sz)) args s cells slots (va_A (ww σ) sz)) (F0 m pc ls [.long v]) := by
  obtain ⟨hP, hD, hK, hS, -⟩ := hW
  exact W.lret (v := v) C.1 C.2.1 hr (fun t ht hW => ⟨⟨v, σ', rfl, hq, by rw [ht]; exact hP, va_K.moved hW.alike hK, hD⟩, hS.F ht⟩) hS.2.2 hd
theorem w_vret (C : CallFix p m c cc nL s args lwg own) {sz : Nat} (hs : s.heap.size = sz) (hr : meth.sig.returnType = none) (hk : meth.locks = false) (hW : WI D ww ty (va_A (ww σ) sz) s σ' H locs) {post : S → Prop} (hd : decode cc pc = .ok (.return_, 1)) (hq : post σ') :
    W p l e R s m args below meth c H locs cells slots (MQ below (va_Qv post (WB D ww ty σ sz) (va_A (ww σ) sz)) args s cells slots (va_A (ww σ) sz)) (F0 m pc ls []) := by
  obtain ⟨hP, hD, hK, hS, -⟩ := hW
  exact W.vret C.1 C.2.1 hr (fun t ht hW => ⟨⟨σ', rfl, hq, by rw [ht]; exact hP, va_K.moved hW.alike hK, hD⟩, hS.F ht⟩) hS.2.2 hd
/-- what a call's words are: its code, its link, its class -/
def cOK (own : String) (idx : Nat) (y : MethodName) (b : ByteArray) (n : Nat) (ret : Option FieldType) : Prop :=
  Cond.code y b n ret ∈ lwg ∧ Cond.initialized y.cls ∈ lwg ∧ Cond.methodLink own idx y ∈ lwg
theorem cws_good {y : MethodName} {b : ByteArray} {n : Nat} {ret : Option FieldType} (h : Cond.code y b n ret ∈ lwg) : GoodIn lwg (cws y b n ret) := fun w hw => by
  have hm : w ∈ lwg := by
    rcases List.mem_cons.mp hw with e | e
    · rw [e]; exact h
    · exact e
  exact ⟨hm, good_of_word (List.all_eq_true.mp lwG w hm)⟩
theorem w_blind {Av : List Value} {sz : Nat} : FrameBlind (va_Pc Av (WP D ww ty σ sz)) := fun a U g mk q => by
  obtain ⟨q0, q1, qP, qK, qD, qN⟩ := q
  exact ⟨q0, q1, qP, va_K.moved (u := U) (U := U.calling g mk a) (Vm.Alike.refl U.vm) qK, qD, qN.same (u := U) (U := U.calling g mk a) rfl⟩
theorem w_pre (hW : WI D ww ty A s σ H locs) {Av : List Value} (U : State) (hU : U.heap = H) (hV : s.WarmedH U.vm) : va_Pc Av (WP D ww ty σ H.size) Av.toArray U :=
  ⟨rfl, by rw [hU], by rw [hU]; exact hW.1, va_K.moved hV.alike hW.2.2.1, hW.2.1.weaken (fun _ _ _ _ => trivial), hW.2.2.2.2.2.warm hV⟩
theorem w_sub (hW : WI D ww ty A s σ H locs) : ∀ q, va_A (ww σ) H.size q → A q := fun q h => by
  rcases h with ⟨k, e, h⟩ | h
  · exact hW.2.1.2 k (q, e) h
  · exact hW.2.2.2.2.1 q (Nat.le_trans hW.2.2.2.1.1 h)
theorem w_back (hW : WI D ww ty A s σ H locs) {t : State} {H1 : Heap} {locs1 : List Loc} (ht : t.heap = H1) (hvm : s.vm.Alike t.vm) (hB : WB D ww ty σ H.size σ' t) (hS : va_S A s.heap H1 locs1) : WI D ww ty A s σ' H1 locs1 := by
  obtain ⟨hP, hK, hD⟩ := hB
  rw [ht] at hP
  exact ⟨hP, hD.weaken (fun k q _ h => w_sub hW q.1 h), va_K.moved hvm.symm hK, hS, hW.2.2.2.2⟩
/-- how a callee runs: any kind of call, its contract over the whole world -/
abbrev runsAs (p : Program) (l : Launch) (e : Env) (R : Room) (s : State) (m : MethodId) (args : Array Value) (below : List Frame) (meth : Method) (c : Code) (H : Heap) (locs : List Loc) (cells slots mc ms : Nat) (pc : Nat) (ls : Array Slot) (st rest : List Value) (Qa : State → Outcome → State → Prop) (free : Addr → Prop) : Prop :=
  va_Run p l e R s m args below meth c H locs cells slots mc ms (F0 m pc ls st) rest Qa free
theorem w_runV (C : CallFix p m c cc nL s args lwg own) (hW : WI D ww ty A s σ H locs) {y : MethodName} {b : ByteArray} {n idx np q0 ci a : Nat} {ret : Option FieldType} {rm : Room} {As : List Value} {mc ms : Nat} {Qc : Array Value → State → Outcome → State → Prop} {fs : List Value} {vc : vw_C}
    (hM : Met l y (cws y b n ret) rm (va_Pc (.ref a :: As) (WP D ww ty σ H.size)) Qc mc ms (va_A (ww σ) H.size)) (hc : cOK own idx y b n ret) (hi : Cond.instanceMethod y ∈ lwg) (hse : Cond.selects y.cls y y ∈ lwg)
    (hd : y.cls ≠ "java/lang/invoke/MethodHandle" ∧ y.cls ≠ "java/lang/invoke/VarHandle" ∧ (parseMethodDescriptor y.desc).map (fun d => d.parameters.length) = some np) (hrm : rm.cells = mc ∧ rm.slots = ms) (hR : rm.frames + 1 ≤ R.frames ∧ 8 + (n + 11) + rm.locals ≤ R.locals)
    (hcl : vwCl[ci]? = some vc) (hvc : vc.1 = y.cls) (he : (ww σ)[q0]? = some (a, .inr (ci, fs))) (hn : As.length = np) (hls : ls.size = nL) {st : List Value} (hst : st = As.reverse ++ .ref a :: rest) (hro : (rest.map fun v => v.category).sum ≤ 8) (hdg : decode cc pc = .ok (.invokevirtual idx, 3)) (hf : cells + mc ≤ R.cells ∧ slots + ms ≤ R.slots) :
    va_Run p l e R s m args below meth c H locs cells slots mc ms (F0 m pc ls st) rest (Qc (Value.ref a :: As).toArray) (va_A (ww σ) H.size) := by
  obtain ⟨h1, h2, h3⟩ := hc
  obtain ⟨hx, hb, hml, hown, hts⟩ := C
  refine va_runV (C := y.cls) ⟨hx, hb, hml, hown, hts⟩ hM ⟨callB_of np hts (cws_good h1) rfl hrm.1 hrm.2 (hts _ h2) (hts _ h3) hd hR, hts _ hi, hts _ hse⟩ ⟨w_blind, ?_, fun U hU hV => w_pre hW U hU hV⟩ rfl hn hls hst (lv_room hro) hdg hf
  rw [← hvc]
  exact va_recv hW.2.2.1 hW.1 hcl he
theorem w_runS (C : CallFix p m c cc nL s args lwg own) (hW : WI D ww ty A s σ H locs) {y : MethodName} {b : ByteArray} {n idx np : Nat} {ret : Option FieldType} {rm : Room} {As : List Value} {mc ms : Nat} {Qc : Array Value → State → Outcome → State → Prop}
    (hM : Met l y (cws y b n ret) rm (va_Pc As (WP D ww ty σ H.size)) Qc mc ms (va_A (ww σ) H.size)) (hc : cOK own idx y b n ret) (hi : Cond.static y ∈ lwg)
    (hd : y.cls ≠ "java/lang/invoke/MethodHandle" ∧ y.cls ≠ "java/lang/invoke/VarHandle" ∧ (parseMethodDescriptor y.desc).map (fun d => d.parameters.length) = some np) (hrm : rm.cells = mc ∧ rm.slots = ms) (hR : rm.frames + 1 ≤ R.frames ∧ 8 + (n + 11) + rm.locals ≤ R.locals)
    (hn : As.length = np) (hls : ls.size = nL) {st : List Value} (hst : st = As.reverse ++ rest) (hro : (rest.map fun v => v.category).sum ≤ 8) (hdg : decode cc pc = .ok (.invokestatic idx, 3)) (hf : cells + mc ≤ R.cells ∧ slots + ms ≤ R.slots) :
    va_Run p l e R s m args below meth c H locs cells slots mc ms (F0 m pc ls st) rest (Qc As.toArray) (va_A (ww σ) H.size) := by
  obtain ⟨h1, h2, h3⟩ := hc
  obtain ⟨hx, hb, hml, hown, hts⟩ := C
  exact va_runS ⟨hx, hb, hml, hown, hts⟩ hM ⟨callB_of np hts (cws_good h1) rfl hrm.1 hrm.2 (hts _ h2) (hts _ h3) hd hR, hts _ hi⟩ ⟨w_blind, fun U hU hV => w_pre hW U hU hV⟩ rfl hn hls hst (lv_room hro) hdg hf
theorem w_calli (hW : WI D ww ty A s σ H locs) {mc ms : Nat} {st : List Value} {post : Int32 → S → Prop} {a : Array Value} (hr : va_Run p l e R s m args below meth c H locs cells slots mc ms (F0 m pc ls st) rest (va_Qi post (WB D ww ty σ H.size) (va_A (ww σ) H.size) a) (va_A (ww σ) H.size))
    (kk : ∀ (r : Int32) (σ' : S) (H' : Heap) (locs' : List Loc), post r σ' → WI D ww ty A s σ' H' locs' → W p l e R s m args below meth c H' locs' (cells + mc) (slots + ms) Q (F0 m (pc + 3) ls (.int r :: rest))) : W p l e R s m args below meth c H locs cells slots Q (F0 m pc ls st) :=
  va_calli hr hW.2.2.2.1 (fun q _ h => w_sub hW q h) (w_sub hW) (fun r u t H1 locs1 ht hvm hp hB _ _ hS => kk r u H1 locs1 hp (w_back hW ht hvm hB hS))
theorem w_calll (hW : WI D ww ty A s σ H locs) {mc ms : Nat} {st : List Value} {post : Int64 → S → Prop} {a : Array Value} (hr : va_Run p l e R s m args below meth c H locs cells slots mc ms (F0 m pc ls st) rest (va_Ql post (WB D ww ty σ H.size) (va_A (ww σ) H.size) a) (va_A (ww σ) H.size))
    (kk : ∀ (r : Int64) (σ' : S) (H' : Heap) (locs' : List Loc), post r σ' → WI D ww ty A s σ' H' locs' → W p l e R s m args below meth c H' locs' (cells + mc) (slots + ms) Q (F0 m (pc + 3) ls (.long r :: rest))) : W p l e R s m args below meth c H locs cells slots Q (F0 m pc ls st) :=
  va_calll hr hW.2.2.2.1 (fun q _ h => w_sub hW q h) (w_sub hW) (fun r u t H1 locs1 ht hvm hp hB _ _ hS => kk r u H1 locs1 hp (w_back hW ht hvm hB hS))
theorem w_callv (hW : WI D ww ty A s σ H locs) {mc ms : Nat} {st : List Value} {post : S → Prop} {a : Array Value} (hr : va_Run p l e R s m args below meth c H locs cells slots mc ms (F0 m pc ls st) rest (va_Qv post (WB D ww ty σ H.size) (va_A (ww σ) H.size) a) (va_A (ww σ) H.size))
    (kk : ∀ (σ' : S) (H' : Heap) (locs' : List Loc), post σ' → WI D ww ty A s σ' H' locs' → W p l e R s m args below meth c H' locs' (cells + mc) (slots + ms) Q (F0 m (pc + 3) ls rest)) : W p l e R s m args below meth c H locs cells slots Q (F0 m pc ls st) :=
  va_callv hr hW.2.2.2.1 (fun q _ h => w_sub hW q h) (w_sub hW) (fun u t H1 locs1 ht hvm hp hB _ _ hS => kk u H1 locs1 hp (w_back hW ht hvm hB hS))
theorem w_get (C : CallFix p m c cc nL s args lwg own) (hW : WI D ww ty A s σ H locs) {ref Cn : String} {T : u_T} {N ci index q0 k a : Nat} {fs : List Value} {v : Value} (hin : ∀ w ∈ u_ws Cn T N, w ∈ lwg) (he : (ww σ)[q0]? = some (a, .inr (ci, fs))) (hc : vwCl[ci]? = some (Cn, T, N)) (hk : k < N) (hl : Cond.fieldLink own index ref (T k).2.1 (T k).2.2.1 ∈ lwg) (href : ref = (T k).1) (hv : fs[k]? = some v) (hd : decode cc pc = .ok (.getfield index, 3))
    (kk : W p l e R s m args below meth c H locs cells slots Q (F0 m (pc + 3) ls (v :: rest))) : W p l e R s m args below meth c H locs cells slots Q (F0 m pc ls (.ref a :: rest)) := by
  obtain ⟨hx, hb, hml, hown, hts⟩ := C
  exact va_get hx hb hts hin hown hW.2.2.1 hW.1 q0 he hc k hk (hts _ hl) (fun x h => by rw [href]; exact h) hv hd kk
theorem w_put (C : CallFix p m c cc nL s args lwg own) (hW : WI D ww ty A s σ H locs) {ref Cn : String} {T : u_T} {N ci index q0 k a : Nat} {fs : List Value} {v : Value} (hin : ∀ w ∈ u_ws Cn T N, w ∈ lwg) (ty0 : Nat → FieldType) (hty : ∀ k, k < N → parseFieldDescriptor (T k).2.2.1 = some (ty0 k)) (hnm : ∀ a, a < N → ∀ b, b < N → a ≠ b → (T a).2.1 ≠ (T b).2.1) (he : (ww σ)[q0]? = some (a, .inr (ci, fs))) (hc : vwCl[ci]? = some (Cn, T, N)) (hk : k < N) (hl : Cond.fieldLink own index ref (T k).2.1 (T k).2.2.1 ∈ lwg) (href : ref = (T k).1) (hfin : (T k).2.2.2 = false) (hn : narrow (ty0 k) v = v) (hfit : fits (ty0 k) v = true) (hlen : k < fs.length) (hset : (ww σ).set q0 (a, .inr (ci, fs.set k v)) = ww σ') (hd : decode cc pc = .ok (.putfield index, 3))
    (kk : ∀ (σ1 : S) (H' : Heap) (locs' : List Loc), σ1 = σ' → WI D ww ty A s σ1 H' locs' → W p l e R s m args below meth c H' locs' cells slots Q (F0 m (pc + 3) ls rest)) : W p l e R s m args below meth c H locs cells slots Q (F0 m pc ls (v :: .ref a :: rest)) := by
  obtain ⟨hx, hb, hml, hown, hts⟩ := C
  refine va_put hx hb hts hin ty0 hty hnm hown hW.2.2.1 hW.1 hW.2.1 hW.2.2.2.1 q0 he hc k hk (hts _ hl) (fun x h => by rw [href]; exact h) hfin (hty k hk) hn hfit hlen hd (fun H1 locs1 hP hD hS => ?_)
  rw [hset] at hP hD
  exact kk σ' H1 locs1 rfl ⟨hP, hD, hW.2.2.1, hS, hW.2.2.2.2⟩
theorem w_ald (C : CallFix p m c cc nL s args lwg own) (hW : WI D ww ty A s σ H locs) {q0 t0 a n : Nat} {cA : ClassId} {f : Nat → Int32} {i : Int32} (he : (ww σ)[q0]? = some (a, .inl (cA, n, .inl f))) (ht : ty[t0]? = some (cA, .int)) (hin : vp_in i n) (hd : decode cc pc = .ok (.iaload, 1))
    (kk : W p l e R s m args below meth c H locs cells slots Q (F0 m (pc + 1) ls (.int (f i.toNatClampNeg) :: rest))) : W p l e R s m args below meth c H locs cells slots Q (F0 m pc ls (.int i :: .ref a :: rest)) :=
  va_iald C.1 C.2.1 hW.2.2.1 hW.1 q0 t0 he ht hin hd kk
theorem w_zald (C : CallFix p m c cc nL s args lwg own) (hW : WI D ww ty A s σ H locs) {q0 t0 a n : Nat} {cA : ClassId} {f : Nat → Int32} {i : Int32} (he : (ww σ)[q0]? = some (a, .inl (cA, n, .inl f))) (ht : ty[t0]? = some (cA, .boolean)) (hin : vp_in i n) (hd : decode cc pc = .ok (.baload, 1))
    (kk : W p l e R s m args below meth c H locs cells slots Q (F0 m (pc + 1) ls (.int (f i.toNatClampNeg) :: rest))) : W p l e R s m args below meth c H locs cells slots Q (F0 m pc ls (.int i :: .ref a :: rest)) :=
  va_zald C.1 C.2.1 hW.2.2.1 hW.1 q0 t0 he ht hin hd kk
theorem w_bald (C : CallFix p m c cc nL s args lwg own) (hW : WI D ww ty A s σ H locs) {q0 t0 a n : Nat} {cA : ClassId} {f : Nat → Int32} {i : Int32} (he : (ww σ)[q0]? = some (a, .inl (cA, n, .inl f))) (ht : ty[t0]? = some (cA, .byte)) (hin : vp_in i n) (hd : decode cc pc = .ok (.baload, 1))
    (kk : W p l e R s m args below meth c H locs cells slots Q (F0 m (pc + 1) ls (.int (f i.toNatClampNeg) :: rest))) : W p l e R s m args below meth c H locs cells slots Q (F0 m pc ls (.int i :: .ref a :: rest)) :=
  va_bald C.1 C.2.1 hW.2.2.1 hW.1 q0 t0 he ht hin hd kk
theorem w_ast (C : CallFix p m c cc nL s args lwg own) (hW : WI D ww ty A s σ H locs) {q0 t0 a n : Nat} {cA : ClassId} {f : Nat → Int32} {i x : Int32} (he : (ww σ)[q0]? = some (a, .inl (cA, n, .inl f))) (ht : ty[t0]? = some (cA, .int)) (hset : (ww σ).set q0 (a, .inl (cA, n, .inl (upd f i.toNatClampNeg x))) = ww σ') (hin : vp_in i n) (hd : decode cc pc = .ok (.iastore, 1))
    (kk : ∀ (σ1 : S) (H' : Heap) (locs' : List Loc), σ1 = σ' → WI D ww ty A s σ1 H' locs' → W p l e R s m args below meth c H' locs' cells slots Q (F0 m (pc + 1) ls rest)) : W p l e R s m args below meth c H locs cells slots Q (F0 m pc ls (.int x :: .int i :: .ref a :: rest)) := by
  refine va_iast C.1 C.2.1 hW.2.2.1 hW.1 hW.2.1 hW.2.2.2.1 q0 t0 he ht hin hd (fun H1 locs1 hP hD hS => ?_)
  rw [hset] at hP hD
  exact kk σ' H1 locs1 rfl ⟨hP, hD, hW.2.2.1, hS, hW.2.2.2.2⟩
theorem w_zast (C : CallFix p m c cc nL s args lwg own) (hW : WI D ww ty A s σ H locs) {q0 t0 a n : Nat} {cA : ClassId} {f : Nat → Int32} {i x : Int32} (he : (ww σ)[q0]? = some (a, .inl (cA, n, .inl f))) (ht : ty[t0]? = some (cA, .boolean)) (hset : (ww σ).set q0 (a, .inl (cA, n, .inl (upd f i.toNatClampNeg (vp_nar .boolean x)))) = ww σ') (hin : vp_in i n) (hd : decode cc pc = .ok (.bastore, 1))
    (kk : ∀ (σ1 : S) (H' : Heap) (locs' : List Loc), σ1 = σ' → WI D ww ty A s σ1 H' locs' → W p l e R s m args below meth c H' locs' cells slots Q (F0 m (pc + 1) ls rest)) : W p l e R s m args below meth c H locs cells slots Q (F0 m pc ls (.int x :: .int i :: .ref a :: rest)) := by
  refine va_zast C.1 C.2.1 hW.2.2.1 hW.1 hW.2.1 hW.2.2.2.1 q0 t0 he ht hin hd (fun H1 locs1 hP hD hS => ?_)
  rw [hset] at hP hD
  exact kk σ' H1 locs1 rfl ⟨hP, hD, hW.2.2.1, hS, hW.2.2.2.2⟩
theorem w_bast (C : CallFix p m c cc nL s args lwg own) (hW : WI D ww ty A s σ H locs) {q0 t0 a n : Nat} {cA : ClassId} {f : Nat → Int32} {i x : Int32} (he : (ww σ)[q0]? = some (a, .inl (cA, n, .inl f))) (ht : ty[t0]? = some (cA, .byte)) (hset : (ww σ).set q0 (a, .inl (cA, n, .inl (upd f i.toNatClampNeg (vp_nar .byte x)))) = ww σ') (hin : vp_in i n) (hd : decode cc pc = .ok (.bastore, 1))
    (kk : ∀ (σ1 : S) (H' : Heap) (locs' : List Loc), σ1 = σ' → WI D ww ty A s σ1 H' locs' → W p l e R s m args below meth c H' locs' cells slots Q (F0 m (pc + 1) ls rest)) : W p l e R s m args below meth c H locs cells slots Q (F0 m pc ls (.int x :: .int i :: .ref a :: rest)) := by
  refine va_bast C.1 C.2.1 hW.2.2.1 hW.1 hW.2.1 hW.2.2.2.1 q0 t0 he ht hin hd (fun H1 locs1 hP hD hS => ?_)
  rw [hset] at hP hD
  exact kk σ' H1 locs1 rfl ⟨hP, hD, hW.2.2.1, hS, hW.2.2.2.2⟩
end BASE
