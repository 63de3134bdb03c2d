/-! references as answers, nest mates, virtual calls, arrays of references, the JDK's own methods -/
section BASE2
variable {p : Program} {l : Launch} {e : Env} {R : Room} {s : State} {m : MethodId} {args : Array Value} {below : List Frame} {meth : Method} {c : Code} {H : Heap} {locs : List Loc} {cells slots : Nat} {Q : State → Prop}
variable {cc : ByteArray} {pc : Nat} {ls : Array Slot} {rest : List Value} {own : String} {nL : Nat}
variable {S : Type} {D : va_G} {ww : S → va_W} {ty : List (ClassId × FieldType)} {A : Nat → Prop} {σ σ' : S}
theorem w_enterF {y : MethodName} {b : ByteArray} {n : Nat} {ret : Option FieldType} {rm : Room} {Av : List Value} {mc ms sz : Nat} {Qc : Array Value → State → Outcome → State → Prop} (hy : plainFor y = true) (hn : (lg_sl Av).length ≤ n)
    (body : ∀ (p : Program) (e : Env) (s : State) (m : MethodId) (args : Array Value) (below : List Frame) (meth : Method) (c : Code) (ls : Array Slot), CallFix p m c b n s args lwg y.cls → meth.sig.returnType = ret → meth.locks = false → meth.name = y.name → s.heap.size = sz →
      WI D ww ty (va_A (ww σ) sz) s σ s.heap [] → lv_has ls n (lv_args 0 Av) → W p l e rm s m args below meth c s.heap [] 0 0 (MQ below Qc args s mc ms (va_A (ww σ) sz)) (F0 m 0 ls [])) :
    Met l y (cws y b n ret) rm (va_Pc Av (WP D ww ty σ sz)) Qc mc ms (va_A (ww σ) sz) := by
  refine va_MetF (cc := b) (maxL := n) (ret := ret) hy rfl ?_
  intro p e s m args below meth c s₁ B hml hv
  obtain ⟨rfl, hsz, hP, hK, hD, hN⟩ := hv
  have hts := atoms_spec (ws := cws y b n ret) B.pre
  have hl := lv_entry Av (n := n) hn
  rw [lg_entry_eq]
  exact body p e s m _ below meth c _ ⟨B.exec, B.bytes, hml, findClass_of_methodNamed B.named, fun w hw => hts w (List.mem_cons_of_mem _ hw)⟩ B.returns B.notSynchronized (name_of_methodNamed B.named B.method).1 hsz ⟨hP, hD.self, hK, va_S.rf, fun q h => Or.inr (by rw [← hsz]; exact h), hN⟩ hl
/-- an answer that is a reference, told by a mathematical value -/
def QcR {S α : Type} (f : α → Value) (post : α → S → Prop) (B : S → State → Prop) (A : Nat → Prop) : Array Value → State → Outcome → State → Prop := fun _ st oc t => (∃ (r : α) (u : S), oc = .returned (some (f r)) ∧ post r u ∧ B u t) ∧ va_F A st t
theorem w_aret {α : Type} {f : α → Value} (C : CallFix p m c cc nL s args lwg own) {sz : Nat} (hs : s.heap.size = sz) {rt : FieldType} (hr : meth.sig.returnType = some rt) (hrt : (∃ n, rt = .object n) ∨ ∃ t, rt = .array t) (hk : meth.locks = false) (hW : WI D ww ty (va_A (ww σ) sz) s σ' H locs) {post : α → S → Prop} {r : α} (hd : decode cc pc = .ok (.areturn, 1)) (hv : f r = .null ∨ ∃ a, f r = .ref a) (hq : post r σ') :
    W p l e R s m args below meth c H locs cells slots (MQ below (QcR f post (WB D ww ty σ sz) (va_A (ww σ) sz)) args s cells slots (va_A (ww σ) sz)) (F0 m pc ls [f r]) := by
  obtain ⟨hP, hD, hK, hS, -⟩ := hW
  exact W.aret (v := f r) C.1 C.2.1 hr hrt hv (fun t ht hW => ⟨⟨r, σ', rfl, hq, by rw [ht]; exact hP, va_K.moved hW.alike hK, hD⟩, hS.F ht⟩) hS.2.2 hd
theorem w_callg {α : Type} {f : α → Value} (hW : WI D ww ty A s σ H locs) {mc ms : Nat} {st : List Value} {post : α → S → Prop} {a : Array Value} (hr : va_Run p l e R s m args below meth c H locs cells slots mc ms (F0 m pc ls st) rest (QcR f post (WB D ww ty σ H.size) (va_A (ww σ) H.size) a) (va_A (ww σ) H.size))
    (kk : ∀ (r : α) (σ' : S) (H' : Heap) (locs' : List Loc), post r σ' → WI D ww ty A s σ' H' locs' → W p l e R s m args below meth c H' locs' (cells + mc) (slots + ms) Q (F0 m (pc + 3) ls (f r :: rest))) : W p l e R s m args below meth c H locs cells slots Q (F0 m pc ls st) := by
  intro T hT X
  obtain ⟨v, st₀, t, T', L, h0, X', hL, e1, e2, ⟨⟨r, u, hv, hp, hb⟩, hz, hk⟩, st⟩ := hr T hT X
  cases hv
  rw [h0] at hz hk
  have hS := hW.2.2.2.1
  have hA := w_sub hW
  have hS' : va_S A s.heap T'.heap (locs ++ L) := ⟨Nat.le_trans hS.1 (by rw [e1]; exact hz), fun q h1 h2 => by rw [e1, hk q (Nat.lt_of_lt_of_le h1 hS.1) (fun z => h2 (hA q z))]; exact hS.2.1 q h1 h2, fun q hq => by
      rcases List.mem_append.mp hq with h | h
      · exact hS.2.2 q h
      · exact hA _ (hL q h)⟩
  obtain ⟨t2, a1, b1⟩ := kk r u T'.heap (locs ++ L) hp (w_back hW e1.symm (by rw [← e2]; exact X'.warmed.alike) hb hS') T' rfl X'
  exact ⟨t2, st t2 a1, b1⟩
theorem w_runSN (C : CallFix p m c cc nL s args lwg own) (hW : WI D ww ty A s σ H locs) {y : MethodName} {b : ByteArray} {n idx np : Nat} {ret : Option FieldType} {rm : Room} {As : List Value} {mc ms : Nat} {Qc : Array Value → State → Outcome → State → Prop} {host : String}
    (hM : Met l y (cws y b n ret) rm (va_Pc As (WP D ww ty σ H.size)) Qc mc ms (va_A (ww σ) H.size)) (h1 : Cond.code y b n ret ∈ lwg) (h2 : Cond.initialized y.cls ∈ lwg) (h3 : va_Nw (.methodLinkNest own idx y host) s) (hi : Cond.static y ∈ lwg)
    (hd : y.cls ≠ "java/lang/invoke/MethodHandle" ∧ y.cls ≠ "java/lang/invoke/VarHandle" ∧ (parseMethodDescriptor y.desc).map (fun d => d.parameters.length) = some np) (hrm : rm.cells = mc ∧ rm.slots = ms) (hR : rm.frames + 1 ≤ R.frames ∧ 8 + (n + 11) + rm.locals ≤ R.locals)
    (hn : As.length = np) (hls : ls.size = nL) {st : List Value} (hst : st = As.reverse ++ rest) (hro : (rest.map fun v => v.category).sum ≤ 8) (hdg : decode cc pc = .ok (.invokestatic idx, 3)) (hf : cells + mc ≤ R.cells ∧ slots + ms ≤ R.slots) :
    va_Run p l e R s m args below meth c H locs cells slots mc ms (F0 m pc ls st) rest (Qc As.toArray) (va_A (ww σ) H.size) := by
  obtain ⟨hx, hb, hml, hown, hts⟩ := C
  exact va_runSN (host := host) ⟨hx, hb, hml, hown, hts⟩ hM ⟨va_cnB np hts (cws_good h1) rfl hrm.1 hrm.2 h3 (hts _ h2) hd hR, hts _ hi, trivial⟩ ⟨w_blind, fun U hU hV => w_pre hW U hU hV⟩ rfl hn hls hst (lv_room hro) hdg hf
theorem goodU {own Cn owner : String} {idx : Nat} {x y : MethodName} {b : ByteArray} {n : Nat} {ret : Option FieldType} (h0 : Cond.methodLink own idx x ∈ lwg) (h1 : Cond.sameMethod x.cls owner x.name x.desc ∈ lwg) (h2 : Cond.selects Cn x y ∈ lwg) (h3 : Cond.instanceMethod y ∈ lwg) (h4 : Cond.initialized y.cls ∈ lwg) (h5 : Cond.code y b n ret ∈ lwg) : GoodIn lwg (va_wsU own idx Cn owner x y (cws y b n ret)) := fun w hw => by
  have hm : w ∈ lwg := by
    rcases List.mem_append.mp hw with q | q
    · simp only [List.mem_cons, List.not_mem_nil, or_false] at q
      rcases q with rfl | rfl | rfl | rfl | rfl <;> assumption
    · exact (cws_good h5 w q).1
  exact ⟨hm, good_of_word (List.all_eq_true.mp lwG w hm)⟩
theorem goodO {own Cn owner : String} {idx : Nat} {x y : MethodName} {b : ByteArray} {n : Nat} {ret : Option FieldType} (h0 : Cond.methodLink own idx x ∈ lwg) (h1 : Cond.sameMethod x.cls owner x.name x.desc ∈ lwg) (h1b : Cond.instanceMethod ⟨owner, x.name, x.desc⟩ ∈ lwg) (h2 : Cond.selects Cn x y ∈ lwg) (h3 : Cond.instanceMethod y ∈ lwg) (h4 : Cond.initialized y.cls ∈ lwg) (h5 : Cond.code y b n ret ∈ lwg) : GoodIn lwg (va_wsO own idx Cn owner x y (cws y b n ret)) := fun w hw => by
  have hm : w ∈ lwg := by
    rcases List.mem_append.mp hw with q | q
    · simp only [List.mem_cons, List.not_mem_nil, or_false] at q
      rcases q with rfl | rfl | rfl | rfl | rfl | rfl <;> assumption
    · exact (cws_good h5 w q).1
  exact ⟨hm, good_of_word (List.all_eq_true.mp lwG w hm)⟩
theorem w_runU (C : CallFix p m c cc nL s args lwg own) (hW : WI D ww ty A s σ H locs) {x y : MethodName} {b : ByteArray} {n idx np q0 ci a : Nat} {ret : Option FieldType} {rm : Room} {As : List Value} {mc ms : Nat} {Qc : Array Value → State → Outcome → State → Prop} {fs : List Value} {vc : vw_C} {owner Cn : String}
    (hM : Met l y (cws y b n ret) rm (va_Pc (.ref a :: As) (WP D ww ty σ H.size)) Qc mc ms (va_A (ww σ) H.size)) (hcu : va_CU R s args own Cn owner idx x y b n ret (cws y b n ret) rm mc ms np)
    (hcl : vwCl[ci]? = some vc) (hvc : vc.1 = Cn) (he : (ww σ)[q0]? = some (a, .inr (ci, fs))) (hn : As.length = np) (hls : ls.size = nL) {st : List Value} (hst : st = As.reverse ++ .ref a :: rest) (hro : (rest.map fun v => v.category).sum ≤ 8) (hdg : decode cc pc = .ok (.invokevirtual idx, 3)) (hf : cells + mc ≤ R.cells ∧ slots + ms ≤ R.slots) :
    va_Run p l e R s m args below meth c H locs cells slots mc ms (F0 m pc ls st) rest (Qc (Value.ref a :: As).toArray) (va_A (ww σ) H.size) := by
  refine va_runU (C := Cn) (owner := owner) C hM hcu ⟨w_blind, ?_, fun U hU hV => w_pre hW U hU hV⟩ rfl hn hls hst (lv_room hro) hdg hf
  rw [← hvc]
  exact va_recv hW.2.2.1 hW.1 hcl he
theorem w_aldq (C : CallFix p m c cc nL s args lwg own) (hW : WI D ww ty A s σ H locs) {q0 t0 a n : Nat} {cA : ClassId} {E : String} {f : Nat → Option Nat} {i : Int32} (he : (ww σ)[q0]? = some (a, .inl (cA, n, .inr (.inr (.inr (.inr f)))))) (ht : ty[t0]? = some (cA, .object E)) (hin : vp_in i n) (hd : decode cc pc = .ok (.aaload, 1))
    (kk : W p l e R s m args below meth c H locs cells slots Q (F0 m (pc + 1) ls (va_rf (f i.toNatClampNeg) :: rest))) : W p l e R s m args below meth c H locs cells slots Q (F0 m pc ls (.int i :: .ref a :: rest)) :=
  va_aldq C.1 C.2.1 hW.2.2.1 hW.1 q0 t0 he ht hin hd kk
theorem w_alda (C : CallFix p m c cc nL s args lwg own) (hW : WI D ww ty A s σ H locs) {q0 t0 a n : Nat} {cA : ClassId} {ey : FieldType} {f : Nat → Option Nat} {i : Int32} (he : (ww σ)[q0]? = some (a, .inl (cA, n, .inr (.inr (.inr (.inr f)))))) (ht : ty[t0]? = some (cA, .array ey)) (hin : vp_in i n) (hd : decode cc pc = .ok (.aaload, 1))
    (kk : W p l e R s m args below meth c H locs cells slots Q (F0 m (pc + 1) ls (va_rf (f i.toNatClampNeg) :: rest))) : W p l e R s m args below meth c H locs cells slots Q (F0 m pc ls (.int i :: .ref a :: rest)) := by
  have hlt : i.toNatClampNeg < n := Nat.not_le.mp fun q => hin (Or.inr q)
  exact W.aald (v := va_rf (f i.toNatClampNeg)) (ty := .array ey) C.1 C.2.1 (hW.1 q0 _ he) ((hW.2.2.1.2 t0 _ ht).1 n (fun j => va_rf (f j))) rfl (fun q => by cases q) (by show ¬ (i < 0 ∨ (arrV _ _ _).slots.size ≤ _); rw [arrV_size]; exact hin) (by show (arrV _ _ _).slots[_]? = _; rw [arrV_read _ _ hlt]) rfl rfl hd kk
theorem w_cpy (C : CallFix p m c cc nL s args lwg own) (hW : WI D ww ty A s σ H locs) {index : Nat} (hlink : Cond.methodLink own index arraycopyName ∈ lwg) (hnat : Cond.native arraycopyName ∈ lwg) (hstat : Cond.static arraycopyName ∈ lwg) (hini : Cond.initialized "java/lang/System" ∈ lwg)
    {q0 q1 t0 a0 a1 n0 n1 : Nat} {cA : ClassId} {f h : Nat → Int32} {N : Nat} {n : Int32} (he0 : (ww σ)[q0]? = some (a0, .inl (cA, n0, .inl f))) (he1 : (ww σ)[q1]? = some (a1, .inl (cA, n1, .inl h))) (ht : ty[t0]? = some (cA, .int)) (hn : ¬ n < 0) (hN : n.toNatClampNeg = N) (h0 : N ≤ n0) (h1 : N ≤ n1)
    (hset : (ww σ).set q1 (a1, .inl (cA, n1, .inl (va_cpy f h 0 0 N))) = ww σ') (hls : ls.size = nL) (hframes : 1 ≤ R.frames) (hlocals : (rest.map fun v => v.category).sum + (nativeFrameWords "java/lang/System" "arraycopy" 5 + 11) ≤ R.locals) (hd : decode cc pc = .ok (.invokestatic index, 3))
    (kk : ∀ (σ1 : S) (H' : Heap) (locs' : List Loc), σ1 = σ' → WI D ww ty A s σ1 H' locs' → W p l e R s m args below meth c H' locs' cells slots Q (F0 m (pc + 3) ls rest)) : W p l e R s m args below meth c H locs cells slots Q (F0 m pc ls (.int n :: .int 0 :: .ref a1 :: .int 0 :: .ref a0 :: rest)) := by
  obtain ⟨hx, hb, hml, hown, hts⟩ := C
  subst hN
  refine va_copyi hx hb (hml.trans hls.symm) hown (hts _ hlink) (hts _ hnat) (hts _ hstat) (hts _ hini) hW.2.2.1 hW.1 hW.2.1 hW.2.2.2.1 q0 q1 t0 t0 he0 he1 ht ht rfl (by decide) (by decide) hn (by rw [show (0 : Int32).toNatClampNeg = 0 by decide]; omega) (by rw [show (0 : Int32).toNatClampNeg = 0 by decide]; omega) (fun _ _ => rfl) hframes hlocals hd (fun H1 locs1 hP hD hS => ?_)
  rw [show (0 : Int32).toNatClampNeg = 0 by decide, hset] at hP hD
  exact kk σ' H1 locs1 rfl ⟨hP, hD, hW.2.2.1, hS, hW.2.2.2.2⟩
theorem w_mmin (C : CallFix p m c cc nL s args lwg own) {index : Nat} (hlink : Cond.methodLink own index Lib.Math.min.name ∈ lwg) (hstat : Cond.static Lib.Math.min.name ∈ lwg) (hini : Cond.initialized "java/lang/Math" ∈ lwg) (hcode : Cond.code Lib.Math.min.name Lib.Math.min.code 2 (some .int) ∈ lwg) (hls : ls.size = nL) (hframes : 1 ≤ R.frames) (hlocals : (rest.map fun v => v.category).sum + 13 ≤ R.locals) {x y : Int32} (hd : decode cc pc = .ok (.invokestatic index, 3))
    (kk : W p l e R s m args below meth c H locs 0 0 Q (F0 m (pc + 3) ls (.int (if y < x then y else x) :: rest))) : W p l e R s m args below meth c H locs 0 0 Q (F0 m pc ls (.int y :: .int x :: rest)) := by
  obtain ⟨hx, hb, hml, hown, hts⟩ := C
  exact va_mmin hx hb (hml.trans hls.symm) hown (hts _ hlink) (hts _ hstat) (hts _ hini) (hts _ hcode) hframes hlocals (Nat.zero_le _) (Nat.zero_le _) hd kk
theorem w_mmax (C : CallFix p m c cc nL s args lwg own) {index : Nat} (hlink : Cond.methodLink own index Lib.Math.max.name ∈ lwg) (hstat : Cond.static Lib.Math.max.name ∈ lwg) (hini : Cond.initialized "java/lang/Math" ∈ lwg) (hcode : Cond.code Lib.Math.max.name Lib.Math.max.code 2 (some .int) ∈ lwg) (hls : ls.size = nL) (hframes : 1 ≤ R.frames) (hlocals : (rest.map fun v => v.category).sum + 13 ≤ R.locals) {x y : Int32} (hd : decode cc pc = .ok (.invokestatic index, 3))
    (kk : W p l e R s m args below meth c H locs 0 0 Q (F0 m (pc + 3) ls (.int (if x < y then y else x) :: rest))) : W p l e R s m args below meth c H locs 0 0 Q (F0 m pc ls (.int y :: .int x :: rest)) := by
  obtain ⟨hx, hb, hml, hown, hts⟩ := C
  exact va_mmax hx hb (hml.trans hls.symm) hown (hts _ hlink) (hts _ hstat) (hts _ hini) (hts _ hcode) hframes hlocals (Nat.zero_le _) (Nat.zero_le _) hd kk
end BASE2
