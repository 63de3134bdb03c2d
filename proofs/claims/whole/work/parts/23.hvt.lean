/-! worlds in another order; a world with one more hermit, one more vow -/
theorem vaD_iff {A : Nat → Prop} {ws : va_W} : va_D A ws ↔ ws.Pairwise (fun p q => p.1 ≠ q.1) ∧ ∀ q ∈ ws, A q.1 := by
  constructor
  · rintro ⟨h1, h2⟩
    refine ⟨List.pairwise_iff_getElem.mpr (fun i j hi hj hij e => ?_), fun q hq => ?_⟩
    · have := h1 i j _ _ (List.getElem?_eq_getElem hi) (List.getElem?_eq_getElem hj) e
      omega
    · obtain ⟨i, hi⟩ := List.getElem?_of_mem hq
      exact h2 i q hi
  · rintro ⟨h1, h2⟩
    refine ⟨fun i j p q hp hq e => ?_, fun k q hq => h2 q (List.mem_of_getElem? hq)⟩
    obtain ⟨hi, ei⟩ := List.getElem?_eq_some_iff.mp hp
    obtain ⟨hj, ej⟩ := List.getElem?_eq_some_iff.mp hq
    have h := List.pairwise_iff_getElem.mp h1
    rcases Nat.lt_trichotomy i j with k | k | k
    · exact absurd (by rw [ei, ej]; exact e) (h i j hi hj k)
    · exact k
    · exact absurd (by rw [ei, ej]; exact e.symm) (h j i hj hi k)
theorem wi_perm {D : va_G} {ty : List (ClassId × FieldType)} {A : Nat → Prop} {s : State} {ws ws' : va_W} {H : Heap} {locs : List Loc} (hW : WI D idw ty A s ws H locs) (h : ws.Perm ws') : WI D idw ty A s ws' H locs := by
  obtain ⟨hP, hD, hK, hS, hA, hN⟩ := hW
  obtain ⟨h1, h2⟩ := vaD_iff.mp hD
  refine ⟨fun k q hq => ?_, vaD_iff.mpr ⟨?_, fun q hq => h2 q (h.mem_iff.mpr hq)⟩, hK, hS, hA, hN⟩
  · obtain ⟨i, hi⟩ := List.getElem?_of_mem (h.mem_iff.mpr (List.mem_of_getElem? hq))
    exact hP i q hi
  · exact (List.Perm.pairwise_iff (fun e => Ne.symm e) h).mp h1
theorem pm_0 {α : Type} (x h q : α) (r v : List α) : (x :: h :: (r ++ v) ++ [q]).Perm ((x :: (r ++ v)) ++ [q, h]) := by
  classical
  rw [List.perm_iff_count]
  intro a
  simp only [List.count_append, List.count_cons, List.count_nil]
  omega
theorem pm_1 {α : Type} (x h q e : α) (r m v : List α) : (x :: h :: (r ++ ((e :: m) ++ v)) ++ [q]).Perm ((x :: (r ++ (m ++ v))) ++ [q, h, e]) := by
  classical
  rw [List.perm_iff_count]
  intro a
  simp only [List.count_append, List.count_cons, List.count_nil]
  omega
theorem pm_2 {α : Type} (x h q e : α) (r m v : List α) : ((x :: (r ++ (m ++ v))) ++ [q, h, e]).Perm (x :: h :: (r ++ ((e :: (m ++ [q])) ++ v))) := by
  classical
  rw [List.perm_iff_count]
  intro a
  simp only [List.count_append, List.count_cons, List.count_nil]
  omega
abbrev xX0 (g : XG) (σ : XS) : Nat × va_E := (g.2.1 0, .inr (11, xFs g σ))
def xrestH (g : XG) (σ : XS) : va_W := (xfix g σ).tail.tail
def xpreV (g : XG) (σ : XS) : va_W := (g.2.1 1, .inr (0, hlFs g)) :: (xfix g σ).tail.tail.tail
theorem xw_H0 (g : XG) (σ : XS) : xw g σ = xX0 g σ :: (g.2.1 1, .inr (0, hlFs g)) :: (xrestH g σ ++ (xhw g ++ xvw g)) := rfl
theorem addH_len {g : XG} {x : HRec} (h : nH g < 10) : (hs g ++ [x]).length ≤ 10 := by rw [List.length_append]; exact h
theorem addV_len {g : XG} {x : VRec} (h : nV g < 10) : (vs g ++ [x]).length ≤ 10 := by rw [List.length_append]; exact h
def addH (g : XG) (ed : Nat) (x : HRec) (h : nH g < 10) : XG := (g.1, g.2.1, g.2.2.1, g.2.2.2.1, g.2.2.2.2.1, (g.2.2.2.2.2.1.1 + 1, (if nH g = 0 then ed else g.2.2.2.2.2.1.2.1), ⟨hs g ++ [x], addH_len h⟩), g.2.2.2.2.2.2)
def addV (g : XG) (ed : Nat) (x : VRec) (h : nV g < 10) : XG := (g.1, g.2.1, g.2.2.1, g.2.2.2.1, g.2.2.2.2.1, g.2.2.2.2.2.1, (g.2.2.2.2.2.2.1 + 1, (if nV g = 0 then ed else g.2.2.2.2.2.2.2.1), ⟨vs g ++ [x], addV_len h⟩))
theorem xw_addH (g : XG) (σ : XS) (ed : Nat) (x : HRec) (h : nH g < 10) : xw (addH g ed x h) σ = xX0 g σ :: (g.2.1 1, .inr (0, [.int (g.2.2.2.2.2.1.1 + 1), .ref (if nH g = 0 then ed else g.2.2.2.2.2.1.2.1), .int (nI (nH g + 1))])) :: (xrestH g σ ++ (((((if nH g = 0 then ed else g.2.2.2.2.2.1.2.1), .inl (g.2.2.2.2.1, 10, .inr (.inr (.inr (.inr (fun i => ((hs g ++ [x])[i]?).map (fun h => h.1))))))) : Nat × va_E) :: ((hs g).map hCell ++ [hCell x])) ++ xvw g)) := by
  have hn : nH (addH g ed x h) = nH g + 1 := by show (hs g ++ [x]).length = _; rw [List.length_append]; rfl
  rw [xw_H0]
  have e1 : xhw (addH g ed x h) = hEl (addH g ed x h) :: ((hs g).map hCell ++ [hCell x]) := by
    unfold xhw
    rw [if_neg (by rw [hn]; omega)]
    show [hEl (addH g ed x h)] ++ (hs g ++ [x]).map hCell = _
    rw [List.map_append]
    rfl
  rw [e1]
  show xX0 g σ :: (g.2.1 1, .inr (0, [.int (g.2.2.2.2.2.1.1 + 1), .ref (if nH g = 0 then ed else g.2.2.2.2.2.1.2.1), .int (nI (nH (addH g ed x h)))])) :: _ = _
  rw [hn]
  rfl
theorem va_up_last {l : List HRec} {x : HRec} {q : Nat} (hx : x.1 = q) : va_up (fun i => (l[i]?).map (fun h => h.1)) l.length (some q) = fun i => ((l ++ [x])[i]?).map (fun h => h.1) := by
  funext i
  unfold va_up
  by_cases hi : i = l.length
  · subst hi
    rw [if_pos rfl, List.getElem?_append_right (Nat.le_refl _), Nat.sub_self, ← hx]
    rfl
  · rw [if_neg hi]
    by_cases h2 : i < l.length
    · rw [List.getElem?_append_left h2]
    · have e1 : l[i]? = none := List.getElem?_eq_none (by omega)
      have e2 : (l ++ [x])[i]? = none := List.getElem?_eq_none (by rw [List.length_append]; show l.length + 1 ≤ i; omega)
      show (l[i]?).map _ = _
      rw [e1, e2]
theorem va_up_lastV {l : List VRec} {x : VRec} {q : Nat} (hx : x.1 = q) : va_up (fun i => (l[i]?).map (fun h => h.1)) l.length (some q) = fun i => ((l ++ [x])[i]?).map (fun h => h.1) := by
  funext i
  unfold va_up
  by_cases hi : i = l.length
  · subst hi
    rw [if_pos rfl, List.getElem?_append_right (Nat.le_refl _), Nat.sub_self, ← hx]
    rfl
  · rw [if_neg hi]
    by_cases h2 : i < l.length
    · rw [List.getElem?_append_left h2]
    · have e1 : l[i]? = none := List.getElem?_eq_none (by omega)
      have e2 : (l ++ [x])[i]? = none := List.getElem?_eq_none (by rw [List.length_append]; show l.length + 1 ≤ i; omega)
      show (l[i]?).map _ = _
      rw [e1, e2]
theorem va_up_0 : (fun (_ : Nat) => (none : Option Nat)) = fun i => (([] : List HRec)[i]?).map (fun h => h.1) := by
  funext i
  rfl
theorem va_up_0V : (fun (_ : Nat) => (none : Option Nat)) = fun i => (([] : List VRec)[i]?).map (fun h => h.1) := by
  funext i
  rfl
