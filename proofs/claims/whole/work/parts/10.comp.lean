/-! the component's world. g: addresses, the hermits and the vows that there are; σ: what changes -/
abbrev HRec : Type := Nat × Fin 5 × Int32 × Int32 × Int32 × Int32
abbrev VRec : Type := Nat × Int32 × Int32 × Int32 × Int32
abbrev XG : Type := va_G × (Nat → Nat) × ClassId × ClassId × ClassId × (Int32 × Nat × { l : List HRec // l.length ≤ 10 }) × (Int32 × Nat × { l : List VRec // l.length ≤ 10 })
abbrev hs (g : XG) : List HRec := g.2.2.2.2.2.1.2.2.1
abbrev vs (g : XG) : List VRec := g.2.2.2.2.2.2.2.2.1
abbrev nH (g : XG) : Nat := (hs g).length
abbrev nV (g : XG) : Nat := (vs g).length
abbrev hR (g : XG) (j : Fin (nH g)) : HRec := (hs g).get j
abbrev vR (g : XG) (v : Fin (nV g)) : VRec := (vs g).get v
abbrev hA (g : XG) (j : Fin (nH g)) : Nat := (hR g j).1
abbrev hK (g : XG) (j : Fin (nH g)) : Fin 5 := (hR g j).2.1
abbrev hF0 (g : XG) (j : Fin (nH g)) : Int32 := (hR g j).2.2.1
abbrev hF1 (g : XG) (j : Fin (nH g)) : Int32 := (hR g j).2.2.2.1
abbrev hF2 (g : XG) (j : Fin (nH g)) : Int32 := (hR g j).2.2.2.2.1
abbrev hF3 (g : XG) (j : Fin (nH g)) : Int32 := (hR g j).2.2.2.2.2
abbrev vA (g : XG) (v : Fin (nV g)) : Nat := (vR g v).1
abbrev vF0 (g : XG) (v : Fin (nV g)) : Int32 := (vR g v).2.1
abbrev vF1 (g : XG) (v : Fin (nV g)) : Int32 := (vR g v).2.2.1
abbrev vF2 (g : XG) (v : Fin (nV g)) : Int32 := (vR g v).2.2.2.1
abbrev vF3 (g : XG) (v : Fin (nV g)) : Int32 := (vR g v).2.2.2.2
/-- the class of a kind, by its place in vwCl -/
def kc (k : Fin 5) : Nat := match k with
  | 0 => 5
  | 1 => 8
  | 2 => 2
  | 3 => 4
  | 4 => 3
abbrev XS : Type := Int32 × (Nat → Int32) × (Nat → Int32) × (Fin 3 → Nat → Int32) × (Fin 3 → Nat → Nat → Int32) × Fin 3 × (Nat → Int32) × (Nat → Nat → Int32) × (Fin 11 → Nat → Int32)
abbrev xK (σ : XS) : Int32 := σ.1
abbrev xP (σ : XS) : Nat → Int32 := σ.2.1
abbrev xS (σ : XS) : Nat → Int32 := σ.2.2.1
abbrev xTI (σ : XS) : Fin 3 → Nat → Int32 := σ.2.2.2.1
abbrev xTB (σ : XS) : Fin 3 → Nat → Nat → Int32 := σ.2.2.2.2.1
abbrev xC (σ : XS) : Fin 3 := σ.2.2.2.2.2.1
abbrev xSI (σ : XS) : Nat → Int32 := σ.2.2.2.2.2.2.1
abbrev xSA (σ : XS) : Nat → Nat → Int32 := σ.2.2.2.2.2.2.2.1
abbrev xR (σ : XS) : Fin 11 → Nat → Int32 := σ.2.2.2.2.2.2.2.2
def fup {n : Nat} {α : Type} (f : Fin n → α) (t : Fin n) (v : α) : Fin n → α := fun u => if u = t then v else f u
def xsK (σ : XS) (v : Int32) : XS := (v, xP σ, xS σ, xTI σ, xTB σ, xC σ, xSI σ, xSA σ, xR σ)
def xsP (σ : XS) (k : Nat) (v : Int32) : XS := (xK σ, upd (xP σ) k v, xS σ, xTI σ, xTB σ, xC σ, xSI σ, xSA σ, xR σ)
def xsS (σ : XS) (i v : Int32) : XS := (xK σ, xP σ, upd (xS σ) i.toNatClampNeg v, xTI σ, xTB σ, xC σ, xSI σ, xSA σ, xR σ)
def xsTI (σ : XS) (t : Fin 3) (k : Nat) (v : Int32) : XS := (xK σ, xP σ, xS σ, fup (xTI σ) t (upd (xTI σ t) k v), xTB σ, xC σ, xSI σ, xSA σ, xR σ)
def xpTB (σ : XS) (t : Fin 3) (k : Nat) (f : Nat → Int32) : XS := (xK σ, xP σ, xS σ, xTI σ, fup (xTB σ) t (va_up (xTB σ t) k f), xC σ, xSI σ, xSA σ, xR σ)
def xsTB (σ : XS) (t : Fin 3) (k : Nat) (i v : Int32) : XS := xpTB σ t k (upd (xTB σ t k) i.toNatClampNeg v)
def xsC (σ : XS) (t : Fin 3) : XS := (xK σ, xP σ, xS σ, xTI σ, xTB σ, t, xSI σ, xSA σ, xR σ)
def xsSI (σ : XS) (k : Nat) (v : Int32) : XS := (xK σ, xP σ, xS σ, xTI σ, xTB σ, xC σ, upd (xSI σ) k v, xSA σ, xR σ)
def xpSA (σ : XS) (k : Nat) (f : Nat → Int32) : XS := (xK σ, xP σ, xS σ, xTI σ, xTB σ, xC σ, xSI σ, va_up (xSA σ) k f, xR σ)
def xsSA (σ : XS) (k : Nat) (i v : Int32) : XS := xpSA σ k (upd (xSA σ k) i.toNatClampNeg v)
def xpR (σ : XS) (c : Fin 11) (f : Nat → Int32) : XS := (xK σ, xP σ, xS σ, xTI σ, xTB σ, xC σ, xSI σ, xSA σ, fup (xR σ) c f)
def xsR (σ : XS) (c : Fin 11) (i v : Int32) : XS := xpR σ c (upd (xR σ c) i.toNatClampNeg v)
abbrev tA (g : XG) (t : Fin 3) : Nat := g.2.1 (5 + 4 * t.val)
abbrev tB (g : XG) (t : Fin 3) (k : Nat) : Nat := g.2.1 (5 + 4 * t.val + 1 + k)
def rC (c : Fin 11) : Nat := if c.val = 0 then 19 else 24 + c.val
abbrev rA (g : XG) (c : Fin 11) : Nat := g.2.1 (rC c)
abbrev tFs (g : XG) (σ : XS) (t : Fin 3) : List Value := [.ref (g.2.1 1), .ref (tB g t 0), .ref (tB g t 1), .ref (tB g t 2), .int (xTI σ t 4), .int (xTI σ t 5)]
abbrev xFs (g : XG) (σ : XS) : List Value := [.ref (g.2.1 1), .ref (g.2.1 2), .ref (g.2.1 3), .ref (tA g 0), .ref (tA g 1), .int (xK σ), .ref (g.2.1 17), .ref (g.2.1 23)]
abbrev pFs (g : XG) (σ : XS) : List Value := [.ref (g.2.1 4), .int (xP σ 1), .int (xP σ 2), .int (xP σ 3), .int (xP σ 4), .int (xP σ 5), .int (xP σ 6), .int (xP σ 7)]
abbrev sFs (g : XG) (σ : XS) : List Value := [.ref (tA g (xC σ)), .ref (g.2.1 18), .int (xSI σ 2), .int (xSI σ 3), .int (xSI σ 4), .int (xSI σ 5), .int (xSI σ 6), .int (xSI σ 7), .ref (rA g 0), .ref (g.2.1 20), .ref (g.2.1 21), .int (xSI σ 11), .int (xSI σ 12), .ref (g.2.1 22)]
abbrev cFs (g : XG) : List Value := [.ref (g.2.1 17), .ref (tA g 2), .ref (g.2.1 24)]
abbrev hlFs (g : XG) : List Value := [.int g.2.2.2.2.2.1.1, .ref g.2.2.2.2.2.1.2.1, .int (nI (nH g))]
abbrev vlFs (g : XG) : List Value := [.int g.2.2.2.2.2.2.1, .ref g.2.2.2.2.2.2.2.1, .int (nI (nV g))]
abbrev hCell (h : HRec) : Nat × va_E := (h.1, .inr (kc h.2.1, [.int h.2.2.1, .int h.2.2.2.1, .int h.2.2.2.2.1, .int h.2.2.2.2.2]))
abbrev vCell (v : VRec) : Nat × va_E := (v.1, .inr (10, [.int v.2.1, .int v.2.2.1, .int v.2.2.2.1, .int v.2.2.2.2]))
abbrev hEl (g : XG) : Nat × va_E := (g.2.2.2.2.2.1.2.1, .inl (g.2.2.2.2.1, 10, .inr (.inr (.inr (.inr (fun i => ((hs g)[i]?).map (fun h => h.1)))))))
abbrev vEl (g : XG) : Nat × va_E := (g.2.2.2.2.2.2.2.1, .inl (g.2.2.2.2.1, 10, .inr (.inr (.inr (.inr (fun i => ((vs g)[i]?).map (fun h => h.1)))))))
abbrev xfix (g : XG) (σ : XS) : va_W := [(g.2.1 0, .inr (11, xFs g σ)),
  (g.2.1 1, .inr (0, hlFs g)),
  (g.2.1 2, .inr (0, vlFs g)),
  (g.2.1 3, .inr (6, pFs g σ)),
  (g.2.1 4, .inl (g.2.2.1, 16, .inl (xS σ))),
  (tA g 0, .inr (9, tFs g σ 0)),
  (tB g 0 0, .inl (g.2.2.1, 10, .inl (xTB σ 0 0))),
  (tB g 0 1, .inl (g.2.2.1, 10, .inl (xTB σ 0 1))),
  (tB g 0 2, .inl (g.2.2.1, 5, .inl (xTB σ 0 2))),
  (tA g 1, .inr (9, tFs g σ 1)),
  (tB g 1 0, .inl (g.2.2.1, 10, .inl (xTB σ 1 0))),
  (tB g 1 1, .inl (g.2.2.1, 10, .inl (xTB σ 1 1))),
  (tB g 1 2, .inl (g.2.2.1, 5, .inl (xTB σ 1 2))),
  (tA g 2, .inr (9, tFs g σ 2)),
  (tB g 2 0, .inl (g.2.2.1, 10, .inl (xTB σ 2 0))),
  (tB g 2 1, .inl (g.2.2.1, 10, .inl (xTB σ 2 1))),
  (tB g 2 2, .inl (g.2.2.1, 5, .inl (xTB σ 2 2))),
  (g.2.1 17, .inr (7, sFs g σ)),
  (g.2.1 18, .inl (g.2.2.1, 5, .inl (xSA σ 1))),
  (rA g 0, .inl (g.2.2.1, 10, .inl (xR σ 0))),
  (g.2.1 20, .inl (g.2.2.1, 10, .inl (xSA σ 9))),
  (g.2.1 21, .inl (g.2.2.1, 10, .inl (xSA σ 10))),
  (g.2.1 22, .inl (g.2.2.1, 5, .inl (xSA σ 13))),
  (g.2.1 23, .inr (1, cFs g)),
  (g.2.1 24, .inl (g.2.2.2.1, 10, .inr (.inr (.inr (.inr (fun i => if i < 10 then some (g.2.1 (25 + i)) else none)))))),
  (rA g 1, .inl (g.2.2.1, 10, .inl (xR σ 1))),
  (rA g 2, .inl (g.2.2.1, 10, .inl (xR σ 2))),
  (rA g 3, .inl (g.2.2.1, 10, .inl (xR σ 3))),
  (rA g 4, .inl (g.2.2.1, 10, .inl (xR σ 4))),
  (rA g 5, .inl (g.2.2.1, 10, .inl (xR σ 5))),
  (rA g 6, .inl (g.2.2.1, 10, .inl (xR σ 6))),
  (rA g 7, .inl (g.2.2.1, 10, .inl (xR σ 7))),
  (rA g 8, .inl (g.2.2.1, 10, .inl (xR σ 8))),
  (rA g 9, .inl (g.2.2.1, 10, .inl (xR σ 9))),
  (rA g 10, .inl (g.2.2.1, 10, .inl (xR σ 10)))]
def xhw (g : XG) : va_W := (if nH g = 0 then [] else [hEl g]) ++ (hs g).map hCell
def xvw (g : XG) : va_W := (if nV g = 0 then [] else [vEl g]) ++ (vs g).map vCell
def xw (g : XG) (σ : XS) : va_W := xfix g σ ++ (xhw g ++ xvw g)
def xty (g : XG) : List (ClassId × FieldType) := [(g.2.2.1, .int), (g.2.2.2.1, .array .int), (g.2.2.2.2.1, .object "java/lang/Object")]
theorem xw_T (g : XG) (σ : XS) (t : Fin 3) : (xw g σ)[5 + 4 * t.val]? = some (tA g t, .inr (9, tFs g σ t)) := by
  obtain ⟨t, ht⟩ := t
  rcases (show t = 0 ∨ t = 1 ∨ t = 2 by omega) with rfl | rfl | rfl <;> rfl
theorem xw_B (g : XG) (σ : XS) (t : Fin 3) (k n : Nat) (h : (k = 0 ∧ n = 10) ∨ (k = 1 ∧ n = 10) ∨ (k = 2 ∧ n = 5)) : (xw g σ)[5 + 4 * t.val + 1 + k]? = some (tB g t k, .inl (g.2.2.1, n, .inl (xTB σ t k))) := by
  obtain ⟨t, ht⟩ := t
  rcases h with ⟨rfl, rfl⟩ | ⟨rfl, rfl⟩ | ⟨rfl, rfl⟩ <;> rcases (show t = 0 ∨ t = 1 ∨ t = 2 by omega) with rfl | rfl | rfl <;> rfl
theorem xw_Bs (g : XG) (σ : XS) (t : Fin 3) (k n : Nat) (f : Nat → Int32) (h : (k = 0 ∧ n = 10) ∨ (k = 1 ∧ n = 10) ∨ (k = 2 ∧ n = 5)) : (xw g σ).set (5 + 4 * t.val + 1 + k) (tB g t k, .inl (g.2.2.1, n, .inl f)) = xw g (xpTB σ t k f) := by
  obtain ⟨t, ht⟩ := t
  rcases h with ⟨rfl, rfl⟩ | ⟨rfl, rfl⟩ | ⟨rfl, rfl⟩ <;> rcases (show t = 0 ∨ t = 1 ∨ t = 2 by omega) with rfl | rfl | rfl <;> rfl
theorem fin11 {P : Fin 11 → Prop} (c : Fin 11) (h0 : P 0) (h1 : P 1) (h2 : P 2) (h3 : P 3) (h4 : P 4) (h5 : P 5) (h6 : P 6) (h7 : P 7) (h8 : P 8) (h9 : P 9) (h10 : P 10) : P c := by
  obtain ⟨c, hc⟩ := c
  rcases (show c = 0 ∨ c = 1 ∨ c = 2 ∨ c = 3 ∨ c = 4 ∨ c = 5 ∨ c = 6 ∨ c = 7 ∨ c = 8 ∨ c = 9 ∨ c = 10 by omega) with rfl | rfl | rfl | rfl | rfl | rfl | rfl | rfl | rfl | rfl | rfl <;> assumption
theorem xw_R (g : XG) (σ : XS) (c : Fin 11) : (xw g σ)[rC c]? = some (rA g c, .inl (g.2.2.1, 10, .inl (xR σ c))) := by
  refine fin11 (P := fun c => (xw g σ)[rC c]? = some (rA g c, .inl (g.2.2.1, 10, .inl (xR σ c)))) c ?_ ?_ ?_ ?_ ?_ ?_ ?_ ?_ ?_ ?_ ?_ <;> rfl
theorem xw_Rs (g : XG) (σ : XS) (c : Fin 11) (f : Nat → Int32) : (xw g σ).set (rC c) (rA g c, .inl (g.2.2.1, 10, .inl f)) = xw g (xpR σ c f) := by
  refine fin11 (P := fun c => (xw g σ).set (rC c) (rA g c, .inl (g.2.2.1, 10, .inl f)) = xw g (xpR σ c f)) c ?_ ?_ ?_ ?_ ?_ ?_ ?_ ?_ ?_ ?_ ?_ <;> rfl
theorem xw_H (g : XG) (σ : XS) (j : Fin (nH g)) : (xw g σ)[36 + j.val]? = some (hCell (hR g j)) := by
  have hj := j.isLt
  have h0 : ¬ nH g = 0 := by omega
  unfold xw xhw
  rw [List.getElem?_append_right (by show 35 ≤ 36 + j.val; omega), if_neg h0]
  show (hEl g :: ((hs g).map hCell) ++ xvw g)[36 + j.val - 35]? = _
  rw [show 36 + j.val - 35 = j.val + 1 by omega]
  show ((hs g).map hCell ++ xvw g)[j.val]? = _
  rw [List.getElem?_append_left (by rw [List.length_map]; exact hj), List.getElem?_map, List.getElem?_eq_getElem hj]
  rfl
theorem xw_E (g : XG) (σ : XS) (h : 0 < nH g) : (xw g σ)[35]? = some (hEl g) := by
  unfold xw xhw
  rw [if_neg (by omega)]
  rfl
theorem xw_V (g : XG) (σ : XS) (v : Fin (nV g)) : ∃ q : Nat, (xw g σ)[q]? = some (vCell (vR g v)) := by
  have hv := v.isLt
  have h0 : ¬ nV g = 0 := by omega
  refine ⟨35 + ((xhw g).length + (1 + v.val)), ?_⟩
  unfold xw
  rw [List.getElem?_append_right (by show 35 ≤ _; omega)]
  rw [show 35 + ((xhw g).length + (1 + v.val)) - (xfix g σ).length = (xhw g).length + (1 + v.val) by show 35 + ((xhw g).length + (1 + v.val)) - 35 = _; omega]
  rw [List.getElem?_append_right (by omega), show (xhw g).length + (1 + v.val) - (xhw g).length = v.val + 1 by omega]
  unfold xvw
  rw [if_neg h0]
  show ((vs g).map vCell)[v.val]? = _
  rw [List.getElem?_map, List.getElem?_eq_getElem hv]
  rfl
theorem xw_F (g : XG) (σ : XS) (h : 0 < nV g) : ∃ q : Nat, (xw g σ)[q]? = some (vEl g) := by
  refine ⟨35 + (xhw g).length, ?_⟩
  unfold xw
  rw [List.getElem?_append_right (by show 35 ≤ _; omega)]
  rw [show 35 + (xhw g).length - (xfix g σ).length = (xhw g).length by show 35 + (xhw g).length - 35 = _; omega]
  rw [List.getElem?_append_right (by omega)]
  unfold xvw
  rw [if_neg (by omega), Nat.sub_self]
  rfl
theorem inLg : ∀ w ∈ u_ws RJx4a65c TJx4a65c 3, w ∈ lwg := lwg_all (by decide +kernel)
theorem inCg : ∀ w ∈ u_ws RX0 TX0 3, w ∈ lwg := lwg_all (by decide +kernel)
theorem inK2g : ∀ w ∈ u_ws RX1 TX1 4, w ∈ lwg := lwg_all (by decide +kernel)
theorem inK4g : ∀ w ∈ u_ws RX2 TX2 4, w ∈ lwg := lwg_all (by decide +kernel)
theorem inK3g : ∀ w ∈ u_ws RX3 TX3 4, w ∈ lwg := lwg_all (by decide +kernel)
theorem inK0g : ∀ w ∈ u_ws RX4 TX4 4, w ∈ lwg := lwg_all (by decide +kernel)
theorem inPg : ∀ w ∈ u_ws RX5 TX5 8, w ∈ lwg := lwg_all (by decide +kernel)
theorem inSg : ∀ w ∈ u_ws RX6 TX6 14, w ∈ lwg := lwg_all (by decide +kernel)
theorem inK1g : ∀ w ∈ u_ws RX7 TX7 4, w ∈ lwg := lwg_all (by decide +kernel)
theorem inTg : ∀ w ∈ u_ws RX8 TX8 6, w ∈ lwg := lwg_all (by decide +kernel)
theorem inVg : ∀ w ∈ u_ws RX9 TX9 4, w ∈ lwg := lwg_all (by decide +kernel)
theorem inXg : ∀ w ∈ u_ws RX10 TX10 8, w ∈ lwg := lwg_all (by decide +kernel)
