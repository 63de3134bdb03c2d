/-! tables of the component: exchanged, taken over -/
theorem Tab.fr {n : Nat} {st p ly : Nat → Nat} {he fe : Nat} {σ τ : XS} {u : Fin 3} (h : Tab n st p ly he fe σ u) (e1 : xTB τ u = xTB σ u) (e2 : xTI τ u = xTI σ u) : Tab n st p ly he fe τ u := by
  unfold Tab at *; rw [e1, e2]; exact h
theorem KXi.fr {A : AS} {σ τ : XS} (h : KXi A σ) (eK : xK τ = xK σ) (e1 : xTB τ 1 = xTB σ 1) (e2 : xTI τ 1 = xTI σ 1) : KXi A τ :=
  ⟨fun q => eK.trans (h.1 q), fun q => ⟨eK.trans (h.2 q).1, (h.2 q).2.fr e1 e2⟩⟩
theorem KXp.fr {A : AS} {σ τ : XS} (h : KXp A σ) (e1 : xP τ 1 = xP σ 1) (e2 : xS τ = xS σ) : KXp A τ :=
  ⟨e1.trans h.1, fun i hi => by rw [e2]; exact h.2 i hi⟩
/-- all but table u (and the sitting) stays -/
def FrT (u : Fin 3) (σ τ : XS) : Prop := xK τ = xK σ ∧ xP τ 1 = xP σ 1 ∧ xS τ = xS σ ∧ ∀ v, v ≠ u → xTB τ v = xTB σ v ∧ xTI τ v = xTI σ v
theorem FrT.refl (u : Fin 3) (σ : XS) : FrT u σ σ := ⟨rfl, rfl, rfl, fun _ _ => ⟨rfl, rfl⟩⟩
theorem FrT.trans {u : Fin 3} {a b c : XS} (h : FrT u a b) (k : FrT u b c) : FrT u a c := ⟨k.1.trans h.1, k.2.1.trans h.2.1, k.2.2.1.trans h.2.2.1, fun v hv => ⟨(k.2.2.2 v hv).1.trans (h.2.2.2 v hv).1, (k.2.2.2 v hv).2.trans (h.2.2.2 v hv).2⟩⟩
theorem FrT.ov {u v : Fin 3} {σ : XS} {d : DS} {t l w : Nat} : FrT u σ (xov d t l w (xbeg σ v)) := ⟨rfl, rfl, rfl, fun _ _ => ⟨rfl, rfl⟩⟩
theorem KX.frT {em : Nat} {A : AS} {g : XG} {σ τ : XS} (h : KX em A g σ) (f : FrT 2 σ τ) : KX em A g τ := by
  have f0 := f.2.2.2 0 (by decide)
  have f1 := f.2.2.2 1 (by decide)
  exact ⟨h.1, h.2.1.fr f0.1 f0.2, h.2.2.1.fr f.2.1 f.2.2.1, h.2.2.2.fr f.1 f1.1 f1.2⟩
theorem fup_self {n : Nat} {α : Type} (f : Fin n → α) (t : Fin n) (v : α) : fup f t v t = v := if_pos rfl
theorem fup_ne {n : Nat} {α : Type} (f : Fin n → α) {t u : Fin n} (v : α) (h : u ≠ t) : fup f t v u = f u := if_neg h
theorem xsTB_fr {σ : XS} {u : Fin 3} {k : Nat} {i v : Int32} : FrT u σ (xsTB σ u k i v) := ⟨rfl, rfl, rfl, fun w hw => ⟨fup_ne _ _ hw, rfl⟩⟩
theorem xsTB_at {σ : XS} {u : Fin 3} {k : Nat} {i : Nat} {v : Int32} (hi : i < 2 ^ 31) : xTB (xsTB σ u k (nI i) v) u k = upd (xTB σ u k) i v := by
  show fup (xTB σ) u (va_up (xTB σ u) k (upd (xTB σ u k) (nI i).toNatClampNeg v)) u k = _
  rw [fup_self, va_up_self, nI_clamp hi]
theorem xsTB_ne {σ : XS} {u : Fin 3} {k j : Nat} {i v : Int32} (hj : j ≠ k) : xTB (xsTB σ u k i v) u j = xTB σ u j := by
  show fup (xTB σ) u (va_up (xTB σ u) k (upd (xTB σ u k) i.toNatClampNeg v)) u j = _
  rw [fup_self, va_up_ne _ _ hj]
def pswp (p : Nat → Nat) (i j : Nat) : Nat → Nat := va_up (va_up p i (p j)) j (p i)
def qswp (q p : Nat → Nat) (i j : Nat) : Nat → Nat := va_up (va_up q (p j) i) (p i) j
def swp (A : AS) (i j : Nat) : AS := (A.1, va_up (va_up A.2 8 (pswp (A.2 8) i j)) 7 (qswp (A.2 7) (A.2 8) i j))
theorem pswp_v {p : Nat → Nat} {i j : Nat} (h : Nat) : pswp p i j h = if h = j then p i else if h = i then p j else p h := rfl
theorem qswp_v {q p : Nat → Nat} {i j : Nat} (h : Nat) : qswp q p i j h = if h = p i then j else if h = p j then i else q h := rfl
theorem swp_ok {n : Nat} {p q : Nat → Nat} (hp : ∀ h, h < n → q h < n ∧ p h < n ∧ p (q h) = h ∧ q (p h) = h) {i j : Nat} (hi : i < n) (hj : j < n) (hij : i ≠ j) (h : Nat) (hh : h < n) : qswp q p i j h < n ∧ pswp p i j h < n ∧ pswp p i j (qswp q p i j h) = h ∧ qswp q p i j (pswp p i j h) = h := by
  have a := hp i hi
  have b := hp j hj
  have c := hp h hh
  have pij : p i ≠ p j := fun e => hij (by rw [← a.2.2.2, ← b.2.2.2, e])
  refine ⟨?_, ?_, ?_, ?_⟩
  · rw [qswp_v]; split
    · exact hj
    · split
      · exact hi
      · exact c.1
  · rw [pswp_v]; split
    · exact a.2.1
    · split
      · exact b.2.1
      · exact c.2.1
  · rw [qswp_v]
    by_cases e1 : h = p i
    · rw [if_pos e1, pswp_v, if_pos rfl, e1]
    rw [if_neg e1]
    by_cases e2 : h = p j
    · rw [if_pos e2, pswp_v, if_neg hij, if_pos rfl, e2]
    rw [if_neg e2, pswp_v, if_neg (fun e => e2 (by rw [← e]; exact c.2.2.1.symm)), if_neg (fun e => e1 (by rw [← e]; exact c.2.2.1.symm))]
    exact c.2.2.1
  · rw [pswp_v]
    by_cases e1 : h = j
    · rw [if_pos e1, qswp_v, if_pos rfl, e1]
    rw [if_neg e1]
    by_cases e2 : h = i
    · rw [if_pos e2, qswp_v, if_neg (fun e => pij e.symm), if_pos rfl, e2]
    rw [if_neg e2, qswp_v, if_neg (fun e => e2 (by rw [← c.2.2.2, e]; exact a.2.2.2)), if_neg (fun e => e1 (by rw [← c.2.2.2, e]; exact b.2.2.2))]
    exact c.2.2.2
theorem pq_of {A : AS} (hA : Tok A) : ∀ h, h < A.1 0 → A.2 7 h < A.1 0 ∧ A.2 8 h < A.1 0 ∧ A.2 8 (A.2 7 h) = h ∧ A.2 7 (A.2 8 h) = h := fun h hh => by
  have a := hA.2.2.2.1 h hh
  exact ⟨a.2.2.2.2.2.2.2.1, a.2.2.2.2.2.2.2.2.1, a.2.2.2.2.2.2.2.2.2.1, a.2.2.2.2.2.2.2.2.2.2⟩
theorem swp_Tok {A : AS} (hA : Tok A) {i j : Nat} (hi : i < A.1 0) (hj : j < A.1 0) (hij : i ≠ j) : Tok (swp A i j) := by
  refine ⟨hA.1, hA.2.1, hA.2.2.1, fun h hh => ?_, hA.2.2.2.2⟩
  have a := hA.2.2.2.1 h hh
  have b := swp_ok (pq_of hA) hi hj hij h hh
  exact ⟨a.1, a.2.1, a.2.2.1, a.2.2.2.1, a.2.2.2.2.1, a.2.2.2.2.2.1, a.2.2.2.2.2.2.1, b.1, b.2.1, b.2.2.1, b.2.2.2⟩
theorem swp_WFA {A : AS} (hA : WFA A) {i j : Nat} (hi : i < A.1 0) (hj : j < A.1 0) (hij : i ≠ j) : WFA (swp A i j) :=
  ⟨swp_Tok hA.1 hi hj hij, hA.2⟩
theorem pswp2 {p : Nat → Nat} {i j : Nat} (hij : i ≠ j) : pswp (pswp p i j) i j = p := by
  funext h
  rw [pswp_v, pswp_v, pswp_v, pswp_v]
  by_cases e1 : h = j
  · rw [if_pos e1, if_neg hij, if_pos rfl, e1]
  rw [if_neg e1]
  by_cases e2 : h = i
  · rw [if_pos e2, if_pos rfl, e2]
  rw [if_neg e2, if_neg e1, if_neg e2]
theorem swp_12 {A : AS} {i j k : Nat} (h7 : k ≠ 7) (h8 : k ≠ 8) : (swp A i j).2 k = A.2 k := by
  show va_up (va_up A.2 8 (pswp (A.2 8) i j)) 7 (qswp (A.2 7) (A.2 8) i j) k = _
  rw [va_up_ne _ _ h7, va_up_ne _ _ h8]
theorem swp_7 {A : AS} {i j : Nat} : (swp A i j).2 7 = qswp (A.2 7) (A.2 8) i j := by
  show va_up (va_up A.2 8 (pswp (A.2 8) i j)) 7 (qswp (A.2 7) (A.2 8) i j) 7 = _
  rw [va_up_self]
theorem swp_8 {A : AS} {i j : Nat} : (swp A i j).2 8 = pswp (A.2 8) i j := by
  show va_up (va_up A.2 8 (pswp (A.2 8) i j)) 7 (qswp (A.2 7) (A.2 8) i j) 8 = _
  rw [va_up_ne _ _ (by decide), va_up_self]
theorem swp_1 {A : AS} {i j : Nat} : (swp A i j).1 = A.1 := rfl
theorem KM.swp {A : AS} {μ F : MS} {i j : Nat} (hK : KM A μ) (F1 : F.1 = μ.1) (Fk : ∀ k, k ≠ 7 → k ≠ 8 → F.2.1 k = μ.2.1 k) (n7 : ∀ h, h < A.1 0 → F.2.1 7 h = nI (qswp (A.2 7) (A.2 8) i j h)) (n8 : ∀ h, h < A.1 0 → F.2.1 8 h = nI (pswp (A.2 8) i j h)) : KM (swp A i j) F := by
  unfold KM KMt KMv KMp KMi
  rw [swp_1, swp_7, swp_8, swp_12 (k := 1) (by decide) (by decide), swp_12 (k := 2) (by decide) (by decide), swp_12 (k := 3) (by decide) (by decide), swp_12 (k := 4) (by decide) (by decide), swp_12 (k := 5) (by decide) (by decide), swp_12 (k := 6) (by decide) (by decide), swp_12 (k := 9) (by decide) (by decide), swp_12 (k := 13) (by decide) (by decide), swp_12 (k := 14) (by decide) (by decide), swp_12 (k := 15) (by decide) (by decide), swp_12 (k := 16) (by decide) (by decide), swp_12 (k := 18) (by decide) (by decide), swp_12 (k := 23) (by decide) (by decide), swp_12 (k := 24) (by decide) (by decide), swp_12 (k := 25) (by decide) (by decide)]
  rw [F1, Fk 1 (by decide) (by decide), Fk 2 (by decide) (by decide), Fk 3 (by decide) (by decide), Fk 4 (by decide) (by decide), Fk 5 (by decide) (by decide), Fk 6 (by decide) (by decide), Fk 9 (by decide) (by decide), Fk 13 (by decide) (by decide), Fk 14 (by decide) (by decide), Fk 15 (by decide) (by decide), Fk 16 (by decide) (by decide), Fk 18 (by decide) (by decide), Fk 23 (by decide) (by decide), Fk 24 (by decide) (by decide), Fk 25 (by decide) (by decide)]
  refine ⟨⟨hK.1.1, hK.1.2.1, hK.1.2.2.1, fun h hh => ?_, hK.1.2.2.2.2⟩, hK.2⟩
  have r := hK.1.2.2.2.1 h hh
  exact ⟨r.1, r.2.1, r.2.2.1, r.2.2.2.1, r.2.2.2.2.1, n7 h hh, n8 h hh⟩
theorem m_exchange {A : AS} {μ : MS} {P : MS → Prop} (hA : WFA A) (hK : KM A μ) {i j : Nat} (hi : i < A.1 0) (hj : j < A.1 0) (hij : i ≠ j) (hP : ∀ μ', KM (swp A i j) μ' → P μ') : qX11_exchange μ (nI i) (nI j) P := by
  have h10 := hA.1.1
  have pq := pq_of hA.1
  have a := pq i hi
  have b := pq j hj
  have e8 : ∀ h, h < A.1 0 → μ.2.1 8 h = nI (A.2 8 h) := fun h hh => (hK.1.2.2.2.1 h hh).2.2.2.2.2.2
  have e7 : ∀ h, h < A.1 0 → μ.2.1 7 h = nI (A.2 7 h) := fun h hh => (hK.1.2.2.2.1 h hh).2.2.2.2.2.1
  have ei : mgeta μ 8 (nI i) = nI (A.2 8 i) := by rw [mgN (by omega)]; exact e8 i hi
  have ej : mgeta μ 8 (nI j) = nI (A.2 8 j) := by rw [mgN (by omega)]; exact e8 j hj
  have st8 : ∀ (s : MS) (x v : Nat), x < 2 ^ 31 → (mseta s 8 (nI x) (nI v)).2.1 8 = upd (s.2.1 8) x (nI v) := fun s x v hx => by
    show va_up s.2.1 8 (upd (s.2.1 8) (nI x).toNatClampNeg (nI v)) 8 = _; rw [va_up_self, nI_clamp hx]
  have st7 : ∀ (s : MS) (x v : Nat), x < 2 ^ 31 → (mseta s 7 (nI x) (nI v)).2.1 7 = upd (s.2.1 7) x (nI v) := fun s x v hx => by
    show va_up s.2.1 7 (upd (s.2.1 7) (nI x).toNatClampNeg (nI v)) 7 = _; rw [va_up_self, nI_clamp hx]
  have sto : ∀ (s : MS) (k q : Nat) (x v : Int32), q ≠ k → (mseta s k x v).2.1 q = s.2.1 q := fun s k q x v hq => by
    show va_up s.2.1 k (upd (s.2.1 k) x.toNatClampNeg v) q = _; rw [va_up_ne _ _ hq]
  unfold qX11_exchange
  refine ⟨vp_in_nI (by omega) (by decide), ?_⟩
  rw [bnd_eq]
  refine ⟨vp_in_nI (by omega) (by decide), ?_⟩
  rw [bnd_eq, bnd_eq, ei, ej]
  have s8 : (mseta (mseta μ 8 (nI i) (nI (A.2 8 j))) 8 (nI j) (nI (A.2 8 i))).2.1 8 = upd (upd (μ.2.1 8) i (nI (A.2 8 j))) j (nI (A.2 8 i)) := by
    rw [st8 _ _ _ (by omega), st8 _ _ _ (by omega)]
  have so : ∀ k, k ≠ 8 → (mseta (mseta μ 8 (nI i) (nI (A.2 8 j))) 8 (nI j) (nI (A.2 8 i))).2.1 k = μ.2.1 k := fun k hk => by
    rw [sto _ _ _ _ _ hk, sto _ _ _ _ _ hk]
  have s1 : (mseta (mseta μ 8 (nI i) (nI (A.2 8 j))) 8 (nI j) (nI (A.2 8 i))).1 = μ.1 := rfl
  generalize (mseta (mseta μ 8 (nI i) (nI (A.2 8 j))) 8 (nI j) (nI (A.2 8 i))) = s at s8 so s1 ⊢
  have si : mgeta s 8 (nI i) = nI (A.2 8 j) := by rw [mgN (by omega), s8, pk_un hij, pk_us]
  rw [si]
  refine ⟨vp_in_nI (by omega) (by decide), ?_⟩
  rw [bnd_eq]
  have sj : mgeta (mseta s 7 (nI (A.2 8 j)) (nI i)) 8 (nI j) = nI (A.2 8 i) := by
    rw [mgN (by omega), sto _ _ _ _ _ (by decide), s8, pk_us]
  rw [sj]
  refine ⟨vp_in_nI (by omega) (by decide), ?_⟩
  rw [bnd_eq]
  refine hP _ (hK.swp s1 (fun k h7 h8 => ?_) (fun h hh => ?_) (fun h hh => ?_))
  · rw [sto _ _ _ _ _ h7, sto _ _ _ _ _ h7, so k h8]
  · rw [st7 _ _ _ (by omega), st7 _ _ _ (by omega), so 7 (by decide), qswp_v]
    by_cases e1 : h = A.2 8 i
    · rw [if_pos e1, e1, pk_us]
    rw [if_neg e1, pk_un e1]
    by_cases e2 : h = A.2 8 j
    · rw [if_pos e2, e2, pk_us]
    rw [if_neg e2, pk_un e2]
    exact e7 h hh
  · rw [sto _ _ _ _ _ (by decide), sto _ _ _ _ _ (by decide), s8, pswp_v]
    by_cases e1 : h = j
    · rw [if_pos e1, e1, pk_us]
    rw [if_neg e1, pk_un e1]
    by_cases e2 : h = i
    · rw [if_pos e2, e2, pk_us]
    rw [if_neg e2, pk_un e2]
    exact e8 h hh
theorem x_exchange {g : XG} {σ : XS} {u : Fin 3} {P : XS → Prop} {n : Nat} {st p ly : Nat → Nat} {he fe : Nat} (hT : Tab n st p ly he fe σ u) (hn : n ≤ 10) {i j : Nat} (hi : i < n) (hj : j < n) (hij : i ≠ j) (hP : ∀ τ, FrT u σ τ → Tab n st (pswp p i j) ly he fe τ u → P τ) : qX8_exchange g σ u (nI i) (nI j) P := by
  have ei : xgT σ u 1 (nI i) = nI (p i) := by rw [xgTN (by omega)]; have := hT.2.1 i (by omega); rw [if_pos hi] at this; exact this
  have ej : xgT σ u 1 (nI j) = nI (p j) := by rw [xgTN (by omega)]; have := hT.2.1 j (by omega); rw [if_pos hj] at this; exact this
  unfold qX8_exchange
  refine ⟨vp_in_nI (by omega) (by decide), ?_⟩
  rw [bnd_eq]
  refine ⟨vp_in_nI (by omega) (by decide), ?_⟩
  simp only [bnd_eq]
  rw [ei, ej]
  refine hP _ (xsTB_fr.trans xsTB_fr) ⟨fun h hh => ?_, fun k hk => ?_, fun k hk => ?_, hT.2.2.2.1, hT.2.2.2.2⟩
  · rw [xsTB_ne (by decide), xsTB_ne (by decide)]; exact hT.1 h hh
  · rw [xsTB_at (by omega), xsTB_at (by omega), pswp_v]
    by_cases e1 : k = j
    · rw [e1, pk_us, if_pos hj, if_pos rfl]
    rw [pk_un e1]
    by_cases e2 : k = i
    · rw [e2, pk_us, if_pos hi, if_neg hij, if_pos rfl]
    rw [pk_un e2, if_neg e1, if_neg e2]
    exact hT.2.1 k hk
  · rw [xsTB_ne (by decide), xsTB_ne (by decide)]; exact hT.2.2.1 k hk
/- becomeLike -/
def BL (σ : XS) (x0 x1 : Fin 3) (n k : Nat) (τ : XS) : Prop := FrT x0 σ τ ∧ xR τ = xR σ ∧ xTI τ = xTI σ ∧ (∀ i, i < k → xTB τ x0 0 i = (if i < n then xTB σ x1 0 i else xTB σ x0 0 i) ∧ xTB τ x0 1 i = (if i < n then xTB σ x1 1 i else nI i)) ∧ (∀ i, k ≤ i → xTB τ x0 0 i = xTB σ x0 0 i) ∧ xTB τ x0 2 = xTB σ x0 2
theorem bl_step {σ τ : XS} {x0 x1 : Fin 3} {n k : Nat} (hk : k < 10) (h : BL σ x0 x1 n k τ) {a b : Int32} (ea : a = (if k < n then xTB σ x1 0 k else xTB σ x0 0 k)) (eb : b = (if k < n then xTB σ x1 1 k else nI k)) : BL σ x0 x1 n (k + 1) (xsTB (xsTB τ x0 0 (nI k) a) x0 1 (nI k) b) := by
  obtain ⟨f, hr, hi, h1, h2, h3⟩ := h
  refine ⟨f.trans (xsTB_fr.trans xsTB_fr), hr, hi, fun i hi => ?_, fun i hi => ?_, ?_⟩
  · rw [xsTB_ne (by decide), xsTB_at (by omega), xsTB_at (by omega), xsTB_ne (by decide)]
    by_cases e : i = k
    · rw [e, pk_us, pk_us]; exact ⟨ea, eb⟩
    · rw [pk_un e, pk_un e]; exact h1 i (by omega)
  · rw [xsTB_ne (by decide), xsTB_at (by omega), pk_un (by omega)]; exact h2 i (by omega)
  · rw [xsTB_ne (by decide), xsTB_ne (by decide)]; exact h3
theorem x_like_L {g : XG} {σ : XS} {x0 x1 : Fin 3} (h01 : x1 ≠ x0) {n : Nat} (hn : n ≤ 10) {e61 : XS → Fin 3 → Fin 3 → Prop} {P : XS → Prop} (hP : ∀ τ, BL σ x0 x1 n 10 τ → e61 τ x0 x1) : ∀ (j k : Nat) (τ : XS), k + j = 10 → BL σ x0 x1 n k τ → qX8_becomeLike_L2 g e61 P (j + 1) τ x0 x1 (nI n) (nI k)
  | 0, k, τ, e, h => by
    have e0 : k = 10 := by omega
    subst e0
    rw [qX8_becomeLike_L2, if_pos (by decide)]; exact hP τ h
  | j + 1, k, τ, e, h => by
    have hin : vp_in (nI k) 10 := vp_in_nI (by omega) (by decide)
    have fx := h.1.2.2.2 x1 h01
    rw [qX8_becomeLike_L2, if_neg (nge10 (by omega))]
    unfold qX8_becomeLike_J33 qX8_becomeLike_J54
    simp only [bnd_eq, nI_1]
    by_cases q : k < n
    · rw [if_neg (nI_ge q (by omega))]
      refine ⟨hin, hin, ?_⟩
      rw [if_neg (nI_ge q (by omega))]
      refine ⟨hin, hin, ?_⟩
      refine x_like_L h01 hn hP j (k + 1) _ (by omega) (bl_step (by omega) h ?_ ?_)
      · rw [if_pos q, xgTN (by omega), fx.1]
      · rw [if_pos q, xgTN (by omega), (xsTB_fr (u := x0)).2.2.2 x1 h01 |>.1, fx.1]
    · rw [if_pos (nI_le (by omega) (by omega))]
      refine ⟨hin, hin, ?_⟩
      rw [if_pos (nI_le (by omega) (by omega))]
      refine ⟨hin, ?_⟩
      refine x_like_L h01 hn hP j (k + 1) _ (by omega) (bl_step (by omega) h ?_ ?_)
      · rw [if_neg q, xgTN (by omega), h.2.2.2.2.1 k (Nat.le_refl _)]
      · rw [if_neg q]
theorem x_like {g : XG} {σ : XS} {x0 x1 : Fin 3} (h01 : x1 ≠ x0) {n : Nat} (hn : n ≤ 10) {P : XS → Prop} (hB : isB (xTI σ x1 5)) (hP : ∀ τ, FrT x0 σ τ → xR τ = xR σ → (∀ i, i < 10 → xTB τ x0 0 i = (if i < n then xTB σ x1 0 i else xTB σ x0 0 i) ∧ xTB τ x0 1 i = (if i < n then xTB σ x1 1 i else nI i)) → (∀ i, i < 5 → xTB τ x0 2 i = xTB σ x1 2 i) → xTI τ x0 4 = xTI σ x1 4 → xTI τ x0 5 = xTI σ x1 5 → P τ) : qX8_becomeLike g σ x0 x1 (nI n) P := by
  refine ⟨11, x_like_L h01 hn (fun τ h => ?_) 10 0 σ rfl ⟨FrT.refl _ _, rfl, rfl, fun i hi => absurd hi (by omega), fun i _ => rfl, rfl⟩⟩
  obtain ⟨f, hr, hi, h1, h2, h3⟩ := h
  have fx := f.2.2.2 x1 h01
  simp only [bnd_eq]
  have t4 : ∀ τ' : XS, xTI τ' = xTI σ → xTI (xsTI τ' x0 4 (xTI τ' x1 4)) x1 5 = xTI σ x1 5 := fun τ' e => by
    show fup (xTI τ') x0 _ x1 5 = _
    rw [fup_ne _ _ h01, e]
  have t5 := t4 (xpTB τ x0 2 (va_cpy (xTB τ x1 2) (xTB τ x0 2) 0 0 5)) hi
  refine ⟨by rw [t5]; exact hB, ?_⟩
  rw [t5]
  refine hP _ ?_ hr (fun i hi => ?_) (fun i hi => ?_) ?_ ?_
  · refine ⟨f.1, f.2.1, f.2.2.1, fun v hv => ?_⟩
    have fv := f.2.2.2 v hv
    refine ⟨?_, ?_⟩
    · show fup (xTB τ) x0 _ v = _
      rw [fup_ne _ _ hv]; exact fv.1
    · show fup (fup (xTI τ) x0 _) x0 _ v = _
      rw [fup_ne _ _ hv, fup_ne _ _ hv]; exact fv.2
  · have e0 : xTB (xsTI (xsTI (xpTB τ x0 2 (va_cpy (xTB τ x1 2) (xTB τ x0 2) 0 0 5)) x0 4 (xTI (xpTB τ x0 2 (va_cpy (xTB τ x1 2) (xTB τ x0 2) 0 0 5)) x1 4)) x0 5 (xTI σ x1 5)) x0 0 = xTB τ x0 0 := by
      show fup (xTB τ) x0 (va_up (xTB τ x0) 2 _) x0 0 = _
      rw [fup_self, va_up_ne _ _ (by decide)]
    have e1 : xTB (xsTI (xsTI (xpTB τ x0 2 (va_cpy (xTB τ x1 2) (xTB τ x0 2) 0 0 5)) x0 4 (xTI (xpTB τ x0 2 (va_cpy (xTB τ x1 2) (xTB τ x0 2) 0 0 5)) x1 4)) x0 5 (xTI σ x1 5)) x0 1 = xTB τ x0 1 := by
      show fup (xTB τ) x0 (va_up (xTB τ x0) 2 _) x0 1 = _
      rw [fup_self, va_up_ne _ _ (by decide)]
    rw [e0, e1]; exact h1 i hi
  · show fup (xTB τ) x0 (va_up (xTB τ x0) 2 (va_cpy (xTB τ x1 2) (xTB τ x0 2) 0 0 5)) x0 2 i = _
    rw [fup_self, va_up_self, sb_cpy0 hi, fx.1]
  · show fup (fup (xTI τ) x0 (upd (xTI τ x0) 4 (xTI τ x1 4))) x0 (upd (fup (xTI τ) x0 (upd (xTI τ x0) 4 (xTI τ x1 4)) x0) 5 (xTI σ x1 5)) x0 4 = _
    rw [fup_self, pk_un (by decide), fup_self, pk_us, hi]
  · show fup (fup (xTI τ) x0 (upd (xTI τ x0) 4 (xTI τ x1 4))) x0 (upd (fup (xTI τ) x0 (upd (xTI τ x0) 4 (xTI τ x1 4)) x0) 5 (xTI σ x1 5)) x0 5 = _
    rw [fup_self, pk_us]
