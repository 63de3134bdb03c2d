/-! what both hold: one state in numbers; 6 and 23 are stores and 1 (0: starved) -/
def sI (s : Nat) : Int32 := nI s - 1
theorem sI_pos {s : Nat} (h : 0 < s) : sI s = nI (s - 1) := pk_sub (b := 1) h
theorem sI_0 : sI 0 = -1 := rfl
theorem sI_m1 {s : Nat} (hs : s ≤ 100) : sI s = -1 ↔ s = 0 := by
  by_cases h : s = 0
  · subst h; simp [sI_0]
  · rw [sI_pos (by omega)]
    constructor
    · intro e
      have := congrArg Int32.toInt e
      rw [nI_toInt (by omega)] at this
      have e2 : (-1 : Int32).toInt = -1 := rfl
      rw [e2] at this; omega
    · intro e; exact absurd e h
theorem sI_neg {s : Nat} (hs : s ≤ 100) : sI s < 0 ↔ s = 0 := by
  by_cases h : s = 0
  · subst h; simp; decide
  · rw [sI_pos (by omega)]
    constructor
    · intro e; exact absurd e (nI_pos (by omega))
    · intro e; exact absurd e h
theorem sI_ge {s : Nat} (hs : s ≤ 100) : 0 ≤ sI s ↔ ¬ s = 0 := by
  by_cases h : s = 0
  · subst h; simp; decide
  · rw [sI_pos (by omega)]
    exact ⟨fun _ => h, fun _ => nI_pos' (by omega)⟩
theorem shl1 : ∀ h, h < 11 → jshl 1 (nI h) = nI (2 ^ h) := by decide
theorem sh31 : ∀ h, h < 11 → ((nI h &&& 31).toBitVec.smod 32).toNat = h := by decide
theorem shrN {f h : Nat} (hf : f < 2 ^ 31) (hh : h < 11) : jshr (nI f) (nI h) = nI (f / 2 ^ h) := pk_shrN hf _ h (sh31 h hh)
theorem bitN {f h : Nat} (hf : f < 2 ^ 31) (hh : h < 11) : jshr (nI f) (nI h) &&& 1 = nI (f / 2 ^ h % 2) := by
  rw [shrN hf hh]
  have : f / 2 ^ h ≤ f := Nat.div_le_self _ _
  exact pk_andN (by omega) 1 rfl
theorem bit1 {f h : Nat} (hf : f < 2 ^ 31) (hh : h < 11) : (jshr (nI f) (nI h) &&& 1) = 1 ↔ f.testBit h = true := by
  rw [bitN hf hh, Nat.testBit_eq_decide_div_mod_eq]
  have h2 : f / 2 ^ h % 2 < 2 := Nat.mod_lt _ (by decide)
  rw [show (1 : Int32) = nI 1 from rfl, nI_eq (by omega) (by decide)]; simp
theorem bit0 {f h : Nat} (hf : f < 2 ^ 31) (hh : h < 11) : ¬ (jshr (nI f) (nI h) &&& 1) = 0 ↔ f.testBit h = true := by
  rw [bitN hf hh, Nat.testBit_eq_decide_div_mod_eq]
  have h2 : f / 2 ^ h % 2 < 2 := Nat.mod_lt _ (by decide)
  rw [show (0 : Int32) = nI 0 from rfl, nI_eq (by omega) (by decide)]; simp
abbrev AS : Type := DS
def Hok (A : AS) (h : Nat) : Prop := A.2 1 h ≤ 4 ∧ A.2 2 h ≤ 4 ∧ (A.2 1 h = 1 ∨ A.2 1 h = 3 ∨ A.2 1 h = 4 → 1 ≤ A.2 2 h) ∧ A.2 3 h ≤ 99 ∧ A.2 4 h ≤ 3 ∧ 1 ≤ A.2 5 h ∧ A.2 5 h ≤ 9 ∧ A.2 7 h < A.1 0 ∧ A.2 8 h < A.1 0 ∧ A.2 8 (A.2 7 h) = h ∧ A.2 7 (A.2 8 h) = h
def Vok (A : AS) (v : Nat) : Prop := A.2 13 v ≤ 1 ∧ A.2 14 v ≤ 9 ∧ A.2 15 v ≤ 1 ∧ A.2 16 v ≤ 9
def Pok (A : AS) : Prop := A.1 17 ≤ 16 ∧ ∀ i, i < A.1 17 → A.2 18 i ≤ 126
def Iok (A : AS) : Prop := A.1 19 ≤ 1 ∧ (A.1 19 = 1 → A.1 20 ≤ A.1 0 ∧ A.1 21 ≤ 300 ∧ A.1 22 ≤ 1 ∧ (∀ h, h < A.1 20 → A.2 23 h ≤ 100 ∧ A.2 24 h < A.1 20 ∧ A.2 26 h < A.1 20 ∧ A.2 26 (A.2 24 h) = h ∧ A.2 24 (A.2 26 h) = h) ∧ ∀ k, k < 5 → A.2 25 k ≤ 99)
/-- the table's numbers -/
def Tok (A : AS) : Prop := A.1 0 ≤ 10 ∧ A.1 10 ≤ 300 ∧ A.1 11 ≤ 1 ∧ (∀ h, h < A.1 0 → Hok A h) ∧ (∀ h, h < A.1 0 → A.2 6 h ≤ 100) ∧ ∀ k, k < 5 → A.2 9 k ≤ 99
def WFA (A : AS) : Prop := Tok A ∧ (A.1 12 ≤ 6 ∧ ∀ v, v < A.1 12 → Vok A v) ∧ Pok A ∧ Iok A
def KMt (A : AS) (μ : MS) : Prop := μ.1 0 = nI (A.1 0) ∧ μ.1 10 = nI (A.1 10) ∧ μ.1 11 = nI (A.1 11) ∧ (∀ h, h < A.1 0 → μ.2.1 1 h = nI (A.2 1 h) ∧ μ.2.1 2 h = nI (A.2 2 h) ∧ μ.2.1 3 h = nI (A.2 3 h) ∧ μ.2.1 4 h = nI (A.2 4 h) ∧ μ.2.1 5 h = nI (A.2 5 h) ∧ μ.2.1 7 h = nI (A.2 7 h) ∧ μ.2.1 8 h = nI (A.2 8 h)) ∧ (∀ h, h < A.1 0 → μ.2.1 6 h = sI (A.2 6 h)) ∧ ∀ k, k < 5 → μ.2.1 9 k = nI (A.2 9 k)
def KMv (A : AS) (μ : MS) : Prop := μ.1 12 = nI (A.1 12) ∧ ∀ v, v < A.1 12 → μ.2.1 13 v = nI (A.2 13 v) ∧ μ.2.1 14 v = nI (A.2 14 v) ∧ μ.2.1 15 v = nI (A.2 15 v) ∧ μ.2.1 16 v = nI (A.2 16 v)
def KMp (A : AS) (μ : MS) : Prop := μ.1 17 = nI (A.1 17) ∧ ∀ i, i < A.1 17 → μ.2.1 18 i = nI (A.2 18 i)
def KMi (A : AS) (μ : MS) : Prop := μ.1 19 = nI (A.1 19) ∧ (A.1 19 = 1 → μ.1 20 = nI (A.1 20) ∧ μ.1 21 = nI (A.1 21) ∧ μ.1 22 = nI (A.1 22) ∧ (∀ h, h < A.1 20 → μ.2.1 23 h = sI (A.2 23 h) ∧ μ.2.1 24 h = nI (A.2 24 h)) ∧ ∀ k, k < 5 → μ.2.1 25 k = nI (A.2 25 k))
def KM (A : AS) (μ : MS) : Prop := KMt A μ ∧ KMv A μ ∧ KMp A μ ∧ KMi A μ
/-- a table of the component -/
def Tab (n : Nat) (st p ly : Nat → Nat) (he fe : Nat) (σ : XS) (u : Fin 3) : Prop := (∀ h, h < n → xTB σ u 0 h = sI (st h)) ∧ (∀ k, k < 10 → xTB σ u 1 k = nI (if k < n then p k else k)) ∧ (∀ k, k < 5 → xTB σ u 2 k = nI (ly k)) ∧ xTI σ u 4 = nI he ∧ xTI σ u 5 = nI fe
def KXg (em : Nat) (A : AS) (g : XG) : Prop := nH g = A.1 0 ∧ nV g = A.1 12 ∧ (∀ j : Fin (nH g), (hK g j).val = A.2 1 j.val ∧ hF0 g j = nI (A.2 2 j.val) ∧ hF1 g j = nI (A.2 3 j.val) ∧ hF2 g j = nI (A.2 4 j.val) ∧ hF3 g j = nI (A.2 5 j.val)) ∧ (∀ v : Fin (nV g), vF0 g v = nI (A.2 13 v.val) ∧ vF1 g v = nI (A.2 14 v.val) ∧ vF2 g v = nI (A.2 15 v.val) ∧ vF3 g v = nI (A.2 16 v.val)) ∧ (nV g = 0 → g.2.2.2.2.2.2.2.1 = em) ∧ (nH g = 0 → g.2.2.2.2.2.1.2.1 = em)
def KXp (A : AS) (σ : XS) : Prop := xP σ 1 = nI (A.1 17) ∧ ∀ i, i < A.1 17 → xS σ i = nI (A.2 18 i)
def KXi (A : AS) (σ : XS) : Prop := (A.1 19 = 0 → xK σ = -1) ∧ (A.1 19 = 1 → xK σ = nI (A.1 20) ∧ Tab (A.1 20) (A.2 23) (A.2 26) (A.2 25) (A.1 21) (A.1 22) σ 1)
abbrev TabA (A : AS) (st p : Nat → Nat) (σ : XS) (u : Fin 3) : Prop := Tab (A.1 0) st p (A.2 9) (A.1 10) (A.1 11) σ u
def KX (em : Nat) (A : AS) (g : XG) (σ : XS) : Prop := KXg em A g ∧ TabA A (A.2 6) (A.2 8) σ 0 ∧ KXp A σ ∧ KXi A σ
def KK (em : Nat) (g : XG) (σ : XS) (μ : MS) : Prop := ∃ A, WFA A ∧ KX em A g σ ∧ KM A μ
/- a day of it -/
def dc (A : AS) (st : Nat → Nat) (v fs th tu : Nat) : DC := (fun k => if k = 32 then A.2 13 v else if k = 33 then tu else if k = 35 then A.2 16 v else if k = 37 then th else A.1 k, A.2, fun h => decide (st h = 0) || Nat.testBit fs h || (decide (A.2 15 v = 1) && decide (A.2 1 h = 2)))
def d0 (A : AS) : DS := (fun k => if k = 40 then A.1 10 else 0, fun k => if k = 39 then A.2 9 else fun _ => 0)
def zday (A : AS) (st : Nat → Nat) (v fs th tu T seat : Nat) : DS := zrun (dc A st v fs th tu) T 301 (d0 A) seat
theorem dc_WF {A : AS} (hA : Tok A) {v : Nat} (hv : Vok A v) (h1 : 1 ≤ A.1 0) {st : Nat → Nat} {fs th tu : Nat} (ht : tu ≤ 9) : WFc (dc A st v fs th tu) := by
  refine ⟨h1, hA.1, hA.2.2.1, ?_, ?_, ?_, ?_⟩
  · exact hv.1
  · exact ht
  · exact hv.2.2.2
  · exact hA.2.2.2.1
theorem d0_ZJ {A : AS} (hA : Tok A) : ZJ (d0 A) := by
  have h10 := hA.2.1
  have l0 := hA.2.2.2.2.2 0 (by decide)
  have l1 := hA.2.2.2.2.2 1 (by decide)
  have l2 := hA.2.2.2.2.2 2 (by decide)
  have l3 := hA.2.2.2.2.2 3 (by decide)
  have l4 := hA.2.2.2.2.2 4 (by decide)
  have e : zleft (d0 A) = A.2 9 0 + A.2 9 1 + A.2 9 2 + A.2 9 3 + A.2 9 4 := rfl
  refine ⟨⟨?_, ?_, fun h => Nat.le_refl _, fun h => Nat.le_refl _, Nat.le_refl _, Nat.zero_le _, h10, fun h => Nat.zero_le _⟩, Nat.zero_le _, fun h => Nat.le_refl _⟩
  · rw [e]; show _ + 0 ≤ 495; omega
  · rw [e]; show 0 + _ ≤ 2475; omega
/-- what a day leaves: bounds -/
theorem zday_ZJ {A : AS} (hA : Tok A) {v : Nat} (hv : Vok A v) (h1 : 1 ≤ A.1 0) {st : Nat → Nat} {fs th tu T seat : Nat} (ht : tu ≤ 9) (hs : seat < A.1 0) : ZJ (zday A st v fs th tu T seat) :=
  zrun_ZJ (dc_WF hA hv h1 ht) _ _ _ (d0_ZJ hA) hs
/- the model, ready for a day -/
def UM (A : AS) (st : Nat → Nat) (v fs th tu : Nat) (μ : MS) : Prop := μ.1 32 = nI (A.2 13 v) ∧ μ.1 33 = nI tu ∧ μ.1 34 = nI (A.2 15 v) ∧ μ.1 35 = nI (A.2 16 v) ∧ μ.1 36 = nI fs ∧ (∀ h, h < 10 → (nI h = μ.1 37 ↔ h = th)) ∧ ∀ h, h < A.1 0 → μ.2.1 38 h = sI (st h)
theorem um_MC {A : AS} (hA : Tok A) {v : Nat} (hv : Vok A v) (h1 : 1 ≤ A.1 0) {st : Nat → Nat} {fs th tu : Nat} {μ : MS} (ht : tu ≤ 9) (hf : fs < 2 ^ 31) (hst : ∀ h, h < A.1 0 → st h ≤ 100) (hK : KMt A μ) (hU : UM A st v fs th tu μ) : MC (dc A st v fs th tu) μ := by
  refine ⟨dc_WF hA hv h1 ht, hK.1, hK.2.2.1, trivial, hU.2.1, hU.2.2.2.1, hU.2.2.2.2.2.1, ?_, hK.2.2.2.1⟩
  intro h hh
  have hh : h < A.1 0 := hh
  have h10 := hA.1
  rw [hU.2.2.2.2.2.2 h hh, hU.2.2.2.2.1, hU.2.2.1, (hK.2.2.2.1 h hh).1, sI_neg (hst h hh), bit1 hf (by omega)]
  have hk := (hA.2.2.2.1 h hh).1
  have hv3 := hv.2.2.1
  have l0 : (nI (A.2 15 v) = 0) ↔ A.2 15 v = 0 := nI_eq (b := 0) (by omega) (by decide)
  have l2 : (nI (A.2 1 h) = 2) ↔ A.2 1 h = 2 := nI_eq (b := 2) (by omega) (by decide)
  rw [l0, l2]
  show (decide (st h = 0) || Nat.testBit fs h || (decide (A.2 15 v = 1) && decide (A.2 1 h = 2))) = true ↔ _
  simp only [Bool.or_eq_true, Bool.and_eq_true, decide_eq_true_eq]
  rw [or_assoc]
  have : A.2 15 v = 1 ↔ ¬ A.2 15 v = 0 := by omega
  rw [this]
/- the component, ready for a day at table u -/
def UX (A : AS) (st : Nat → Nat) (th w : Nat) (σ : XS) : Prop := TabA A st (A.2 8) σ (xC σ) ∧ (∀ h, h < 10 → (nI h = xSI σ 11 ↔ h = th)) ∧ ∀ b, b ≤ 600 → (nI b = xSI σ 12 ↔ b = w)
theorem ux_XB {A : AS} {em : Nat} {g : XG} (hA : Tok A) {v : Nat} (hv : Vok A v) (h1 : 1 ≤ A.1 0) {st : Nat → Nat} {fs th tu w : Nat} {σ : XS} (ht : tu ≤ 9) (hG : KXg em A g) (hU : UX A st th w σ) : XB (dc A st v fs th tu) g σ := by
  have h10 := hA.1
  refine ⟨dc_WF hA hv h1 ht, hG.1, hU.1.2.2.2.2, hU.2.1, fun j => ?_⟩
  have hj := j.isLt
  have a := hG.2.2.1 j
  refine ⟨a.1, a.2.1, a.2.2.1, a.2.2.2.1, a.2.2.2.2, ?_⟩
  have b := hU.1.2.1 j.val (by have := hG.1; omega)
  rw [if_pos (by have := hG.1; omega)] at b
  exact b
theorem ux_XV {A : AS} {em : Nat} {g : XG} (hA : Tok A) {v : Fin (nV g)} (hv : Vok A v.val) {st : Nat → Nat} {fs th tu w : Nat} {σ : XS} (hf : fs < 2 ^ 31) (hst : ∀ h, h < A.1 0 → st h ≤ 100) (hG : KXg em A g) (hU : UX A st th w σ) : XV (dc A st v.val fs th tu) g σ v (nI fs) := by
  have h10 := hA.1
  have b := hG.2.2.2.1 v
  refine ⟨b.1, b.2.2.2, fun j => ?_⟩
  have hj := j.isLt
  have hh : j.val < A.1 0 := by have := hG.1; omega
  have a := hG.2.2.1 j
  rw [hU.1.1 j.val hh, sI_m1 (hst _ hh), bit0 hf (by omega), b.2.2.1]
  have hv3 := hv.2.2.1
  have l0 : (nI (A.2 15 v.val) = 0) ↔ A.2 15 v.val = 0 := nI_eq (b := 0) (by omega) (by decide)
  have l2 : (hK g j = 2) ↔ A.2 1 j.val = 2 := by
    rw [← a.1]
    constructor
    · intro e; rw [e]; rfl
    · intro e; exact Fin.ext e
  rw [l0, l2]
  show (decide (st j.val = 0) || Nat.testBit fs j.val || (decide (A.2 15 v.val = 1) && decide (A.2 1 j.val = 2))) = true ↔ _
  simp only [Bool.or_eq_true, Bool.and_eq_true, decide_eq_true_eq]
  rw [or_assoc]
  have : A.2 15 v.val = 1 ↔ ¬ A.2 15 v.val = 0 := by omega
  rw [this]
