/-! the model's calls in numbers: arguments, a day laid out, least, a day digested -/
def In (x : Int32) (n : Nat) : Prop := ∃ j : Nat, j < n ∧ x = nI j
def Bt (x : Int32) (lo hi : Nat) : Prop := ∃ j : Nat, lo ≤ j ∧ j ≤ hi ∧ x = nI j
theorem in_iff {x : Int32} {n : Nat} (hn : n < 2 ^ 31) : In x n ↔ ¬ x < 0 ∧ ¬ nI n ≤ x := by
  constructor
  · rintro ⟨j, hj, rfl⟩
    exact ⟨nI_pos (by omega), nI_ge hj hn⟩
  · rintro ⟨h0, h1⟩
    rcases pk_ix x hn with h | h | h
    · exact absurd h h0
    · exact absurd h h1
    · exact h
theorem bt_iff {x : Int32} {lo hi : Nat} (hl : lo < 2 ^ 31) (hh : hi < 2 ^ 31) : Bt x lo hi ↔ ¬ x < nI lo ∧ ¬ nI hi < x := by
  constructor
  · rintro ⟨j, h1, h2, rfl⟩
    exact ⟨nI_nlt h1 (by omega), nI_nlt h2 hh⟩
  · rintro ⟨h0, h1⟩
    have a : ¬ x < 0 := by
      intro q
      refine h0 ?_
      rw [Int32.lt_iff_toInt_lt] at q ⊢
      rw [nI_toInt hl]
      have : (0 : Int32).toInt = 0 := rfl
      omega
    obtain ⟨j, hj, rfl⟩ := nI_of a
    refine ⟨j, ?_, ?_, rfl⟩
    · rw [nI_ltI hj hl] at h0; omega
    · rw [nI_ltI hh hj] at h1; omega
theorem m_within {σ : MS} {x : Int32} {lo hi : Nat} {P : Int32 → MS → Prop} (hl : lo < 2 ^ 31) (hh : hi < 2 ^ 31) (h1 : Bt x lo hi → P 1 σ) (h0 : ¬ Bt x lo hi → P 0 σ) : qX11_within σ x (nI lo) (nI hi) P := by
  unfold qX11_within
  rw [bt_iff hl hh] at h1 h0
  by_cases a : x < nI lo
  · rw [if_pos a]; exact h0 (fun q => q.1 a)
  rw [if_neg a]
  by_cases b : nI hi < x
  · rw [if_pos b]; exact h0 (fun q => q.2 b)
  rw [if_neg b]; exact h1 ⟨a, b⟩
theorem m_below {σ : MS} {x : Int32} {n : Nat} {P : Int32 → MS → Prop} (hn : n < 2 ^ 30) (h1 : In x n → P 1 σ) (h0 : ¬ In x n → P 0 σ) : qX11_within σ x 0 (nI n - 1) P := by
  unfold qX11_within
  rw [in_iff (by omega)] at h1 h0
  by_cases a : x < 0
  · rw [if_pos a]; exact h0 (fun q => q.1 a)
  rw [if_neg a]
  obtain ⟨j, hj, rfl⟩ := nI_of a
  have e : (nI n - 1 < nI j) ↔ nI n ≤ nI j := by
    rw [nI_leI (by omega) hj]
    by_cases z : n = 0
    · subst z
      constructor
      · intro _; omega
      · intro _
        rw [Int32.lt_iff_toInt_lt, nI_toInt hj]
        have : (nI 0 - 1).toInt = -1 := rfl
        omega
    · rw [show nI n - 1 = nI (n - 1) from pk_sub (b := 1) (by omega), nI_ltI (by omega) hj]; omega
  by_cases b : nI n ≤ nI j
  · rw [if_pos (e.mpr b)]; exact h0 (fun q => q.2 b)
  rw [if_neg (fun q => b (e.mp q))]; exact h1 ⟨a, b⟩
theorem nx_or (a b : Nat) : nI a ||| nI b = nI (a ||| b) := by
  apply Int32.toBitVec_inj.mp
  show BitVec.ofNat 32 a ||| BitVec.ofNat 32 b = BitVec.ofNat 32 (a ||| b)
  apply BitVec.eq_of_getLsbD_eq
  intro i hi
  simp [BitVec.getLsbD_ofNat, Nat.testBit_or, hi]
/- what stays -/
def FrM (μ μ' : MS) : Prop := (∀ k, k ≤ 25 → μ'.1 k = μ.1 k) ∧ (∀ k, k ≤ 25 → μ'.2.1 k = μ.2.1 k) ∧ μ'.2.2 = μ.2.2
theorem FrM.refl (μ : MS) : FrM μ μ := ⟨fun _ _ => rfl, fun _ _ => rfl, rfl⟩
theorem FrM.trans {a b c : MS} (h : FrM a b) (k : FrM b c) : FrM a c := ⟨fun i hi => (k.1 i hi).trans (h.1 i hi), fun i hi => (k.2.1 i hi).trans (h.2.1 i hi), k.2.2.trans h.2.2⟩
theorem FrM.ov (d : DS) (μ : MS) : FrM μ (ov d μ) := by
  refine ⟨fun k hk => ?_, fun k hk => ?_, rfl⟩
  · show ov1 d μ k = _; unfold ov1; rw [if_neg (by omega)]
  · show ov2 d μ k = _; unfold ov2; rw [if_neg (by omega), if_neg (by omega), if_neg (by omega)]
theorem KMt.fr {A : AS} {μ μ' : MS} (h : KMt A μ) (f : FrM μ μ') : KMt A μ' := by
  unfold KMt at *
  rw [f.1 0 (by decide), f.1 10 (by decide), f.1 11 (by decide), f.2.1 1 (by decide), f.2.1 2 (by decide), f.2.1 3 (by decide), f.2.1 4 (by decide), f.2.1 5 (by decide), f.2.1 6 (by decide), f.2.1 7 (by decide), f.2.1 8 (by decide), f.2.1 9 (by decide)]
  exact h
theorem KM.fr {A : AS} {μ μ' : MS} (h : KM A μ) (f : FrM μ μ') : KM A μ' := by
  refine ⟨h.1.fr f, ?_, ?_, ?_⟩
  · have := h.2.1
    unfold KMv at *
    rw [f.1 12 (by decide), f.2.1 13 (by decide), f.2.1 14 (by decide), f.2.1 15 (by decide), f.2.1 16 (by decide)]
    exact this
  · have := h.2.2.1
    unfold KMp at *
    rw [f.1 17 (by decide), f.2.1 18 (by decide)]
    exact this
  · have := h.2.2.2
    unfold KMi at *
    rw [f.1 19 (by decide), f.1 20 (by decide), f.1 21 (by decide), f.1 22 (by decide), f.2.1 23 (by decide), f.2.1 24 (by decide), f.2.1 25 (by decide)]
    exact this
def uv (A : AS) (v : Nat) (μ : MS) : MS := mset (mset (mset (mset (mset (mset μ 32 (nI (A.2 13 v))) 33 (nI (A.2 14 v))) 34 (nI (A.2 15 v))) 35 (nI (A.2 16 v))) 36 0) 37 (-1)
theorem mset_fr {μ : MS} {k : Nat} {v : Int32} (hk : 25 < k) : FrM μ (mset μ k v) := by
  refine ⟨fun j hj => ?_, fun _ _ => rfl, rfl⟩
  show upd μ.1 k v j = _; exact pk_un (by omega)
theorem mseta_fr {μ : MS} {k : Nat} {i v : Int32} (hk : 25 < k) : FrM μ (mseta μ k i v) := by
  refine ⟨fun _ _ => rfl, fun j hj => ?_, rfl⟩
  show va_up μ.2.1 k _ j = _; exact va_up_ne _ _ (by omega)
theorem uv_fr {A : AS} {v : Nat} {μ : MS} : FrM μ (uv A v μ) :=
  (mset_fr (by decide)).trans ((mset_fr (by decide)).trans ((mset_fr (by decide)).trans ((mset_fr (by decide)).trans ((mset_fr (by decide)).trans (mset_fr (by decide))))))
theorem bI_B {b : Nat} (h : b ≤ 1) : isB (nI b) := by
  rcases (by omega : b = 0 ∨ b = 1) with rfl | rfl
  · exact isB_0
  · exact isB_1
section
variable {A : AS} {μ : MS}
theorem m_useVow {P : MS → Prop} (hA : WFA A) (hK : KMv A μ) {v : Nat} (hv : v < A.1 12) (hP : P (uv A v μ)) : qX11_useVow μ (nI v) P := by
  have h6 := hA.2.1.1
  have w := hA.2.1.2 v hv
  have a := hK.2 v hv
  have e : (nI v).toNatClampNeg = v := nI_clamp (by omega)
  unfold qX11_useVow
  have e13 : mgeta μ 13 (nI v) = nI (A.2 13 v) := by rw [mgeta, e]; exact a.1
  refine ⟨vp_in_nI (by omega) (by decide), by rw [e13]; exact bI_B w.1, ?_⟩
  have ms : ∀ (τ : MS) (k : Nat) (v : Int32) (k' : Nat) (i : Int32), mgeta (mset τ k v) k' i = mgeta τ k' i := fun _ _ _ _ _ => rfl
  simp only [bnd_eq, ms]
  have e15 : mgeta μ 15 (nI v) = nI (A.2 15 v) := by rw [mgeta, e]; exact a.2.2.1
  have e14 : mgeta μ 14 (nI v) = nI (A.2 14 v) := by rw [mgeta, e]; exact a.2.1
  have e16 : mgeta μ 16 (nI v) = nI (A.2 16 v) := by rw [mgeta, e]; exact a.2.2.2
  rw [e13, e14, e15, e16]
  exact ⟨bI_B w.2.2.1, hP⟩
def usK (μ : MS) (k : Nat) : MS := (μ.1, va_up μ.2.1 38 (fun i => if i < k then μ.2.1 6 i else μ.2.1 38 i), μ.2.2)
theorem usK_0 : usK μ 0 = μ := by
  refine Prod.ext rfl (Prod.ext (funext fun j => ?_) rfl)
  by_cases e : j = 38
  · subst e; show (fun i => if i < 0 then μ.2.1 6 i else μ.2.1 38 i) = _; funext i; simp
  · exact va_up_ne _ _ e
theorem usK_s {k : Nat} (hk : k < 10) : mseta (usK μ k) 38 (nI k) (mgeta (usK μ k) 6 (nI k)) = usK μ (k + 1) := by
  unfold mseta mgeta
  rw [nI_clamp (by omega)]
  refine Prod.ext rfl (Prod.ext (funext fun j => ?_) rfl)
  by_cases e : j = 38
  · subst e
    show upd (fun i => if i < k then μ.2.1 6 i else μ.2.1 38 i) k (μ.2.1 6 k) = fun i => if i < k + 1 then μ.2.1 6 i else μ.2.1 38 i
    funext i; unfold upd
    by_cases h : i = k
    · subst h; simp
    · simp only [h, if_false]; by_cases h2 : i < k
      · rw [if_pos h2, if_pos (by omega)]
      · rw [if_neg h2, if_neg (by omega)]
  · show va_up (va_up μ.2.1 38 _) 38 _ j = va_up μ.2.1 38 _ j
    rw [va_up_ne _ _ e, va_up_ne _ _ e, va_up_ne _ _ e]
theorem m_useStores_L {P : MS → Prop} (hP : P (usK μ 10)) : ∀ (j k : Nat), k + j = 10 → qX11_useStores_L2 P (j + 1) (usK μ k) (nI k)
  | 0, k, e => by
    have e0 : k = 10 := by omega
    subst e0
    rw [qX11_useStores_L2, if_pos (by decide)]; exact hP
  | j + 1, k, e => by
    rw [qX11_useStores_L2, if_neg (nge10 (by omega))]
    refine ⟨vp_in_nI (by omega) (by decide), ?_⟩
    rw [bnd_eq, usK_s (by omega), bnd_eq, nI_1]
    exact m_useStores_L hP j (k + 1) (by omega)
theorem m_useStores {P : MS → Prop} (hP : P (usK μ 10)) : qX11_useStores μ P := by
  have h := m_useStores_L hP 10 0 rfl
  rw [usK_0] at h
  exact ⟨_, h⟩
theorem usK_fr {k : Nat} : FrM μ (usK μ k) := by
  refine ⟨fun _ _ => rfl, fun j hj => ?_, rfl⟩
  show va_up μ.2.1 38 _ j = _; exact va_up_ne _ _ (by omega)
theorem us_UM (hA : WFA A) (hK : KM A μ) {v : Nat} (hv : v < A.1 12) : UM A (A.2 6) v 0 99 (A.2 14 v) (usK (uv A v μ) 10) := by
  have h10 := hA.1.1
  refine ⟨rfl, rfl, rfl, rfl, rfl, fun h hh => ?_, fun h hh => ?_⟩
  · constructor
    · intro e
      have e : nI h = -1 := e
      have := congrArg Int32.toInt e
      rw [nI_toInt (by omega)] at this
      have e2 : (-1 : Int32).toInt = -1 := rfl
      rw [e2] at this; omega
    · intro e; omega
  · show (if h < 10 then μ.2.1 6 h else _) = _
    rw [if_pos (by omega)]; exact hK.1.2.2.2.2.1 h hh
/- a day begins -/
def bgK (μ : MS) (k : Nat) : MS := (μ.1, fun j => if j = 45 ∨ j = 46 ∨ j = 47 then (fun i => if i < k then 0 else μ.2.1 j i) else μ.2.1 j, μ.2.2)
theorem bgK_0 : bgK μ 0 = μ := by
  refine Prod.ext rfl (Prod.ext (funext fun j => ?_) rfl)
  show (if j = 45 ∨ j = 46 ∨ j = 47 then (fun i => if i < 0 then 0 else μ.2.1 j i) else μ.2.1 j) = _
  split
  · funext i; simp
  · rfl
theorem up0 {f : Nat → Int32} {k : Nat} : upd (fun i => if i < k then 0 else f i) k 0 = fun i => if i < k + 1 then 0 else f i := by
  funext i; unfold upd
  by_cases h : i = k
  · subst h; simp
  · simp only [h, if_false]; by_cases h2 : i < k
    · rw [if_pos h2, if_pos (by omega)]
    · rw [if_neg h2, if_neg (by omega)]
theorem bgK_s {k : Nat} (hk : k < 10) : mseta (mseta (mseta (bgK μ k) 45 (nI k) 0) 46 (nI k) 0) 47 (nI k) 0 = bgK μ (k + 1) := by
  unfold mseta
  rw [nI_clamp (by omega)]
  refine Prod.ext rfl (Prod.ext (funext fun j => ?_) rfl)
  show va_up (va_up (va_up (bgK μ k).2.1 45 _) 46 _) 47 _ j = _
  by_cases e7 : j = 47
  · subst e7; exact up0
  · rw [va_up_ne _ _ e7]
    by_cases e6 : j = 46
    · subst e6; exact up0
    · rw [va_up_ne _ _ e6]
      by_cases e5 : j = 45
      · subst e5; exact up0
      · rw [va_up_ne _ _ e5]
        show (if j = 45 ∨ j = 46 ∨ j = 47 then _ else μ.2.1 j) = (if j = 45 ∨ j = 46 ∨ j = 47 then _ else μ.2.1 j)
        rw [if_neg (by omega), if_neg (by omega)]
def bhK (μ : MS) (k : Nat) : MS := (μ.1, va_up (bgK μ 10).2.1 39 (fun i => if i < k then μ.2.1 9 i else μ.2.1 39 i), μ.2.2)
theorem bhK_0 : bhK μ 0 = bgK μ 10 := by
  refine Prod.ext rfl (Prod.ext (funext fun j => ?_) rfl)
  by_cases e : j = 39
  · subst e; show (fun i => if i < 0 then μ.2.1 9 i else μ.2.1 39 i) = μ.2.1 39; funext i; simp
  · exact va_up_ne _ _ e
theorem bhK_s {k : Nat} (hk : k < 5) : mseta (bhK μ k) 39 (nI k) (mgeta (bhK μ k) 9 (nI k)) = bhK μ (k + 1) := by
  unfold mseta mgeta
  rw [nI_clamp (by omega)]
  refine Prod.ext rfl (Prod.ext (funext fun j => ?_) rfl)
  by_cases e : j = 39
  · subst e
    show upd (fun i => if i < k then μ.2.1 9 i else μ.2.1 39 i) k (μ.2.1 9 k) = fun i => if i < k + 1 then μ.2.1 9 i else μ.2.1 39 i
    funext i; unfold upd
    by_cases h : i = k
    · subst h; simp
    · simp only [h, if_false]; by_cases h2 : i < k
      · rw [if_pos h2, if_pos (by omega)]
      · rw [if_neg h2, if_neg (by omega)]
  · show va_up (va_up _ 39 _) 39 _ j = va_up _ 39 _ j
    rw [va_up_ne _ _ e, va_up_ne _ _ e, va_up_ne _ _ e]
theorem bg_end (hK : KMt A μ) : mset (mset (mset (mset (mset (bhK μ 5) 40 (nI (A.1 10))) 41 0) 42 0) 43 0) 44 0 = ov (d0 A) μ := by
  refine Prod.ext (funext fun j => ?_) (Prod.ext (funext fun j => ?_) rfl)
  · show upd (upd (upd (upd (upd μ.1 40 _) 41 _) 42 _) 43 _) 44 _ j = ov1 (d0 A) μ j
    unfold upd ov1
    by_cases e4 : j = 44
    · subst e4; rfl
    by_cases e3 : j = 43
    · subst e3; rfl
    by_cases e2 : j = 42
    · subst e2; rfl
    by_cases e1 : j = 41
    · subst e1; rfl
    by_cases e0 : j = 40
    · subst e0; rfl
    simp only [e4, e3, e2, e1, e0, if_false, or_self]
  · show va_up (bgK μ 10).2.1 39 (fun i => if i < 5 then μ.2.1 9 i else μ.2.1 39 i) j = ov2 (d0 A) μ j
    by_cases e : j = 39
    · subst e
      show (fun i => if i < 5 then μ.2.1 9 i else μ.2.1 39 i) = ovA (A.2 9) 5 (μ.2.1 39)
      funext i; unfold ovA
      by_cases h : i < 5
      · rw [if_pos h, if_pos h, hK.2.2.2.2.2 i h]
      · rw [if_neg h, if_neg h]
    · rw [va_up_ne _ _ e]
      show (if j = 45 ∨ j = 46 ∨ j = 47 then (fun i => if i < 10 then 0 else μ.2.1 j i) else μ.2.1 j) = _
      unfold ov2
      rw [if_neg e]
      by_cases q : j = 45 ∨ j = 46 ∨ j = 47
      · rw [if_pos q, if_pos q]
        have e5 : (d0 A).2 j = fun _ => 0 := by show (if j = 39 then A.2 9 else fun _ => 0) = _; rw [if_neg e]
        rw [e5]; rfl
      · rw [if_neg q, if_neg q]
        by_cases r : j = 48
        · subst r; rw [if_pos rfl]
          funext i; unfold ovA; rw [if_neg (by show ¬ i < 5 * 0; omega)]
        · rw [if_neg r]
theorem m_begin_L2 {P : MS → Prop} {e35 : MS → Prop} (hP : e35 (bgK μ 10)) : ∀ (j k : Nat), k + j = 10 → qX11_beginDay_L2 e35 P (j + 1) (bgK μ k) (nI k)
  | 0, k, e => by
    have e0 : k = 10 := by omega
    subst e0
    rw [qX11_beginDay_L2, if_pos (by decide)]; exact hP
  | j + 1, k, e => by
    rw [qX11_beginDay_L2, if_neg (nge10 (by omega))]
    refine ⟨vp_in_nI (by omega) (by decide), ?_⟩
    simp only [bnd_eq]
    rw [bgK_s (by omega), nI_1]
    exact m_begin_L2 hP j (k + 1) (by omega)
theorem m_begin_L37 {P : MS → Prop} {e60 : MS → Prop} (hP : e60 (bhK μ 5)) : ∀ (j k : Nat), k + j = 5 → qX11_beginDay_L37 e60 P (j + 1) (bhK μ k) (nI k)
  | 0, k, e => by
    have e0 : k = 5 := by omega
    subst e0
    rw [qX11_beginDay_L37, if_pos (by decide)]; exact hP
  | j + 1, k, e => by
    rw [qX11_beginDay_L37, if_neg (nge5 (by omega))]
    refine ⟨vp_in_nI (by omega) (by decide), ?_⟩
    simp only [bnd_eq]
    rw [bhK_s (by omega), nI_1]
    exact m_begin_L37 hP j (k + 1) (by omega)
theorem m_begin {P : MS → Prop} (hK : KMt A μ) (hP : P (ov (d0 A) μ)) : qX11_beginDay μ P := by
  have h := m_begin_L2 (μ := μ) (P := P) (e35 := fun σ_1 => ∃ f37, qX11_beginDay_L37 (fun σ_2 => bnd (mset σ_2 40 (σ_2.1 10)) fun σ_3 => bnd (mset σ_3 41 0) fun σ_4 => bnd (mset σ_4 42 0) fun σ_5 => bnd (mset σ_5 43 0) fun σ_6 => bnd (mset σ_6 44 0) fun σ_7 => P σ_7) P f37 σ_1 0) ?_ 10 0 rfl
  · rw [bgK_0] at h; exact ⟨_, h⟩
  · have h2 := m_begin_L37 (μ := μ) (P := P) (e60 := fun σ_2 => bnd (mset σ_2 40 (σ_2.1 10)) fun σ_3 => bnd (mset σ_3 41 0) fun σ_4 => bnd (mset σ_4 42 0) fun σ_5 => bnd (mset σ_5 43 0) fun σ_6 => bnd (mset σ_6 44 0) fun σ_7 => P σ_7) ?_ 5 0 rfl
    · rw [bhK_0] at h2; exact ⟨_, h2⟩
    · simp only [bnd_eq]
      rw [show (bhK μ 5).1 10 = nI (A.1 10) from hK.2.1, bg_end hK]; exact hP
theorem m_goDay {P : MS → Prop} (hA : Tok A) {v : Nat} (hv : Vok A v) (h1 : 1 ≤ A.1 0) {st : Nat → Nat} {fs th tu T seat : Nat} (ht : tu ≤ 9) (hf : fs < 2 ^ 31) (hst : ∀ h, h < A.1 0 → st h ≤ 100) (hK : KMt A μ) (hU : UM A st v fs th tu μ) (hs : seat < A.1 0) (hT : T < 2 ^ 31) (hP : P (ov (zday A st v fs th tu T seat) μ)) : qX11_goDay μ (nI seat) (nI T) P := by
  unfold qX11_goDay
  refine m_begin hK ?_
  exact m_run (um_MC hA hv h1 ht hf hst hK hU) hU.1 hT 301 (d0 A) seat (d0_ZJ hA) hs (by show 300 - 0 < 301; decide) hP
theorem zday_far (hA : Tok A) {v : Nat} (hv : Vok A v) (h1 : 1 ≤ A.1 0) {st : Nat → Nat} {fs th tu T seat : Nat} (ht : tu ≤ 9) (hs : seat < A.1 0) (hT : 300 ≤ T) : zday A st v fs th tu T seat = zday A st v fs th tu 300 seat :=
  zrun_far (dc_WF hA hv h1 ht) hT _ _ _ (d0_ZJ hA) hs
theorem m_goDayF {P : MS → Prop} (hA : Tok A) {v : Nat} (hv : Vok A v) (h1 : 1 ≤ A.1 0) {st : Nat → Nat} {fs th tu seat : Nat} (ht : tu ≤ 9) (hf : fs < 2 ^ 31) (hst : ∀ h, h < A.1 0 → st h ≤ 100) (hK : KMt A μ) (hU : UM A st v fs th tu μ) (hs : seat < A.1 0) (hP : P (ov (zday A st v fs th tu 300 seat) μ)) : qX11_goDay μ (nI seat) 268435456 P :=
  m_goDay (T := 268435456) hA hv h1 ht hf hst hK hU hs (by decide) (by rw [zday_far hA hv h1 ht hs (by decide)]; exact hP)
theorem m_layDay {P : MS → Prop} (hA : WFA A) (hK : KM A μ) {v seat fs : Nat} (hv : v < A.1 12) (hs : seat < A.1 0) (hf : fs < 2 ^ 31) (hP : ∀ μ', FrM μ μ' → UM A (A.2 6) v fs 99 (A.2 14 v) μ' → P (ov (zday A (A.2 6) v fs 99 (A.2 14 v) 300 seat) μ')) : qX11_layDay μ (nI v) (nI seat) (nI fs) P := by
  have w := hA.2.1.2 v hv
  unfold qX11_layDay
  refine m_useVow hA hK.2.1 hv ?_
  refine m_useStores ?_
  rw [bnd_eq]
  have f : FrM μ (mset (usK (uv A v μ) 10) 36 (nI fs)) := uv_fr.trans (usK_fr.trans (mset_fr (by decide)))
  have hU := us_UM hA hK hv
  have hU2 : UM A (A.2 6) v fs 99 (A.2 14 v) (mset (usK (uv A v μ) 10) 36 (nI fs)) := ⟨rfl, rfl, rfl, rfl, rfl, hU.2.2.2.2.2.1, hU.2.2.2.2.2.2⟩
  exact m_goDayF hA.1 w (by omega) w.2.1 hf hA.1.2.2.2.2.1 (hK.1.fr f) hU2 hs (hP _ f hU2)
/- least -/
def yoff (ml nd : Nat → Nat) (k : Nat) : Int32 := nI (ml k) - nI (nd k)
def yl (st ml nd : Nat → Nat) : Nat → Option Int32
  | 0 => none
  | k + 1 => if st k = 0 then yl st ml nd k else some (match yl st ml nd k with
    | none => yoff ml nd k
    | some x => if x ≤ yoff ml nd k then x else yoff ml nd k)
theorem yl_s (st ml nd : Nat → Nat) (k : Nat) : yl st ml nd (k + 1) = if st k = 0 then yl st ml nd k else some (match yl st ml nd k with
    | none => yoff ml nd k
    | some x => if x ≤ yoff ml nd k then x else yoff ml nd k) := rfl
def yleast (n : Nat) (st ml nd : Nat → Nat) : Int32 := (yl st ml nd n).getD 0
theorem yoff_bd {ml nd : Nat → Nat} {k : Nat} (hm : ml k ≤ 2475) (hn : nd k ≤ 99) : -99 ≤ (yoff ml nd k).toInt ∧ (yoff ml nd k).toInt ≤ 2475 := by
  unfold yoff; rw [pk_sub_toInt (by omega) (by omega)]; omega
theorem yl_bd {st ml nd : Nat → Nat} {n : Nat} (hm : ∀ k, ml k ≤ 2475) (hn : ∀ k, k < n → nd k ≤ 99) : ∀ k, k ≤ n → ∀ x, yl st ml nd k = some x → -99 ≤ x.toInt ∧ x.toInt ≤ 2475
  | 0, _, x, h => by simp [yl] at h
  | k + 1, hk, x, h => by
    unfold yl at h
    have ih := yl_bd (st := st) hm hn k (by omega)
    have b := yoff_bd (hm k) (hn k (by omega))
    split at h
    · exact ih x h
    · injection h with h
      subst h
      split
      · exact b
      · rename_i y e
        split
        · exact ih y e
        · exact b
theorem yleast_bd {st ml nd : Nat → Nat} {n : Nat} (hm : ∀ k, ml k ≤ 2475) (hn : ∀ k, k < n → nd k ≤ 99) : -99 ≤ (yleast n st ml nd).toInt ∧ (yleast n st ml nd).toInt ≤ 2475 := by
  unfold yleast
  cases e : yl st ml nd n with
  | none => exact ⟨by decide, by decide⟩
  | some x => exact yl_bd hm hn n (Nat.le_refl _) x e
theorem m_least_L {P : Int32 → MS → Prop} {d : DS} {st : Nat → Nat} (hA : Tok A) (hK : KMt A μ) (h38 : ∀ h, h < A.1 0 → μ.2.1 38 h = sI (st h)) (hst : ∀ h, h < A.1 0 → st h ≤ 100) (hm : ∀ k, d.2 45 k ≤ 2475) (hP : P (yleast (A.1 0) st (d.2 45) (A.2 3)) (ov d μ)) : ∀ (j k : Nat), k + j = A.1 0 → qX11_leastNow_L5 (fun σ_2 x1_1 => (if x1_1 = 268435456 then (P 0 σ_2) else (P x1_1 σ_2))) P (j + 1) (ov d μ) ((yl st (d.2 45) (A.2 3) k).getD 268435456) (nI k)
  | 0, k, e => by
    have e0 : k = A.1 0 := by omega
    subst e0
    have h10 := hA.1
    rw [qX11_leastNow_L5, show (ov d μ).1 0 = nI (A.1 0) from hK.1, if_pos (Int32.le_refl _)]
    show (if _ = _ then _ else _)
    unfold yleast at hP
    cases e : yl st (d.2 45) (A.2 3) (A.1 0) with
    | none => rw [e] at hP; exact hP
    | some x =>
      rw [e] at hP
      have b := yl_bd (st := st) hm (fun k hk => (hA.2.2.2.1 k hk).2.2.2.1) _ (Nat.le_refl _) x e
      show (if x = 268435456 then _ else _)
      rw [if_neg (fun q => by rw [q] at b; revert b; decide)]; exact hP
  | j + 1, k, e => by
    have h10 := hA.1
    have hk : k < A.1 0 := by omega
    have ih := m_least_L hA hK h38 hst hm hP j (k + 1) (by omega)
    rw [qX11_leastNow_L5, show (ov d μ).1 0 = nI (A.1 0) from hK.1, if_neg (nI_ge hk (by omega))]
    refine ⟨vp_in_nI (by omega) (by decide), ?_⟩
    have e38 : mgeta (ov d μ) 38 (nI k) = sI (st k) := by rw [mgN (by omega)]; exact h38 k hk
    have e3 : mgeta (ov d μ) 3 (nI k) = nI (A.2 3 k) := by rw [mgN (by omega)]; exact (hK.2.2.2.1 k hk).2.2.1
    rw [bnd_eq, bnd_eq, bnd_eq, nI_1, mg45 (by omega), e3, e38]
    have b := yoff_bd (hm k) (hA.2.2.2.1 k hk).2.2.2.1
    have key : (if sI (st k) < 0 then (yl st (d.2 45) (A.2 3) k).getD 268435456 else if (yl st (d.2 45) (A.2 3) k).getD 268435456 ≤ nI (d.2 45 k) - nI (A.2 3 k) then (yl st (d.2 45) (A.2 3) k).getD 268435456 else nI (d.2 45 k) - nI (A.2 3 k) : Int32) = (yl st (d.2 45) (A.2 3) (k + 1)).getD 268435456 := by
      rw [yl_s]
      by_cases z : st k = 0
      · rw [if_pos ((sI_neg (hst k hk)).mpr z), if_pos z]
      · rw [if_neg (fun q => z ((sI_neg (hst k hk)).mp q)), if_neg z]
        cases e : yl st (d.2 45) (A.2 3) k with
        | none =>
          show (if (268435456 : Int32) ≤ yoff (d.2 45) (A.2 3) k then _ else _) = _
          rw [if_neg (fun q => by
            rw [Int32.le_iff_toInt_le] at q
            have : (268435456 : Int32).toInt = 268435456 := rfl
            omega)]; rfl
        | some x => rfl
    rw [key]; exact ih
theorem m_least {P : Int32 → MS → Prop} {d : DS} {st : Nat → Nat} (hA : Tok A) (hK : KMt A μ) (h38 : ∀ h, h < A.1 0 → μ.2.1 38 h = sI (st h)) (hst : ∀ h, h < A.1 0 → st h ≤ 100) (hm : ∀ k, d.2 45 k ≤ 2475) (hP : P (yleast (A.1 0) st (d.2 45) (A.2 3)) (ov d μ)) : qX11_leastNow (ov d μ) P :=
  ⟨_, m_least_L hA hK h38 hst hm hP (A.1 0) 0 (by omega)⟩
theorem ZJ_meals {d : DS} (h : ZJ d) : ∀ k, d.2 45 k ≤ 2475 := fun k => by
  have a := h.1.2.1
  have b := h.1.2.2.1 k
  omega
/-- LEAST of the day by a vow (tu: stirring) from a seat on -/
def zlst (A : AS) (v tu seat : Nat) : Int32 := yleast (A.1 0) (A.2 6) ((zday A (A.2 6) v 0 99 tu 300 seat).2 45) (A.2 3)
theorem zlst_bd (hA : Tok A) {v : Nat} (hv : Vok A v) {tu seat : Nat} (ht : tu ≤ 9) (hs : seat < A.1 0) : -99 ≤ (zlst A v tu seat).toInt ∧ (zlst A v tu seat).toInt ≤ 2475 :=
  yleast_bd (ZJ_meals (zday_ZJ hA hv (by omega) ht hs)) (fun k hk => (hA.2.2.2.1 k hk).2.2.2.1)
theorem m_leastOf {P : Int32 → MS → Prop} (hA : WFA A) (hK : KM A μ) {v seat : Nat} (hv : v < A.1 12) (hs : seat < A.1 0) (hP : ∀ μ', FrM μ μ' → P (zlst A v (A.2 14 v) seat) μ') : qX11_leastOf μ (nI v) (nI seat) P := by
  have w := hA.2.1.2 v hv
  unfold qX11_leastOf
  refine m_layDay (fs := 0) hA hK hv hs (by decide) (fun μ' f hU => ?_)
  have z := zday_ZJ (T := 300) hA.1 w (by omega) (st := A.2 6) (fs := 0) (th := 99) w.2.1 hs
  refine m_least hA.1 (hK.1.fr f) hU.2.2.2.2.2.2 hA.1.2.2.2.2.1 (ZJ_meals z) ?_
  exact hP _ (f.trans (FrM.ov _ _))
end
