/-! days to come: where the spoon begins, who fasts, who starves -/
def dso (n x seat d : Nat) : Nat := if x = 0 then (seat + d * (n - 1)) % n else (seat + d) % n
theorem dso_lt {n x seat d : Nat} (hn : 1 ≤ n) : dso n x seat d < n := by unfold dso; split <;> exact Nat.mod_lt _ hn
theorem dso_0 {n x seat : Nat} (hs : seat < n) : dso n x seat 0 = seat := by
  unfold dso; rw [Nat.zero_mul, Nat.add_zero, Nat.mod_eq_of_lt hs]; split <;> rfl
theorem dso_s {n x seat d : Nat} : (if x = 0 then (dso n x seat d + (n - 1)) % n else (dso n x seat d + 1) % n) = dso n x seat (d + 1) := by
  unfold dso
  by_cases q : x = 0
  · rw [if_pos q, if_pos q, if_pos q, Nat.mod_add_mod, Nat.succ_mul, Nat.add_assoc]
  · rw [if_neg q, if_neg q, if_neg q, Nat.mod_add_mod, Nat.add_assoc]
theorem dso_per {n x seat d : Nat} : dso n x seat (d + n) = dso n x seat d := by
  unfold dso
  by_cases q : x = 0
  · rw [if_pos q, if_pos q, Nat.add_mul, ← Nat.add_assoc, Nat.add_mul_mod_self_left]
  · rw [if_neg q, if_neg q, ← Nat.add_assoc, Nat.add_mod_right]
def dfs (p : Nat → Nat) (n k d : Nat) : Nat → Nat
  | 0 => 0
  | i + 1 => dfs p n k d i ||| 2 ^ p ((d * k + i) % n)
theorem dfs_s (p : Nat → Nat) (n k d i : Nat) : dfs p n k d (i + 1) = dfs p n k d i ||| 2 ^ p ((d * k + i) % n) := rfl
theorem dfs_lt {p : Nat → Nat} {n k d : Nat} (h1 : 1 ≤ n) (hn : n ≤ 10) (hp : ∀ s, s < n → p s < n) : ∀ i, dfs p n k d i < 2 ^ 10
  | 0 => by show 0 < 2 ^ 10; decide
  | i + 1 => by
    have a := hp ((d * k + i) % n) (Nat.mod_lt _ h1)
    rw [dfs_s]
    exact Nat.or_lt_two_pow (dfs_lt h1 hn hp i) (Nat.pow_lt_pow_right (by decide) (by omega))
theorem dfs_per {p : Nat → Nat} {n k d : Nat} : ∀ i, dfs p n k (d + n) i = dfs p n k d i
  | 0 => rfl
  | i + 1 => by
    rw [dfs_s, dfs_s, dfs_per i, Nat.add_mul, show d * k + n * k + i = d * k + i + n * k by omega, Nat.add_mul_mod_self_left]
def dml (A : AS) (v seat k : Nat) (st : Nat → Nat) (d : Nat) : Nat → Nat := (zday A st v (dfs (A.2 8) (A.1 0) k d k) 99 (A.2 14 v) 300 (dso (A.1 0) (A.2 13 v) seat d)).2 45
def dst (A : AS) (v seat k : Nat) : Nat → Nat → Nat
  | 0 => A.2 6
  | d + 1 => de (A.1 0) (dst A v seat k d) (dml A v seat k (dst A v seat k d) d) (A.2 3)
theorem dst_s (A : AS) (v seat k d : Nat) : dst A v seat k (d + 1) = de (A.1 0) (dst A v seat k d) (dml A v seat k (dst A v seat k d) d) (A.2 3) := rfl
def dbt (A : AS) (v seat k d : Nat) : Nat := db (A.1 0) (dst A v seat k d) (dml A v seat k (dst A v seat k d) d) (A.2 3) (A.1 0)
def dls (hit : Nat → Bool) (A : AS) (v seat k : Nat) : Nat → Nat → Option Nat
  | 0, _ => none
  | m + 1, d => if hit (dbt A v seat k d) = true then some d else dls hit A v seat k m (d + 1)
theorem dls_s (hit : Nat → Bool) (A : AS) (v seat k m d : Nat) : dls hit A v seat k (m + 1) d = if hit (dbt A v seat k d) = true then some d else dls hit A v seat k m (d + 1) := rfl
def lres : Option Nat → Int32
  | none => -1
  | some d => nI (d + 1)
theorem dml_per {A : AS} {v seat k d : Nat} {st st' : Nat → Nat} (h : ∀ h, st h = 0 ↔ st' h = 0) : dml A v seat k st d = dml A v seat k st' (d + A.1 0) := by
  unfold dml
  rw [dso_per, dfs_per]
  have e : ∀ fs, dc A st v fs 99 (A.2 14 v) = dc A st' v fs 99 (A.2 14 v) := fun fs => by
    unfold dc
    have : (fun h => decide (st h = 0) || Nat.testBit fs h || (decide (A.2 15 v = 1) && decide (A.2 1 h = 2))) = (fun h => decide (st' h = 0) || Nat.testBit fs h || (decide (A.2 15 v = 1) && decide (A.2 1 h = 2))) := by
      funext i
      rw [show decide (st i = 0) = decide (st' i = 0) from decide_eq_decide.mpr (h i)]
    rw [this]
  unfold zday
  rw [e]
theorem db_zero {n : Nat} {st ml nd : Nat → Nat} : ∀ k, db n st ml nd k = 0 → ∀ i, i < k → ¬ (¬ st i = 0 ∧ de n st ml nd i = 0)
  | 0, _, i, hi => absurd hi (Nat.not_lt_zero _)
  | k + 1, e, i, hi => by
    rw [db_s] at e
    by_cases c : ¬ st k = 0 ∧ de n st ml nd k = 0
    · rw [if_pos c] at e
      have : Nat.testBit (db n st ml nd k ||| 2 ^ k) k = true := by rw [Nat.testBit_or, Nat.testBit_two_pow_self, Bool.or_true]
      rw [e, Nat.zero_testBit] at this
      exact absurd this (by decide)
    · rw [if_neg c] at e
      by_cases q : i = k
      · rw [q]; exact c
      · exact db_zero k e i (by omega)
theorem de_alive {n : Nat} {st ml nd : Nat → Nat} (h : db n st ml nd n = 0) (i : Nat) : de n st ml nd i = 0 ↔ st i = 0 := by
  by_cases c : i < n
  · have z := db_zero n h i c
    constructor
    · intro e
      by_cases q : st i = 0
      · exact q
      · exact absurd ⟨q, e⟩ z
    · intro e; unfold de; rw [if_pos c, if_pos e]
  · unfold de; rw [if_neg c]
section
variable {A : AS} {em : Nat} {g : XG} {v seat k : Nat}
theorem dst_le (hA : Tok A) : ∀ d h, h < A.1 0 → dst A v seat k d h ≤ 100
  | 0, h, hh => hA.2.2.2.2.1 h hh
  | d + 1, h, hh => by rw [dst_s]; exact de_le (dst_le hA d) h hh
theorem dml_le (hA : Tok A) (hv : Vok A v) (h1 : 1 ≤ A.1 0) {st : Nat → Nat} {d : Nat} : ∀ i, dml A v seat k st d i ≤ 2475 :=
  ZJ_meals (zday_ZJ hA hv h1 hv.2.1 (dso_lt h1))
theorem dfs_ok (hA : Tok A) (h1 : 1 ≤ A.1 0) {d i : Nat} : dfs (A.2 8) (A.1 0) k d i < 2 ^ 10 := dfs_lt h1 hA.1 (fun s hs => (pq_of hA s hs).2.1) i
theorem dbt_lt (hA : Tok A) {d : Nat} : dbt A v seat k d < 1024 := by
  have a := db_lt (A.1 0) (dst A v seat k d) (dml A v seat k (dst A v seat k d) d) (A.2 3) (A.1 0)
  have b : 2 ^ A.1 0 ≤ 2 ^ 10 := Nat.pow_le_pow_right (by decide) hA.1
  unfold dbt; omega
theorem m_onwS {σ : MS} {P : Int32 → MS → Prop} {n x s : Nat} (h0 : σ.1 0 = nI n) (h1 : 1 ≤ n) (hn : n ≤ 10) (hx : x ≤ 1) (hs : s < n) (hP : P (nI (if x = 0 then (s + (n - 1)) % n else (s + 1) % n)) σ) : qX11_onward σ (nI s) (nI x) P := by
  have hne : ¬ nI n = 0 := nI_ne0 (by omega) (by omega)
  unfold qX11_onward
  rw [h0]
  rcases (by omega : x = 0 ∨ x = 1) with rfl | rfl
  · rw [if_pos (show nI 0 = 0 from rfl)]
    refine ⟨hne, ?_⟩
    rw [show nI n - 1 = nI (n - 1) from pk_sub (b := 1) h1, nI_add, jremN (by omega) (by omega) (by omega)]
    exact hP
  · rw [if_neg (show ¬ nI 1 = 0 by decide)]
    refine ⟨hne, ?_⟩
    rw [nI_1, jremN (by omega) (by omega) (by omega)]
    exact hP
theorem x_onwS {τ : XS} {u : Fin 3} {P : Int32 → XS → Prop} {n x s : Nat} (hg : nH g = n) (h1 : 1 ≤ n) (hn : n ≤ 10) (hx : x ≤ 1) (hs : s < n) (hP : P (nI (if x = 0 then (s + (n - 1)) % n else (s + 1) % n)) τ) : qX8_seatBeside g τ u (nI s) (nI x) P := by
  unfold qX8_seatBeside qX8_seatNext
  rw [hg]
  rcases (by omega : x = 0 ∨ x = 1) with rfl | rfl
  · rw [if_pos (show nI 0 = 0 from rfl)]
    rw [if_pos rfl] at hP
    by_cases a : s = 0
    · subst a
      rw [if_pos (show nI 0 ≤ 0 by decide), show nI n - 1 = nI (n - 1) from pk_sub (b := 1) h1]
      rw [show (0 + (n - 1)) % n = n - 1 from by rw [Nat.zero_add]; exact Nat.mod_eq_of_lt (by omega)] at hP
      exact hP
    · rw [if_neg (nI_nle (by omega) (by omega)), show nI s - 1 = nI (s - 1) from pk_sub (b := 1) (by omega)]
      rw [show s + (n - 1) = (s - 1) + n by omega, Nat.add_mod_right, Nat.mod_eq_of_lt (by omega)] at hP
      exact hP
  · rw [if_neg (show ¬ nI 1 = 0 by decide), nI_1]
    rw [if_neg (by decide)] at hP
    by_cases a : s + 1 = n
    · rw [if_pos (nI_le (by omega) (by omega))]
      rw [a, Nat.mod_self] at hP; exact hP
    · rw [if_neg (nI_ge (by omega) (by omega))]
      rw [Nat.mod_eq_of_lt (by omega)] at hP; exact hP
/- the model's days -/
theorem m_sit_L {σ : MS} {P : Int32 → MS → Prop} {d : Nat} (hA : Tok A) (h1 : 1 ≤ A.1 0) (hK : KMt A σ) (hd : d ≤ 60) (hk : k ≤ 10) (hP : P (nI (dfs (A.2 8) (A.1 0) k d k)) σ) : ∀ (j i : Nat), i + j = k → qX11_sittersFrom_L5 P (j + 1) σ (nI (d * k)) (nI k) (nI (dfs (A.2 8) (A.1 0) k d i)) (nI i)
  | 0, i, e => by
    have e0 : i = k := by omega
    subst e0
    rw [qX11_sittersFrom_L5, if_pos (Int32.le_refl _)]; exact hP
  | j + 1, i, e => by
    have h10 := hA.1
    have hm : d * k ≤ 60 * 10 := Nat.mul_le_mul hd hk
    have hr : (d * k + i) % A.1 0 < A.1 0 := Nat.mod_lt _ h1
    have hp := (pq_of hA _ hr).2.1
    have ih := m_sit_L hA h1 hK hd hk hP j (i + 1) (by omega)
    rw [qX11_sittersFrom_L5, if_neg (nI_ge (by omega) (by omega)), hK.1, nI_add, jremN (by omega) (by omega) (by omega), mgN (by omega), (hK.2.2.2.1 _ hr).2.2.2.2.2.2, shl1 _ (by omega), nx_or, bnd_eq, bnd_eq, nI_1]
    exact ⟨nI_ne0 (by omega) (by omega), vp_in_nI (by omega) (by decide), ih⟩
theorem m_day1 {τ : MS} {Q : Int32 → MS → Prop} {st : Nat → Nat} {fs s : Nat} (hA : Tok A) (hv : Vok A v) (hK : KMt A τ) (hU : UM A st v fs 99 (A.2 14 v) τ) (hf : fs < 2 ^ 31) (hst : ∀ h, h < A.1 0 → st h ≤ 100) (hs : s < A.1 0) (hQ : ∀ τ', FrM τ τ' → UM A (de (A.1 0) st ((zday A st v fs 99 (A.2 14 v) 300 s).2 45) (A.2 3)) v fs 99 (A.2 14 v) τ' → Q (nI (db (A.1 0) st ((zday A st v fs 99 (A.2 14 v) 300 s).2 45) (A.2 3) (A.1 0))) τ') : qX11_goDay τ (nI s) 268435456 (fun σ_1 => qX11_digestDay σ_1 Q) := by
  refine m_goDayF hA hv (by omega) hv.2.1 hf hst hK hU hs ?_
  refine m_dig hA hK hU.2.2.2.2.2.2 hst (ZJ_meals (zday_ZJ hA hv (by omega) hv.2.1 hs)) (fun τ' f hk h38 => hQ τ' f ⟨?_, ?_, ?_, ?_, ?_, ?_, h38⟩)
  · rw [hk 32 (by decide) (by decide)]; exact hU.1
  · rw [hk 33 (by decide) (by decide)]; exact hU.2.1
  · rw [hk 34 (by decide) (by decide)]; exact hU.2.2.1
  · rw [hk 35 (by decide) (by decide)]; exact hU.2.2.2.1
  · rw [hk 36 (by decide) (by decide)]; exact hU.2.2.2.2.1
  · rw [hk 37 (by decide) (by decide)]; exact hU.2.2.2.2.2.1
theorem m_starves_L {h : Nat} {P : Int32 → MS → Prop} (hA : WFA A) (hv : v < A.1 12) (hh : h < A.1 0) : ∀ (m d : Nat) (τ : MS), d + m = 60 → KM A τ → UM A (dst A v seat 0 d) v 0 99 (A.2 14 v) τ → (∀ τ, KM A τ → P (lres (dls (fun b => b.testBit h) A v seat 0 m d)) τ) → qX11_starves_L46 P (m + 1) τ (nI h) (nI (dso (A.1 0) (A.2 13 v) seat d)) (nI (d + 1))
  | 0, d, τ, e, hM, hU, hP => by
    have e0 : d = 60 := by omega
    subst e0
    rw [qX11_starves_L46, if_pos (by decide)]; exact hP τ hM
  | m + 1, d, τ, e, hM, hU, hP => by
    have h10 := hA.1.1
    have w := hA.2.1.2 v hv
    have n60 : ¬ (60 : Int32) < nI (d + 1) := nI_nlt (a := 60) (b := d + 1) (by omega) (by decide)
    rw [qX11_starves_L46, if_neg n60]
    refine m_day1 hA.1 w hM.1 hU (by decide) (dst_le hA.1 d) (dso_lt (by omega)) (fun τ' f hU' => ?_)
    have eb : db (A.1 0) (dst A v seat 0 d) ((zday A (dst A v seat 0 d) v 0 99 (A.2 14 v) 300 (dso (A.1 0) (A.2 13 v) seat d)).2 45) (A.2 3) (A.1 0) = dbt A v seat 0 d := rfl
    have hb := dbt_lt (v := v) (seat := seat) (k := 0) hA.1 (d := d)
    have hM' := hM.fr f
    rw [eb]
    unfold qX11_has
    rw [dls_s] at hP
    by_cases q : (dbt A v seat 0 d).testBit h = true
    · rw [if_pos ((bit1 (by omega) (by omega)).mpr q)]; dsimp only; rw [if_neg (by decide)]
      rw [if_pos q] at hP; exact hP τ' hM'
    · rw [if_neg (fun z => q ((bit1 (by omega) (by omega)).mp z))]; dsimp only; rw [if_pos (by decide), hU'.1]
      refine m_onwS hM'.1.1 (by omega) h10 w.1 (dso_lt (by omega)) ?_
      rw [dso_s, bnd_eq, nI_1]
      rw [if_neg q] at hP
      exact m_starves_L hA hv hh m (d + 1) τ' (by omega) hM' hU' hP
theorem m_fed_L {days : Nat} {P : Int32 → MS → Prop} (hA : WFA A) (hv : v < A.1 12) (h1 : 1 ≤ A.1 0) (hd : days ≤ 30) (hk : k ≤ 10) : ∀ (m d fs : Nat) (τ : MS), d + m = days → KM A τ → UM A (dst A v seat k d) v fs 99 (A.2 14 v) τ → (∀ τ, KM A τ → P (if dls (fun b => !(b == 0)) A v seat k m d = none then 1 else 0) τ) → qX11_areFed_L18 P (m + 1) τ (nI days) (nI k) (nI (dso (A.1 0) (A.2 13 v) seat d)) 1 (nI d)
  | 0, d, fs, τ, e, hM, hU, hP => by
    have e0 : d = days := by omega
    subst e0
    rw [qX11_areFed_L18, if_pos (Int32.le_refl _)]
    have h2 := hP τ hM
    rw [if_pos (show dls (fun b => !(b == 0)) A v seat k 0 d = none from rfl)] at h2
    exact ⟨isB_1, h2⟩
  | m + 1, d, fs, τ, e, hM, hU, hP => by
    have h10 := hA.1.1
    have w := hA.2.1.2 v hv
    have hfs := dfs_ok (k := k) hA.1 h1 (d := d) (i := k)
    rw [qX11_areFed_L18, if_neg (nI_ge (by omega) (by omega)), if_neg (by decide), pk_mul]
    refine ⟨_, m_sit_L hA.1 h1 hM.1 (by omega) hk ?_ k 0 (by omega)⟩
    rw [bnd_eq]
    have f0 : FrM τ (mset τ 36 (nI (dfs (A.2 8) (A.1 0) k d k))) := mset_fr (by decide)
    have hU0 : UM A (dst A v seat k d) v (dfs (A.2 8) (A.1 0) k d k) 99 (A.2 14 v) (mset τ 36 (nI (dfs (A.2 8) (A.1 0) k d k))) := ⟨hU.1, hU.2.1, hU.2.2.1, hU.2.2.2.1, rfl, hU.2.2.2.2.2.1, hU.2.2.2.2.2.2⟩
    refine m_day1 hA.1 w (hM.1.fr f0) hU0 (by omega) (dst_le hA.1 d) (dso_lt (by omega)) (fun τ' f hU' => ?_)
    have eb : db (A.1 0) (dst A v seat k d) ((zday A (dst A v seat k d) v (dfs (A.2 8) (A.1 0) k d k) 99 (A.2 14 v) 300 (dso (A.1 0) (A.2 13 v) seat d)).2 45) (A.2 3) (A.1 0) = dbt A v seat k d := rfl
    have hb := dbt_lt (v := v) (seat := seat) (k := k) hA.1 (d := d)
    have hM' := hM.fr (f0.trans f)
    rw [eb, bnd_eq, hU'.1]
    refine m_onwS hM'.1.1 (by omega) h10 w.1 (dso_lt (by omega)) ?_
    rw [dso_s, bnd_eq, nI_1]
    have l0 : (nI (dbt A v seat k d) = 0) ↔ dbt A v seat k d = 0 := nI_eq (b := 0) (by omega) (by decide)
    rw [dls_s] at hP
    by_cases q : dbt A v seat k d = 0
    · rw [if_pos (l0.mpr q)]
      rw [if_neg (show ¬ (!(dbt A v seat k d == 0)) = true by rw [q]; decide)] at hP
      exact m_fed_L hA hv h1 hd hk m (d + 1) _ τ' (by omega) hM' hU' hP
    · rw [if_neg (fun z => q (l0.mp z))]
      rw [if_pos (show (!(dbt A v seat k d == 0)) = true by simp [q])] at hP
      have h2 := hP τ' hM'
      rw [if_neg (by simp)] at h2
      rw [qX11_areFed_L18, if_pos (show (0 : Int32) = 0 from rfl)]
      split
      · exact ⟨isB_0, h2⟩
      · exact ⟨isB_0, h2⟩
end
