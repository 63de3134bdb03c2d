/-! fault() and vow() -/
theorem MF.fr {μ τ : MS} {k fl a b c d : Nat} {P : MS → Prop} (h : MF μ k fl a b c d P) (f : FrM μ τ) : MF τ k fl a b c d P := fun τ2 f2 => h τ2 (f.trans f2)
section
variable {g : XG} {n : Nat} {p : Nat → Nat} {σ : XS} {μ : MS}
theorem rd_C (hX : PgX n p σ) (hM : PgM n p μ) {s k a b c : Nat} (hs : s = 1 ∨ s = 3 ∨ s = 4) (hk : k ≤ n) (hc : c ≤ 1) (hx : k < n → nx s (p k) = if p k = 120 then 5 else 0) : ∃ k' fl d, k' ≤ 16 ∧ fl ≤ 1 ∧ d ≤ 9 ∧ (∀ P τ, XR σ k a b c τ → XF σ k' fl a b c d P → (qX5_comes g τ 120 fun r_5 σ_4 => (if r_5 = 0 then (qX5_read_J102 g P σ_4 r_5 0) else (qX5_digit g σ_4 fun r_7 σ_6 => qX5_read_J102 g P σ_6 r_5 r_7)))) ∧ (∀ P τ f, FrM μ τ → τ.1 28 = nI a → RM b c 0 τ → MF μ k' fl a b c d P → qX11_readVow_L21 (fun σ_6 x1_4 x2_5 => qX11_readVow_J120 P σ_6 x1_4 x2_5) P (f + 4) τ (nI s) (nI k) 1) := by
  have h16 := hX.1
  by_cases q : k < n ∧ p k = 120
  · have hnx : nx s (p k) = 5 := by rw [hx q.1, if_pos q.2]
    by_cases q2 : k + 1 < n ∧ 49 ≤ p (k + 1) ∧ p (k + 1) ≤ 57
    · refine ⟨k + 2, (if k + 2 = n then 1 else 0), p (k + 1) - 48, by omega, by split <;> omega, by omega, fun P τ hr hP => ?_, fun P τ f fr h28 hr hP => ?_⟩
      · refine x_comes (hX.fr hr.1) hr.2.1 hk (ch := 120) (by decide) (fun _ _ => if1 ?_) (fun z => absurd q z)
        have f1 : FrP σ (xsP τ 2 (nI (k + 1))) := hr.1.set (by decide)
        refine x_digit (k := k + 1) (hX.fr f1) rfl (by omega) (fun _ _ => ?_) (fun z => absurd q2 z)
        have f2 : FrP σ (xsP (xsP τ 2 (nI (k + 1))) 2 (nI (k + 1 + 1))) := f1.set (by decide)
        refine x_J102 (x := 1) (k := k + 2) (hX.fr f2) (by omega) (by omega) (by omega) (by omega) ⟨f2, rfl, hr.2.2.1, hr.2.2.2.1, hr.2.2.2.2.1, hr.2.2.2.2.2⟩ ?_
        have e : (if k + 2 = n ∧ (1 = 0 ∨ p (k + 1) - 48 ≠ 0) then 1 else 0) = (if k + 2 = n then 1 else 0) := by
          by_cases z : k + 2 = n
          · rw [if_pos ⟨z, Or.inr (by omega)⟩, if_pos z]
          · rw [if_neg (fun y => z y.1), if_neg z]
        rw [e]; exact hP
      · refine m_rd_go (hM.fr fr) q.1 (by omega) hc hr (by rw [hnx]; decide) (fun τ1 f1 e28 hr1 => ?_)
        rw [hnx]
        rw [if_neg (show ¬ s = 2 by omega), if_neg (show ¬ ((s = 1 ∨ s = 3) ∧ p k = 100) by omega), if_neg (show ¬ s = 5 by omega)] at hr1
        rw [if_neg (show ¬ s = 0 by omega)] at e28
        have hn5 : nx 5 (p (k + 1)) = 6 := by
          show (if 49 ≤ p (k + 1) ∧ p (k + 1) ≤ 57 then 6 else 0) = 6
          rw [if_pos q2.2]
        refine m_rd_go (hM.fr (fr.trans f1)) q2.1 (by decide) hc hr1 (by rw [hn5]; decide) (fun τ2 f2 e28' hr2 => ?_)
        rw [hn5]
        rw [if_neg (show ¬ 5 = 2 by decide), if_neg (show ¬ ((5 = 1 ∨ 5 = 3) ∧ p (k + 1) = 100) by omega), if_pos rfl] at hr2
        rw [if_neg (show ¬ 5 = 0 by decide)] at e28'
        refine m_rd_stop (a := a) (hM.fr (fr.trans (f1.trans f2))) (by omega) (by decide) hc (fun _ => by rw [e28', e28]; exact h28) hr2 (fun _ => rfl) ?_
        have e : (if k + 1 + 1 = n then dn 6 else 0) = (if k + 2 = n then 1 else 0) := rfl
        rw [e]; exact hP.fr (fr.trans (f1.trans f2))
    · refine ⟨k + 1, 0, 0, by omega, by omega, by omega, fun P τ hr hP => ?_, fun P τ f fr h28 hr hP => ?_⟩
      · refine x_comes (hX.fr hr.1) hr.2.1 hk (ch := 120) (by decide) (fun _ _ => if1 ?_) (fun z => absurd q z)
        have f1 : FrP σ (xsP τ 2 (nI (k + 1))) := hr.1.set (by decide)
        refine x_digit (k := k + 1) (hX.fr f1) rfl (by omega) (fun z1 z2 => absurd ⟨z1, z2⟩ q2) (fun _ => ?_)
        refine x_J102 (x := 1) (d := 0) (k := k + 1) (hX.fr f1) (by omega) (by omega) (by omega) (by omega) ⟨f1, rfl, hr.2.2.1, hr.2.2.2.1, hr.2.2.2.2.1, hr.2.2.2.2.2⟩ ?_
        rw [if_neg (by omega)]; exact hP
      · refine m_rd_go (hM.fr fr) q.1 (by omega) hc hr (by rw [hnx]; decide) (fun τ1 f1 e28 hr1 => ?_)
        rw [hnx]
        rw [if_neg (show ¬ s = 2 by omega), if_neg (show ¬ ((s = 1 ∨ s = 3) ∧ p k = 100) by omega), if_neg (show ¬ s = 5 by omega)] at hr1
        rw [if_neg (show ¬ s = 0 by omega)] at e28
        refine m_rd_stop (a := a) (f := f + 1) (hM.fr (fr.trans f1)) (by omega) (by decide) hc (fun _ => by rw [e28]; exact h28) hr1 (fun z => ?_) ?_
        · show (if 49 ≤ p (k + 1) ∧ p (k + 1) ≤ 57 then 6 else 0) = 0
          rw [if_neg (fun y => q2 ⟨z, y⟩)]
        · have e : (if k + 1 = n then dn 5 else 0) = 0 := by split <;> rfl
          rw [e]; exact hP.fr (fr.trans f1)
  · refine ⟨k, (if k = n then 1 else 0), 0, by omega, by split <;> omega, by omega, fun P τ hr hP => ?_, fun P τ f fr h28 hr hP => ?_⟩
    · refine x_comes (hX.fr hr.1) hr.2.1 hk (ch := 120) (by decide) (fun z1 z2 => absurd ⟨z1, z2⟩ q) (fun _ => if0 ?_)
      refine x_J102 (x := 0) (d := 0) (hX.fr hr.1) hk (by omega) (by omega) (by omega) hr ?_
      have e : (if k = n ∧ (0 = 0 ∨ 0 ≠ 0) then 1 else 0) = (if k = n then 1 else 0) := by
        by_cases z : k = n
        · rw [if_pos ⟨z, Or.inl rfl⟩, if_pos z]
        · rw [if_neg (fun y => z y.1), if_neg z]
      rw [e]; exact hP
    · refine m_rd_stop (a := a) (f := f + 2) (hM.fr fr) hk (by omega) hc (fun _ => h28) hr (fun z => ?_) ?_
      · rw [hx z, if_neg (fun y => q ⟨z, y⟩)]
      · have e : dn s = 1 := by unfold dn; rw [if_pos (by omega)]
        rw [e]; exact hP.fr fr
def XRb (σ : XS) (k a b : Nat) (τ : XS) : Prop := FrP σ τ ∧ xP τ 2 = nI k ∧ xP τ 3 = 0 ∧ xP τ 4 = nI a ∧ xP τ 5 = nI b
theorem rd_B (hX : PgX n p σ) (hM : PgM n p μ) {s k a b : Nat} (hs : s = 1 ∨ s = 3) (hk : k ≤ n) (hx : k < n → nx s (p k) = if p k = 100 then 4 else if p k = 120 then 5 else 0) : ∃ k' fl c d, k' ≤ 16 ∧ fl ≤ 1 ∧ c ≤ 1 ∧ d ≤ 9 ∧ (∀ P τ, XRb σ k a b τ → XF σ k' fl a b c d P → qX5_read_J72 g P τ) ∧ (∀ P τ f, FrM μ τ → τ.1 28 = nI a → RM b 0 0 τ → MF μ k' fl a b c d P → qX11_readVow_L21 (fun σ_6 x1_4 x2_5 => qX11_readVow_J120 P σ_6 x1_4 x2_5) P (f + 5) τ (nI s) (nI k) 1) := by
  have h16 := hX.1
  by_cases q : k < n ∧ p k = 100
  · have hnx : nx s (p k) = 4 := by rw [hx q.1, if_pos q.2]
    obtain ⟨k', fl, d, b1, b2, b3, hx1, hm1⟩ := rd_C (g := g) (a := a) (b := b) (c := 1) hX hM (s := 4) (k := k + 1) (by omega) (by omega) (by omega) (fun _ => rfl)
    refine ⟨k', fl, 1, d, b1, b2, by omega, b3, fun P τ hr hP => ?_, fun P τ f fr h28 hr hP => ?_⟩
    · refine x_comes (hX.fr hr.1) hr.2.1 hk (ch := 100) (by decide) (fun _ _ => ⟨isB_1, ?_⟩) (fun z => absurd q z)
      rw [bnd_eq]
      exact hx1 P _ ⟨(hr.1.set (by decide)).set (by decide), rfl, hr.2.2.1, hr.2.2.2.1, hr.2.2.2.2, rfl⟩ hP
    · refine m_rd_go (hM.fr fr) q.1 (by omega) (by omega) hr (by rw [hnx]; decide) (fun τ1 f1 e28 hr1 => ?_)
      rw [hnx]
      rw [if_neg (show ¬ s = 2 by omega), if_pos (show (s = 1 ∨ s = 3) ∧ p k = 100 from ⟨hs, q.2⟩), if_neg (show ¬ s = 5 by omega)] at hr1
      rw [if_neg (show ¬ s = 0 by omega)] at e28
      exact hm1 P τ1 f (fr.trans f1) (e28.trans h28) hr1 hP
  · obtain ⟨k', fl, d, b1, b2, b3, hx1, hm1⟩ := rd_C (g := g) (a := a) (b := b) (c := 0) hX hM (s := s) (k := k) (by omega) hk (by omega) (fun z => by rw [hx z, if_neg (fun y => q ⟨z, y⟩)])
    refine ⟨k', fl, 0, d, b1, b2, by omega, b3, fun P τ hr hP => ?_, fun P τ f fr h28 hr hP => ?_⟩
    · refine x_comes (hX.fr hr.1) hr.2.1 hk (ch := 100) (by decide) (fun z1 z2 => absurd ⟨z1, z2⟩ q) (fun _ => ⟨isB_0, ?_⟩)
      rw [bnd_eq]
      exact hx1 P _ ⟨hr.1.set (by decide), hr.2.1, hr.2.2.1, hr.2.2.2.1, hr.2.2.2.2, rfl⟩ hP
    · exact hm1 P τ (f + 1) fr h28 hr hP
theorem rd_A (hX : PgX n p σ) (hM : PgM n p μ) {a : Nat} (h1 : 1 ≤ n) : ∃ k' fl b c d, k' ≤ 16 ∧ fl ≤ 1 ∧ b ≤ 9 ∧ c ≤ 1 ∧ d ≤ 9 ∧ (∀ P τ, FrP σ τ → xP τ 2 = nI 1 → xP τ 3 = 0 → xP τ 4 = nI a → XF σ k' fl a b c d P → qX5_read_J37 g P τ) ∧ (∀ P τ f, FrM μ τ → τ.1 28 = nI a → RM 0 0 0 τ → MF μ k' fl a b c d P → qX11_readVow_L21 (fun σ_6 x1_4 x2_5 => qX11_readVow_J120 P σ_6 x1_4 x2_5) P (f + 7) τ (nI 1) (nI 1) 1) := by
  have h16 := hX.1
  by_cases q : 1 < n ∧ p 1 = 116
  · have hnx : nx 1 (p 1) = 2 := by
      show (if p 1 = 116 then 2 else _) = 2
      rw [if_pos q.2]
    by_cases q2 : 2 < n ∧ 49 ≤ p 2 ∧ p 2 ≤ 57
    · obtain ⟨k', fl, c, d, b1, b2, b3, b4, hx1, hm1⟩ := rd_B (g := g) (a := a) (b := p 2 - 48) hX hM (s := 3) (k := 3) (by omega) (by omega) (fun _ => rfl)
      refine ⟨k', fl, p 2 - 48, c, d, b1, b2, by omega, b3, b4, fun P τ fr e2 e3 e4 hP => ?_, fun P τ f fr h28 hr hP => ?_⟩
      · refine x_comes (hX.fr fr) e2 h1 (ch := 116) (by decide) (fun _ _ => if1 ?_) (fun z => absurd q z)
        have f1 : FrP σ (xsP τ 2 (nI (1 + 1))) := fr.set (by decide)
        refine x_digit (k := 2) (hX.fr f1) rfl (by omega) (fun _ _ => ?_) (fun z => absurd q2 z)
        have f2 : FrP σ (xsP (xsP τ 2 (nI (1 + 1))) 2 (nI (2 + 1))) := f1.set (by decide)
        unfold qX5_read_J57
        rw [bnd_eq, if_neg (by decide)]
        have e5 : xP (xsP (xsP (xsP τ 2 (nI (1 + 1))) 2 (nI (2 + 1))) 5 (nI (p 2 - 48))) 5 = nI (p 2 - 48) := rfl
        rw [e5, if_neg (nI_ne0 (by omega) (by omega))]
        exact hx1 P _ ⟨f2.set (by decide), rfl, e3, e4, rfl⟩ hP
      · refine m_rd_go (hM.fr fr) q.1 (by omega) (by omega) hr (by rw [hnx]; decide) (fun τ1 f1 e28 hr1 => ?_)
        rw [hnx]
        rw [if_neg (show ¬ 1 = 2 by decide), if_neg (show ¬ ((1 = 1 ∨ 1 = 3) ∧ p 1 = 100) by omega), if_neg (show ¬ 1 = 5 by decide)] at hr1
        rw [if_neg (show ¬ 1 = 0 by decide)] at e28
        have hn2 : nx 2 (p 2) = 3 := by
          show (if 49 ≤ p 2 ∧ p 2 ≤ 57 then 3 else 0) = 3
          rw [if_pos q2.2]
        refine m_rd_go (k := 2) (hM.fr (fr.trans f1)) q2.1 (by decide) (by omega) hr1 (by rw [hn2]; decide) (fun τ2 f2 e28' hr2 => ?_)
        rw [hn2]
        rw [if_pos rfl, if_neg (show ¬ ((2 = 1 ∨ 2 = 3) ∧ p 2 = 100) by omega), if_neg (show ¬ 2 = 5 by decide)] at hr2
        rw [if_neg (show ¬ 2 = 0 by decide)] at e28'
        exact hm1 P τ2 f (fr.trans (f1.trans f2)) (e28'.trans (e28.trans h28)) hr2 hP
    · refine ⟨2, 0, 0, 0, 0, by omega, by omega, by omega, by omega, by omega, fun P τ fr e2 e3 e4 hP => ?_, fun P τ f fr h28 hr hP => ?_⟩
      · refine x_comes (hX.fr fr) e2 h1 (ch := 116) (by decide) (fun _ _ => if1 ?_) (fun z => absurd q z)
        have f1 : FrP σ (xsP τ 2 (nI (1 + 1))) := fr.set (by decide)
        refine x_digit (k := 2) (hX.fr f1) rfl (by omega) (fun z1 z2 => absurd ⟨z1, z2⟩ q2) (fun _ => ?_)
        unfold qX5_read_J57
        rw [bnd_eq, if_neg (by decide)]
        have e5 : xP (xsP (xsP τ 2 (nI (1 + 1))) 5 0) 5 = 0 := rfl
        rw [e5, if_pos rfl]
        exact hP _ (f1.set (by decide)) rfl e3 (fun z => by omega)
      · refine m_rd_go (hM.fr fr) q.1 (by omega) (by omega) hr (by rw [hnx]; decide) (fun τ1 f1 e28 hr1 => ?_)
        rw [hnx]
        rw [if_neg (show ¬ 1 = 2 by decide), if_neg (show ¬ ((1 = 1 ∨ 1 = 3) ∧ p 1 = 100) by omega), if_neg (show ¬ 1 = 5 by decide)] at hr1
        rw [if_neg (show ¬ 1 = 0 by decide)] at e28
        refine m_rd_stop (a := a) (k := 2) (f := f + 4) (hM.fr (fr.trans f1)) (by omega) (by decide) (by omega) (fun _ => by rw [e28]; exact h28) hr1 (fun z => ?_) ?_
        · show (if 49 ≤ p 2 ∧ p 2 ≤ 57 then 3 else 0) = 0
          rw [if_neg (fun y => q2 ⟨z, y⟩)]
        · have e : (if 2 = n then dn 2 else 0) = 0 := by split <;> rfl
          rw [e]; exact hP.fr (fr.trans f1)
  · obtain ⟨k', fl, c, d, b1, b2, b3, b4, hx1, hm1⟩ := rd_B (g := g) (a := a) (b := 0) hX hM (s := 1) (k := 1) (by omega) h1 (fun z => by
      show (if p 1 = 116 then 2 else if p 1 = 100 then 4 else if p 1 = 120 then 5 else 0) = _
      rw [if_neg (fun y => q ⟨z, y⟩)])
    refine ⟨k', fl, 0, c, d, b1, b2, by omega, b3, b4, fun P τ fr e2 e3 e4 hP => ?_, fun P τ f fr h28 hr hP => ?_⟩
    · refine x_comes (hX.fr fr) e2 h1 (ch := 116) (by decide) (fun z1 z2 => absurd ⟨z1, z2⟩ q) (fun _ => if0 ?_)
      unfold qX5_read_J57
      rw [bnd_eq, if_pos rfl]
      exact hx1 P _ ⟨fr.set (by decide), e2, e3, e4, rfl⟩ hP
    · exact hm1 P τ (f + 2) fr h28 hr hP
theorem rd_all (hX : PgX n p σ) (hM : PgM n p μ) : ∃ k' fl a b c d, k' ≤ 16 ∧ fl ≤ 1 ∧ a ≤ 1 ∧ b ≤ 9 ∧ c ≤ 1 ∧ d ≤ 9 ∧ (∀ P, XF σ k' fl a b c d P → qX5_read g σ P) ∧ (∀ P, MF μ k' fl a b c d P → qX11_readVow μ P) := by
  have h16 := hX.1
  have fz : FrP σ (xsP (xsP σ 2 0) 3 0) := ((FrP.refl σ).set (by decide)).set (by decide)
  have fm : FrM μ (mset (mset (mset μ 29 0) 30 0) 31 0) := (mset_fr (by decide)).trans ((mset_fr (by decide)).trans (mset_fr (by decide)))
  have rm : RM 0 0 0 (mset (mset (mset μ 29 0) 30 0) 31 0) := ⟨rfl, rfl, rfl⟩
  have ent : ∀ P, (∃ f, qX11_readVow_L21 (fun σ_6 x1_4 x2_5 => qX11_readVow_J120 P σ_6 x1_4 x2_5) P f (mset (mset (mset μ 29 0) 30 0) 31 0) (nI 0) (nI 0) 1) → qX11_readVow μ P := fun P h => by
    unfold qX11_readVow
    rw [bnd_eq, bnd_eq, bnd_eq]; exact h
  by_cases q : 0 < n ∧ (p 0 = 108 ∨ p 0 = 114)
  · have hnx : nx 0 (p 0) = 1 := by
      show (if p 0 = 108 ∨ p 0 = 114 then 1 else 0) = 1
      rw [if_pos q.2]
    obtain ⟨k', fl, b, c, d, b1, b2, b3, b4, b5, hx1, hm1⟩ := rd_A (g := g) (a := if p 0 = 108 then 1 else 0) hX hM (by omega)
    refine ⟨k', fl, (if p 0 = 108 then 1 else 0), b, c, d, b1, b2, by split <;> omega, b3, b4, b5, fun P hP => ?_, fun P hP => ?_⟩
    · unfold qX5_read
      rw [bnd_eq, bnd_eq]
      refine x_comes (k := 0) (hX.fr fz) rfl (by omega) (ch := 108) (by decide) (fun _ e => ⟨isB_1, ?_⟩) (fun z => ⟨isB_0, ?_⟩)
      · rw [bnd_eq]
        have e4 : xP (xsP (xsP (xsP (xsP σ 2 0) 3 0) 2 (nI (0 + 1))) 4 1) 4 = 1 := rfl
        rw [e4, if_neg (by decide)]
        rw [if_pos e] at hx1 hP
        exact hx1 P _ ((fz.set (by decide)).set (by decide)) rfl rfl rfl hP
      · rw [bnd_eq]
        have e4 : xP (xsP (xsP (xsP σ 2 0) 3 0) 4 0) 4 = 0 := rfl
        rw [e4, if_pos rfl]
        have n108 : ¬ p 0 = 108 := fun y => z ⟨q.1, y⟩
        have e114 : p 0 = 114 := q.2.resolve_left n108
        rw [if_neg n108] at hx1 hP
        refine x_comes (k := 0) (hX.fr (fz.set (by decide))) rfl (by omega) (ch := 114) (by decide) (fun _ _ => if1 ?_) (fun z => absurd ⟨q.1, e114⟩ z)
        exact hx1 P _ ((fz.set (by decide)).set (by decide)) rfl rfl rfl hP
    · refine ent P ⟨8, m_rd_go (hM.fr fm) q.1 (by decide) (by omega) rm (by rw [hnx]; decide) (fun τ1 f1 e28 hr1 => ?_)⟩
      rw [hnx]
      rw [if_neg (show ¬ 0 = 2 by decide), if_neg (show ¬ ((0 = 1 ∨ 0 = 3) ∧ p 0 = 100) by omega), if_neg (show ¬ 0 = 5 by decide)] at hr1
      rw [if_pos rfl] at e28
      refine hm1 P τ1 0 (fm.trans f1) ?_ hr1 hP
      rw [e28]; split <;> rfl
  · refine ⟨0, 0, 0, 0, 0, 0, by omega, by omega, by omega, by omega, by omega, by omega, fun P hP => ?_, fun P hP => ?_⟩
    · unfold qX5_read
      rw [bnd_eq, bnd_eq]
      refine x_comes (k := 0) (hX.fr fz) rfl (by omega) (ch := 108) (by decide) (fun z e => absurd ⟨z, Or.inl e⟩ q) (fun z => ⟨isB_0, ?_⟩)
      rw [bnd_eq]
      have e4 : xP (xsP (xsP (xsP σ 2 0) 3 0) 4 0) 4 = 0 := rfl
      rw [e4, if_pos rfl]
      refine x_comes (k := 0) (hX.fr (fz.set (by decide))) rfl (by omega) (ch := 114) (by decide) (fun z e => absurd ⟨z, Or.inr e⟩ q) (fun _ => if0 ?_)
      exact hP _ (fz.set (by decide)) rfl rfl (fun z => by omega)
    · refine ent P ⟨2, m_rd_stop (a := 0) (f := 0) (hM.fr fm) (by omega) (by decide) (by omega) (fun z => absurd rfl z) rm (fun z => ?_) ?_⟩
      · show (if p 0 = 108 ∨ p 0 = 114 then 1 else 0) = 0
        rw [if_neg (fun y => q ⟨z, y⟩)]
      · have e : (if 0 = n then dn 0 else 0) = 0 := by split <;> rfl
        rw [e]; exact hP.fr fm
end
theorem KX.frP {em : Nat} {A : AS} {g : XG} {σ τ : XS} (h : KX em A g σ) (f : FrP σ τ) : KX em A g τ :=
  ⟨h.1, h.2.1.fr (by rw [f.2.2.2.1]) (by rw [f.2.2.2.2]), h.2.2.1.fr f.2.1 f.2.2.1, h.2.2.2.fr f.1 (by rw [f.2.2.2.1]) (by rw [f.2.2.2.2])⟩
theorem pgX {em : Nat} {A : AS} {g : XG} {σ : XS} (hA : WFA A) (hX : KX em A g σ) : PgX (A.1 17) (A.2 18) σ := ⟨hA.2.2.1.1, hA.2.2.1.2, hX.2.2.1.1, hX.2.2.1.2⟩
theorem pgM {A : AS} {μ : MS} (hA : WFA A) (hM : KM A μ) : PgM (A.1 17) (A.2 18) μ := ⟨hA.2.2.1.1, hA.2.2.1.2, hM.2.2.1.1, hM.2.2.1.2⟩
theorem ok_fault {em : Nat} {g : XG} {σ : XS} {μ : MS} (hK : KK em g σ μ) : qX10_fault g σ (fun r σ1 => qX11_fault μ (fun r2 μ1 => r = r2 ∧ KK em g σ1 μ1)) := by
  obtain ⟨A, hA, hX, hM⟩ := hK
  obtain ⟨k, fl, a, b, c, d, b1, b2, b3, b4, b5, b6, hx, hm⟩ := rd_all (g := g) (pgX hA hX) (pgM hA hM)
  unfold qX10_fault
  refine hx _ (fun τ f e2 e3 _ => ?_)
  unfold qX11_fault
  refine hm _ (fun τ2 f2 e26 e27 _ => ⟨?_, KK.mk hA (hX.frP f) (hM.fr f2)⟩)
  rw [e2, e26]
