/-! the component's skipping, seeking, stirring -/
section
variable {c : DC} {d : DS} {t l w : Nat} {g : XG} {σ : XS}
theorem x_over {P : Int32 → XS → Prop} (hl : l ≤ 495) (hb : d.1 42 ≤ 310) (hP : P (bI (decide (l = 0) || decide (300 ≤ d.1 42))) (xov d t l w σ)) : qX6_isOver g (xov d t l w σ) P := by
  unfold qX6_isOver qX6_isOver_J17
  rw [xo_3, xo_5]
  have l0 : (nI l = 0) ↔ l = 0 := nI_eq (b := 0) (by omega) (by decide)
  have l1 : (nI (d.1 42) < 300) ↔ d.1 42 < 300 := nI_ltI (b := 300) (by omega) (by decide)
  by_cases a : l = 0
  · rw [if_pos (l0.mpr a)]; simpa [a, bI] using hP
  rw [if_neg (fun q => a (l0.mp q))]
  by_cases b : d.1 42 < 300
  · rw [if_pos (l1.mpr b)]; simpa [a, show ¬ 300 ≤ d.1 42 by omega, bI] using hP
  · rw [if_neg (fun q => b (l1.mp q))]; simpa [a, show 300 ≤ d.1 42 by omega, bI] using hP
/- what of the component stays all day -/
def XB (c : DC) (g : XG) (σ : XS) : Prop := WFc c ∧ nH g = c.1 0 ∧ xTI σ (xC σ) 5 = nI (c.1 11) ∧ (∀ h, h < 10 → (nI h = xSI σ 11 ↔ h = c.1 37)) ∧ ∀ j : Fin (nH g), (hK g j).val = c.2.1 1 j.val ∧ hF0 g j = nI (c.2.1 2 j.val) ∧ hF1 g j = nI (c.2.1 3 j.val) ∧ hF2 g j = nI (c.2.1 4 j.val) ∧ hF3 g j = nI (c.2.1 5 j.val) ∧ xTB σ (xC σ) 1 j.val = nI (c.2.1 8 j.val)
def XV (c : DC) (g : XG) (σ : XS) (v : Fin (nV g)) (x3 : Int32) : Prop := vF0 g v = nI (c.1 32) ∧ vF3 g v = nI (c.1 35) ∧ ∀ j : Fin (nH g), (c.2.2 j.val = true ↔ (xTB σ (xC σ) 0 j.val = -1 ∨ ¬ ((jshr x3 (nI j.val)) &&& 1) = 0 ∨ (¬ vF2 g v = 0 ∧ hK g j = 2)))
theorem x_onw {P : Int32 → XS → Prop} {τ : XS} {u : Fin 3} (hc : WFc c) (hn : nH g = c.1 0) {x k : Nat} (hx : x ≤ 1) (hk : k < c.1 0) (hP : P (nI (zonw c x k)) τ) : qX8_seatBeside g τ u (nI k) (nI x) P := by
  have h10 := hc.2.1
  unfold qX8_seatBeside qX8_seatNext
  rw [hn]
  unfold zonw at hP
  rcases (by omega : x = 0 ∨ x = 1) with rfl | rfl
  · rw [if_pos (show nI 0 = 0 from rfl)]
    rw [if_pos rfl] at hP
    by_cases a : k = 0
    · subst a
      rw [if_pos (show nI 0 ≤ 0 by decide), show nI (c.1 0) - 1 = nI (c.1 0 - 1) from pk_sub (b := 1) hc.1]
      rw [show (0 + (c.1 0 - 1)) % c.1 0 = c.1 0 - 1 from by rw [Nat.zero_add]; exact Nat.mod_eq_of_lt (by omega)] at hP
      exact hP
    · rw [if_neg (nI_nle (by omega) (by omega)), show nI k - 1 = nI (k - 1) from pk_sub (b := 1) (by omega)]
      rw [show k + (c.1 0 - 1) = (k - 1) + c.1 0 by omega, Nat.add_mod_right, Nat.mod_eq_of_lt (by omega)] at hP
      exact hP
  · rw [if_neg (show ¬ nI 1 = 0 by decide), nI_1]
    rw [if_neg (by decide)] at hP
    by_cases a : k + 1 = c.1 0
    · rw [if_pos (nI_le (by omega) (by omega))]
      rw [a, Nat.mod_self] at hP; exact hP
    · rw [if_neg (nI_ge (by omega) (by omega))]
      rw [Nat.mod_eq_of_lt (by omega)] at hP; exact hP
theorem x_next {P : Int32 → XS → Prop} {τ : XS} {u : Fin 3} (hc : WFc c) (hn : nH g = c.1 0) {k : Nat} (hk : k < c.1 0) (hP : P (nI ((k + 1) % c.1 0)) τ) : qX8_seatNext g τ u (nI k) P := by
  have h10 := hc.2.1
  unfold qX8_seatNext
  rw [hn, nI_1]
  by_cases a : k + 1 = c.1 0
  · rw [if_pos (nI_le (by omega) (by omega))]
    rw [a, Nat.mod_self] at hP; exact hP
  · rw [if_neg (nI_ge (by omega) (by omega))]
    rw [Nat.mod_eq_of_lt (by omega)] at hP; exact hP
theorem x_kind {P : Int32 → XS → Prop} {τ : XS} {j : Fin (nH g)} {k : Int32} (h : qX4_isOfKind g τ j k P) : qV_isOfKind g τ j k P := ⟨fun _ => h, fun _ => h, fun _ => h, fun _ => h, fun _ => h⟩
theorem x_deaf {P : Int32 → XS → Prop} {τ : XS} {j : Fin (nH g)} (h : P (if hK g j = 2 then 1 else 0) τ) : qV_isOfKind g τ j 2 P := by
  refine x_kind ?_
  unfold qX4_isOfKind
  rw [if_neg (by decide), if_neg (by decide), if_pos rfl, bnd_eq]; exact h
theorem x_skip {P : Int32 → XS → Prop} {v : Fin (nV g)} {x3 : Int32} (hB : XB c g σ) (hV : XV c g σ v x3) (hd : ZI d) {h : Nat} (hh : h < c.1 0) (hP : P (bI (zskip c d h)) (xov d t l w σ)) : qX6_isSkipped g (xov d t l w σ) v (nI h) x3 P := by
  obtain ⟨hc, hn, _⟩ := hB
  have h10 := hc.2.1
  have ho := hV.2.2 ⟨h, by omega⟩
  have hm := hc.2.2.2.2.2.1
  have hbt := hd.2.2.2.1 h
  have hb1 := hd.1
  have hin : vp_in (nI h) 10 := vp_in_nI (by omega) (by decide)
  have e35 : vF3 g v = nI (c.1 35) := hV.2.1
  have l0 : (nI (c.1 35) ≤ 0) ↔ c.1 35 = 0 := by rw [show (0 : Int32) = nI 0 from rfl, nI_leI (by omega) (by decide)]; omega
  have l1 : (nI (c.1 35) ≤ nI (d.2 46 h)) ↔ c.1 35 ≤ d.2 46 h := nI_leI (by omega) (by omega)
  have hz : zskip c d h = (c.2.2 h || (decide (0 < c.1 35) && decide (c.1 35 ≤ d.2 46 h))) := rfl
  unfold qX6_isSkipped qX8_isStarved qX6_isSkipped_J67
  refine ⟨hin, ?_⟩
  rw [show xgT (xov d t l w σ) (xC (xov d t l w σ)) 0 (nI h) = xTB σ (xC σ) 0 h from xgTN (τ := xov d t l w σ) (by omega)]
  by_cases hA : xTB σ (xC σ) 0 h = -1
  · have : c.2.2 h = true := ho.mpr (Or.inl hA)
    rw [hz, this] at hP
    rw [if_pos hA]; exact hP
  rw [if_neg hA]
  show (if ((jshr x3 (nI h)) &&& 1) = 0 then _ else _)
  by_cases hF' : ¬ ((jshr x3 (nI h)) &&& 1) = 0
  · have : c.2.2 h = true := ho.mpr (Or.inr (Or.inl hF'))
    rw [hz, this] at hP
    rw [if_neg hF']; exact hP
  have hF : ((jshr x3 (nI h)) &&& 1) = 0 := Decidable.not_not.mp hF'
  rw [if_pos hF, e35, xg46 (by omega)]
  have deaf : (c.2.2 h = true → P 1 (xov d t l w σ)) → (c.2.2 h = false → P 0 (xov d t l w σ)) → qX6_isSkipped_J39 g P (xov d t l w σ) v (nI h) := by
    intro p1 p0
    unfold qX6_isSkipped_J39 qX6_isSkipped_J67
    by_cases hG : vF2 g v = 0
    · rw [if_pos hG]
      refine p0 ?_
      cases e : c.2.2 h
      · rfl
      · rcases ho.mp e with q | q | q
        · exact absurd q hA
        · exact absurd hF q
        · exact absurd hG q.1
    rw [if_neg hG]
    have hlt : h < nH g := by omega
    refine ⟨vp_in_nI (by omega) (by omega), fun j hj => ?_⟩
    have ej : j = ⟨h, hlt⟩ := Fin.ext (by rw [hj, nI_clamp (by omega)])
    subst ej
    refine x_deaf ?_
    by_cases hD : hK g ⟨h, hlt⟩ = 2
    · rw [if_pos hD, if_neg (by decide)]
      exact p1 (ho.mpr (Or.inr (Or.inr ⟨hG, hD⟩)))
    · rw [if_neg hD, if_pos rfl]
      refine p0 ?_
      cases e : c.2.2 h
      · rfl
      · rcases ho.mp e with q | q | q
        · exact absurd q hA
        · exact absurd hF q
        · exact absurd q.2 hD
  by_cases q0 : c.1 35 = 0
  · rw [if_pos (l0.mpr q0)]
    refine deaf (fun e => ?_) (fun e => ?_)
    · rw [hz, e] at hP; exact hP
    · rw [hz, e] at hP; simpa [q0, bI] using hP
  rw [if_neg (fun q => q0 (l0.mp q))]
  refine ⟨hin, ?_⟩
  by_cases q1 : c.1 35 ≤ d.2 46 h
  · rw [if_pos (l1.mpr q1)]
    rw [hz] at hP; simpa [q1, show 0 < c.1 35 by omega, bI] using hP
  · rw [if_neg (fun q => q1 (l1.mp q))]
    refine deaf (fun e => ?_) (fun e => ?_)
    · rw [hz, e] at hP; exact hP
    · rw [hz, e] at hP; simpa [q1, bI] using hP
theorem x_seek {P : Int32 → XS → Prop} {v : Fin (nV g)} {x3 : Int32} (hB : XB c g σ) (hV : XV c g σ v x3) (hd : ZI d) : ∀ (m i k : Nat), i + m = c.1 0 → k < c.1 0 → (zseek c d (c.1 32) m k = none → P (-1) (xov d t l w σ)) → (∀ q, zseek c d (c.1 32) m k = some q → P (nI q) (xov d t l w σ)) → qX6_seatServed_L6 g P (m + 1) (xov d t l w σ) v x3 (nI k) (nI i)
  | 0, i, k, e, hk, hn, _ => by
    have e0 : i = c.1 0 := by omega
    rw [qX6_seatServed_L6, hB.2.1, if_pos (nI_le (by omega) (by have := hB.1.2.1; omega))]
    exact hn rfl
  | m + 1, i, k, e, hk, hn, hq => by
    have hc := hB.1
    have h10 := hc.2.1
    have hh := (hc.2.2.2.2.2.2 k hk).2.2.2.2.2.2.2.2.1
    have e8 : xgT (xov d t l w σ) (xC (xov d t l w σ)) 1 (nI k) = nI (c.2.1 8 k) := by
      rw [xgTN (by omega)]; exact (hB.2.2.2.2 ⟨k, by have := hB.2.1; omega⟩).2.2.2.2.2
    rw [qX6_seatServed_L6, hB.2.1, if_neg (nI_ge (by omega) (by omega))]
    refine ⟨vp_in_nI (by omega) (by decide), ?_⟩
    rw [e8]
    refine x_skip hB hV hd hh ?_
    unfold zseek at hn hq
    cases hs : zskip c d (c.2.1 8 k)
    · rw [if_pos (show bI false = 0 from rfl)]
      exact hq k (by rw [hs]; rfl)
    · rw [if_neg (show ¬ bI true = 0 by decide), hV.1]
      refine x_onw hc hB.2.1 hc.2.2.2.1 hk ?_
      rw [bnd_eq, nI_1]
      rw [hs] at hn hq
      exact x_seek hB hV hd m (i + 1) _ (by omega) (zonw_lt hc _ _) hn hq
/- stir -/
theorem ovA_eq {f f' : Nat → Nat} {N : Nat} {q : Nat → Int32} (h : ∀ i, i < N → f i = f' i) : ovA f N q = ovA f' N q := by
  funext i; unfold ovA
  by_cases e : i < N
  · rw [if_pos e, if_pos e, h i e]
  · rw [if_neg e, if_neg e]
theorem xov_eq {d d' : DS} (h1 : d.1 = d'.1) (h39 : ∀ i, i < 5 → d.2 39 i = d'.2 39 i) (h45 : d.2 45 = d'.2 45) (h46 : d.2 46 = d'.2 46) (h47 : d.2 47 = d'.2 47) (h48 : d.2 48 = d'.2 48) : xov d t l w σ = xov d' t l w σ := by
  unfold xov xo1 xo2 xo3
  rw [h1, h45, h46, h47, h48, ovA_eq h39]
theorem zst_2 {k j : Nat} (hj : j ≠ 39) : (zstK d k).2 j = (zstir d).2 j := (va_up_ne _ _ hj).trans (va_up_ne _ _ hj).symm
theorem xov_zst : xov (zstK d 5) t l w σ = xov (zstir d) t l w σ :=
  xov_eq rfl (fun i hi => if_pos hi) (zst_2 (by decide)) (zst_2 (by decide)) (zst_2 (by decide)) (zst_2 (by decide))
theorem x_stir_L {P : XS → Prop} (hl : zleft d ≤ 495) (hP : P (xov (zstir d) t l w σ)) : ∀ (j k : Nat), k + j = 5 → qX6_stir_L16 g P (j + 1) (xov (zstK d k) t l w σ) (nI (zleft d / 5)) (nI (zleft d % 5)) (nI k)
  | 0, k, e => by
    have e0 : k = 5 := by omega
    subst e0
    rw [qX6_stir_L16, if_pos (by decide), xov_zst]; exact hP
  | j + 1, k, e => by
    have ih := x_stir_L hl hP j (k + 1) (by omega)
    have hk : k < 5 := by omega
    rw [qX6_stir_L16, if_neg (nge5 hk)]
    simp only [bnd_eq, qX10_asNumber]
    have hm : zleft d % 5 < 5 := Nat.mod_lt _ (by decide)
    have e1 : (5 : Int32) - nI (zleft d % 5) = nI (5 - zleft d % 5) := pk_sub (a := 5) (by omega)
    rw [e1]
    have key : vp_in (nI k) 5 ∧ qX6_stir_L16 g P (j + 1) (xsSA (xov (zstK d k) t l w σ) 1 (nI k) (nI (zleft d / 5) + nI (if 4 - k < zleft d % 5 then 1 else 0))) (nI (zleft d / 5)) (nI (zleft d % 5)) (nI k + 1) := by
      refine ⟨vp_in_nI hk (by decide), ?_⟩
      rw [nI_add, xov_s39 hk, nI_1]
      have e3 := zstK_s d k
      unfold zlay at e3 ih
      rw [e3]; exact ih
    by_cases h : 4 - k < zleft d % 5
    · rw [if_pos h] at key
      rw [if_neg (nI_nlt (by omega) (by omega)), if_neg (by decide)]; exact key
    · rw [if_neg h] at key
      rw [if_pos (nI_lt (by omega) (by omega)), if_pos rfl]; exact key
theorem x_stir {P : XS → Prop} (hd : ZI d) (hP : P (xov (zstir d) t (zleft d) w σ)) : qX6_stir g (xov d t (zleft d) w σ) P := by
  unfold qX6_stir
  have hl := hd.1
  rw [bnd_eq, bnd_eq, xo_3, show nI (zleft d) / 5 = nI (zleft d / 5) from pk_div (d := 5) (by omega) (by decide) (by decide), show jrem (nI (zleft d)) 5 = nI (zleft d % 5) from jremN (b := 5) (by omega) (by decide) (by decide)]
  refine ⟨6, ?_⟩
  have h := x_stir_L (g := g) (t := t) (l := zleft d) (w := w) (σ := σ) (P := P) (d := d) (by omega) hP 5 0 rfl
  rw [zstK_0] at h; exact h
end
