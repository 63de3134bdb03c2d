/-! the component's day is the day in numbers: t turns, l soup left, w the bite that is watched -/
def xo1 (d : DS) (t l : Nat) (σ : XS) : Nat → Int32 := fun k => if k = 2 then nI (d.1 40) else if k = 3 then nI l else if k = 4 then nI t else if k = 5 then nI (d.1 42) else if k = 6 then nI (d.1 43) else if k = 7 then nI (d.1 44) else xSI σ k
def xo2 (d : DS) (w : Nat) (σ : XS) : Nat → Nat → Int32 := fun k => if k = 1 then ovA (d.2 39) 5 (xSA σ 1) else if k = 9 then ovA (d.2 46) 10 (xSA σ 9) else if k = 10 then ovA (d.2 47) 10 (xSA σ 10) else if k = 13 then (if w < d.1 43 then ovA (fun i => d.2 48 (5 * w + i)) 5 (xSA σ 13) else xSA σ 13) else xSA σ k
def xo3 (d : DS) (σ : XS) : Fin 11 → Nat → Int32 := fun c => if c = 0 then ovA (d.2 45) 10 (xR σ 0) else xR σ c
def xov (d : DS) (t l w : Nat) (σ : XS) : XS := (xK σ, xP σ, xS σ, xTI σ, xTB σ, xC σ, xo1 d t l σ, xo2 d w σ, xo3 d σ)
theorem xs_eq {σ τ : XS} (a : xK σ = xK τ) (b : xP σ = xP τ) (c : xS σ = xS τ) (d : xTI σ = xTI τ) (e : xTB σ = xTB τ) (f : xC σ = xC τ) (h1 : xSI σ = xSI τ) (h2 : xSA σ = xSA τ) (h3 : xR σ = xR τ) : σ = τ :=
  Prod.ext a (Prod.ext b (Prod.ext c (Prod.ext d (Prod.ext e (Prod.ext f (Prod.ext h1 (Prod.ext h2 h3)))))))
section
variable {c : DC} {d : DS} {t l w : Nat} {g : XG} {σ : XS}
theorem xov_s39 {i v : Nat} (h : i < 5) : xsSA (xov d t l w σ) 1 (nI i) (nI v) = xov (dsta d 39 i v) t l w σ := by
  refine xs_eq rfl rfl rfl rfl rfl rfl rfl ?_ rfl
  show va_up (xo2 d w σ) 1 (upd (ovA (d.2 39) 5 (xSA σ 1)) (nI i).toNatClampNeg (nI v)) = xo2 (dsta d 39 i v) w σ
  rw [nI_clamp (by omega), ovA_upd h]
  funext j
  by_cases e : j = 1
  · subst e; rfl
  · rw [va_up_ne _ _ e]; unfold xo2; simp only [e, if_false]; rfl
theorem xov_s46 {i v : Nat} (h : i < 10) : xsSA (xov d t l w σ) 9 (nI i) (nI v) = xov (dsta d 46 i v) t l w σ := by
  refine xs_eq rfl rfl rfl rfl rfl rfl rfl ?_ rfl
  show va_up (xo2 d w σ) 9 (upd (ovA (d.2 46) 10 (xSA σ 9)) (nI i).toNatClampNeg (nI v)) = xo2 (dsta d 46 i v) w σ
  rw [nI_clamp (by omega), ovA_upd h]
  funext j
  by_cases e : j = 9
  · subst e; rfl
  · rw [va_up_ne _ _ e]; unfold xo2; simp only [e, if_false]; rfl
theorem xov_s47 {i v : Nat} (h : i < 10) : xsSA (xov d t l w σ) 10 (nI i) (nI v) = xov (dsta d 47 i v) t l w σ := by
  refine xs_eq rfl rfl rfl rfl rfl rfl rfl ?_ rfl
  show va_up (xo2 d w σ) 10 (upd (ovA (d.2 47) 10 (xSA σ 10)) (nI i).toNatClampNeg (nI v)) = xo2 (dsta d 47 i v) w σ
  rw [nI_clamp (by omega), ovA_upd h]
  funext j
  by_cases e : j = 10
  · subst e; rfl
  · rw [va_up_ne _ _ e]; unfold xo2; simp only [e, if_false]; rfl
theorem xov_s45 {i v : Nat} (h : i < 10) : xsR (xov d t l w σ) 0 (nI i) (nI v) = xov (dsta d 45 i v) t l w σ := by
  refine xs_eq rfl rfl rfl rfl rfl rfl rfl rfl ?_
  show fup (xo3 d σ) 0 (upd (ovA (d.2 45) 10 (xR σ 0)) (nI i).toNatClampNeg (nI v)) = xo3 (dsta d 45 i v) σ
  rw [nI_clamp (by omega), ovA_upd h]
  funext j
  by_cases e : j = 0
  · subst e; rfl
  · unfold fup xo3; simp only [e, if_false]
theorem xov_1eq {d' : DS} {t' l' k : Nat} {v : Int32} (h : ∀ j, upd (xo1 d t l σ) k v j = xo1 d' t' l' σ j) (h2 : d'.2 = d.2) (h3 : d'.1 43 = d.1 43) : xsSI (xov d t l w σ) k v = xov d' t' l' w σ := by
  refine xs_eq rfl rfl rfl rfl rfl rfl (funext h) ?_ ?_
  · show xo2 d w σ = xo2 d' w σ
    unfold xo2; rw [h2, h3]
  · show xo3 d σ = xo3 d' σ
    unfold xo3; rw [h2]
theorem xov_l {v : Nat} : xsSI (xov d t l w σ) 3 (nI v) = xov d t v w σ := by
  refine xov_1eq (fun j => ?_) rfl rfl
  unfold upd xo1; by_cases e : j = 3
  · subst e; rfl
  · simp only [e, if_false]
theorem xov_t {v : Nat} : xsSI (xov d t l w σ) 4 (nI v) = xov d v l w σ := by
  refine xov_1eq (fun j => ?_) rfl rfl
  unfold upd xo1; by_cases e : j = 4
  · subst e; rfl
  · simp only [e, if_false]
theorem xov_h {v : Nat} : xsSI (xov d t l w σ) 2 (nI v) = xov (dset d 40 v) t l w σ := by
  refine xov_1eq (fun j => ?_) rfl rfl
  unfold upd xo1; by_cases e : j = 2
  · subst e; rfl
  · simp only [e, if_false]; rfl
theorem xov_b {v : Nat} : xsSI (xov d t l w σ) 5 (nI v) = xov (dset d 42 v) t l w σ := by
  refine xov_1eq (fun j => ?_) rfl rfl
  unfold upd xo1; by_cases e : j = 5
  · subst e; rfl
  · simp only [e, if_false]; rfl
theorem xov_w {v : Nat} : xsSI (xov d t l w σ) 7 (nI v) = xov (dset d 44 v) t l w σ := by
  refine xov_1eq (fun j => ?_) rfl rfl
  unfold upd xo1; by_cases e : j = 7
  · subst e; rfl
  · simp only [e, if_false]; rfl
theorem xo_2 : xSI (xov d t l w σ) 2 = nI (d.1 40) := rfl
theorem xo_3 : xSI (xov d t l w σ) 3 = nI l := rfl
theorem xo_4 : xSI (xov d t l w σ) 4 = nI t := rfl
theorem xo_5 : xSI (xov d t l w σ) 5 = nI (d.1 42) := rfl
theorem xo_6 : xSI (xov d t l w σ) 6 = nI (d.1 43) := rfl
theorem xo_7 : xSI (xov d t l w σ) 7 = nI (d.1 44) := rfl
theorem xg39 {i : Nat} (h : i < 5) : xgA (xov d t l w σ) 1 (nI i) = nI (d.2 39 i) := by
  show ovA (d.2 39) 5 (xSA σ 1) (nI i).toNatClampNeg = _; rw [nI_clamp (by omega), ovA_lt h]
theorem xg46 {i : Nat} (h : i < 10) : xgA (xov d t l w σ) 9 (nI i) = nI (d.2 46 i) := by
  show ovA (d.2 46) 10 (xSA σ 9) (nI i).toNatClampNeg = _; rw [nI_clamp (by omega), ovA_lt h]
theorem xg47 {i : Nat} (h : i < 10) : xgA (xov d t l w σ) 10 (nI i) = nI (d.2 47 i) := by
  show ovA (d.2 47) 10 (xSA σ 10) (nI i).toNatClampNeg = _; rw [nI_clamp (by omega), ovA_lt h]
theorem xg45 {i : Nat} (h : i < 10) : xgR (xov d t l w σ) 0 (nI i) = nI (d.2 45 i) := by
  show ovA (d.2 45) 10 (xR σ 0) (nI i).toNatClampNeg = _; rw [nI_clamp (by omega), ovA_lt h]
theorem xgTN {τ : XS} {u : Fin 3} {k i : Nat} (h : i < 2 ^ 31) : xgT τ u k (nI i) = xTB τ u k i := by
  show xTB τ u k (nI i).toNatClampNeg = _; rw [nI_clamp h]
theorem x_over {P : Int32 → XS → Prop} (hl : l ≤ 495) (hb : d.1 42 ≤ 310) (hP : P (bI (decide (l = 0) || decide (300 ≤ d.1 42))) (xov d t l w σ)) : qX6_isOver g (xov d t l w σ) P := by
  unfold qX6_isOver qX6_isOver_J17
  rw [xo_3, xo_5]
  have l0 : (nI l = 0) ↔ l = 0 := nI_eq (b := 0) (by omega) (by decide)
  have l1 : (nI (d.1 42) < 300) ↔ d.1 42 < 300 := nI_ltI (b := 300) (by omega) (by decide)
  by_cases a : l = 0
  · rw [if_pos (l0.mpr a)]; simpa [a, bI] using hP
  rw [if_neg (fun q => a (l0.mp q))]
  by_cases b : d.1 42 < 300
  · rw [if_pos (l1.mpr b)]; simpa [a, show ¬ 300 ≤ d.1 42 by omega, bI] using hP
  · rw [if_neg (fun q => b (l1.mp q))]; simpa [a, show 300 ≤ d.1 42 by omega, bI] using hP
/- what of the component stays all day -/
def XB (c : DC) (g : XG) (σ : XS) : Prop := WFc c ∧ nH g = c.1 0 ∧ xTI σ (xC σ) 5 = nI (c.1 11) ∧ (∀ h, h < 10 → (nI h = xSI σ 11 ↔ h = c.1 37)) ∧ ∀ j : Fin (nH g), (hK g j).val = c.2.1 1 j.val ∧ hF0 g j = nI (c.2.1 2 j.val) ∧ hF1 g j = nI (c.2.1 3 j.val) ∧ hF2 g j = nI (c.2.1 4 j.val) ∧ hF3 g j = nI (c.2.1 5 j.val) ∧ xTB σ (xC σ) 1 j.val = nI (c.2.1 8 j.val)
def XV (c : DC) (g : XG) (σ : XS) (v : Fin (nV g)) (x3 : Int32) : Prop := vF0 g v = nI (c.1 32) ∧ vF3 g v = nI (c.1 35) ∧ ∀ j : Fin (nH g), (c.2.2 j.val = true ↔ (xTB σ (xC σ) 0 j.val = -1 ∨ ¬ ((jshr x3 (nI j.val)) &&& 1) = 0 ∨ (¬ vF2 g v = 0 ∧ hK g j = 2)))
theorem x_onw {P : Int32 → XS → Prop} {τ : XS} {u : Fin 3} (hc : WFc c) (hn : nH g = c.1 0) {x k : Nat} (hx : x ≤ 1) (hk : k < c.1 0) (hP : P (nI (zonw c x k)) τ) : qX8_seatBeside g τ u (nI k) (nI x) P := by
  have h10 := hc.2.1
  unfold qX8_seatBeside qX8_seatNext
  rw [hn]
  unfold zonw at hP
  rcases (by omega : x = 0 ∨ x = 1) with rfl | rfl
  · rw [if_pos (show nI 0 = 0 from rfl)]
    rw [if_pos rfl] at hP
    by_cases a : k = 0
    · subst a
      rw [if_pos (show nI 0 ≤ 0 by decide), show nI (c.1 0) - 1 = nI (c.1 0 - 1) from pk_sub (b := 1) hc.1]
      rw [show (0 + (c.1 0 - 1)) % c.1 0 = c.1 0 - 1 from by rw [Nat.zero_add]; exact Nat.mod_eq_of_lt (by omega)] at hP
      exact hP
    · rw [if_neg (nI_nle (by omega) (by omega)), show nI k - 1 = nI (k - 1) from pk_sub (b := 1) (by omega)]
      rw [show k + (c.1 0 - 1) = (k - 1) + c.1 0 by omega, Nat.add_mod_right, Nat.mod_eq_of_lt (by omega)] at hP
      exact hP
  · rw [if_neg (show ¬ nI 1 = 0 by decide), nI_1]
    rw [if_neg (by decide)] at hP
    by_cases a : k + 1 = c.1 0
    · rw [if_pos (nI_le (by omega) (by omega))]
      rw [a, Nat.mod_self] at hP; exact hP
    · rw [if_neg (nI_ge (by omega) (by omega))]
      rw [Nat.mod_eq_of_lt (by omega)] at hP; exact hP
theorem x_next {P : Int32 → XS → Prop} {τ : XS} {u : Fin 3} (hc : WFc c) (hn : nH g = c.1 0) {k : Nat} (hk : k < c.1 0) (hP : P (nI ((k + 1) % c.1 0)) τ) : qX8_seatNext g τ u (nI k) P := by
  have h10 := hc.2.1
  unfold qX8_seatNext
  rw [hn, nI_1]
  by_cases a : k + 1 = c.1 0
  · rw [if_pos (nI_le (by omega) (by omega))]
    rw [a, Nat.mod_self] at hP; exact hP
  · rw [if_neg (nI_ge (by omega) (by omega))]
    rw [Nat.mod_eq_of_lt (by omega)] at hP; exact hP
theorem x_kind {P : Int32 → XS → Prop} {τ : XS} {j : Fin (nH g)} {k : Int32} (h : qX4_isOfKind g τ j k P) : qV_isOfKind g τ j k P := ⟨fun _ => h, fun _ => h, fun _ => h, fun _ => h, fun _ => h⟩
theorem x_deaf {P : Int32 → XS → Prop} {τ : XS} {j : Fin (nH g)} (h : P (if hK g j = 2 then 1 else 0) τ) : qV_isOfKind g τ j 2 P := by
  refine x_kind ?_
  unfold qX4_isOfKind
  rw [if_neg (by decide), if_neg (by decide), if_pos rfl, bnd_eq]; exact h
theorem x_skip {P : Int32 → XS → Prop} {v : Fin (nV g)} {x3 : Int32} (hB : XB c g σ) (hV : XV c g σ v x3) (hd : ZI d) {h : Nat} (hh : h < c.1 0) (hP : P (bI (zskip c d h)) (xov d t l w σ)) : qX6_isSkipped g (xov d t l w σ) v (nI h) x3 P := by
  obtain ⟨hc, hn, _⟩ := hB
  have h10 := hc.2.1
  have ho := hV.2.2 ⟨h, by omega⟩
  have hm := hc.2.2.2.2.2.1
  have hbt := hd.2.2.2.1 h
  have hb1 := hd.1
  have hin : vp_in (nI h) 10 := vp_in_nI (by omega) (by decide)
  have e35 : vF3 g v = nI (c.1 35) := hV.2.1
  have l0 : (nI (c.1 35) ≤ 0) ↔ c.1 35 = 0 := by rw [show (0 : Int32) = nI 0 from rfl, nI_leI (by omega) (by decide)]; omega
  have l1 : (nI (c.1 35) ≤ nI (d.2 46 h)) ↔ c.1 35 ≤ d.2 46 h := nI_leI (by omega) (by omega)
  have hz : zskip c d h = (c.2.2 h || (decide (0 < c.1 35) && decide (c.1 35 ≤ d.2 46 h))) := rfl
  unfold qX6_isSkipped qX8_isStarved qX6_isSkipped_J67
  refine ⟨hin, ?_⟩
  rw [show xgT (xov d t l w σ) (xC (xov d t l w σ)) 0 (nI h) = xTB σ (xC σ) 0 h from xgTN (τ := xov d t l w σ) (by omega)]
  by_cases hA : xTB σ (xC σ) 0 h = -1
  · have : c.2.2 h = true := ho.mpr (Or.inl hA)
    rw [hz, this] at hP
    rw [if_pos hA, if_neg (by decide)]; exact hP
  rw [if_neg hA, if_pos rfl]
  by_cases hF : ((jshr x3 (nI h)) &&& 1) = 0
  swap
  · have : c.2.2 h = true := ho.mpr (Or.inr (Or.inl hF))
    rw [hz, this] at hP
    rw [if_neg hF]; exact hP
  rw [if_pos hF, e35, xg46 (by omega)]
  have deaf : (c.2.2 h = true → P 1 (xov d t l w σ)) → (c.2.2 h = false → P 0 (xov d t l w σ)) → qX6_isSkipped_J39 g P (xov d t l w σ) v (nI h) := by
    intro p1 p0
    unfold qX6_isSkipped_J39 qX6_isSkipped_J67
    by_cases hG : vF2 g v = 0
    · rw [if_pos hG]
      refine p0 ?_
      cases e : c.2.2 h
      · rfl
      · rcases ho.mp e with q | q | q
        · exact absurd q hA
        · exact absurd hF q
        · exact absurd hG q.1
    rw [if_neg hG]
    refine ⟨vp_in_nI (by omega) (by omega), fun j hj => ?_⟩
    have ej : j = ⟨h, by omega⟩ := Fin.ext (by rw [hj, nI_clamp (by omega)])
    subst ej
    refine x_deaf ?_
    by_cases hD : hK g ⟨h, by omega⟩ = 2
    · rw [if_pos hD, if_neg (by decide)]
      exact p1 (ho.mpr (Or.inr (Or.inr ⟨hG, hD⟩)))
    · rw [if_neg hD, if_pos rfl]
      refine p0 ?_
      cases e : c.2.2 h
      · rfl
      · rcases ho.mp e with q | q | q
        · exact absurd q hA
        · exact absurd hF q
        · exact absurd q.2 hD
  by_cases q0 : c.1 35 = 0
  · rw [if_pos (l0.mpr q0)]
    refine deaf (fun e => ?_) (fun e => ?_)
    · rw [hz, e] at hP; exact hP
    · rw [hz, e] at hP; simpa [q0, bI] using hP
  rw [if_neg (fun q => q0 (l0.mp q))]
  refine ⟨hin, ?_⟩
  by_cases q1 : c.1 35 ≤ d.2 46 h
  · rw [if_pos (l1.mpr q1)]
    rw [hz] at hP; simpa [q1, show 0 < c.1 35 by omega, bI] using hP
  · rw [if_neg (fun q => q1 (l1.mp q))]
    refine deaf (fun e => ?_) (fun e => ?_)
    · rw [hz, e] at hP; exact hP
    · rw [hz, e] at hP; simpa [q1, bI] using hP
theorem x_seek {P : Int32 → XS → Prop} {v : Fin (nV g)} {x3 : Int32} (hB : XB c g σ) (hV : XV c g σ v x3) (hd : ZI d) : ∀ (m i k : Nat), i + m = c.1 0 → k < c.1 0 → (zseek c d (c.1 32) m k = none → P (-1) (xov d t l w σ)) → (∀ q, zseek c d (c.1 32) m k = some q → P (nI q) (xov d t l w σ)) → qX6_seatServed_L6 g P (m + 1) (xov d t l w σ) v x3 (nI k) (nI i)
  | 0, i, k, e, hk, hn, _ => by
    have e0 : i = c.1 0 := by omega
    rw [qX6_seatServed_L6, hB.2.1, if_pos (nI_le (by omega) (by have := hB.1.2.1; omega))]
    exact hn rfl
  | m + 1, i, k, e, hk, hn, hq => by
    have hc := hB.1
    have h10 := hc.2.1
    have hh := (hc.2.2.2.2.2.2 k hk).2.2.2.2.2.2.2.2.1
    have e8 : xgT (xov d t l w σ) (xC (xov d t l w σ)) 1 (nI k) = nI (c.2.1 8 k) := by
      rw [xgTN (by omega)]; exact (hB.2.2.2.2 ⟨k, by have := hB.2.1; omega⟩).2.2.2.2.2
    rw [qX6_seatServed_L6, hB.2.1, if_neg (nI_ge (by omega) (by omega))]
    refine ⟨vp_in_nI (by omega) (by decide), ?_⟩
    rw [e8]
    refine x_skip hB hV hd hh ?_
    unfold zseek at hn hq
    cases hs : zskip c d (c.2.1 8 k)
    · rw [if_pos (show bI false = 0 from rfl)]
      exact hq k (by rw [hs]; rfl)
    · rw [if_neg (show ¬ bI true = 0 by decide), hV.1]
      refine x_onw hc hB.2.1 hc.2.2.2.1 hk ?_
      rw [bnd_eq, nI_1]
      rw [hs] at hn hq
      exact x_seek hB hV hd m (i + 1) _ (by omega) (zonw_lt hc _ _) hn hq
/- stir -/
theorem xov_zst : xov (zstK d 5) t l w σ = xov (zstir d) t l w σ := by
  refine xs_eq rfl rfl rfl rfl rfl rfl rfl ?_ rfl
  funext j
  by_cases e : j = 1
  · subst e
    show ovA (fun i => if i < 5 then zlay (zleft d) i else d.2 39 i) 5 _ = ovA (fun i => zlay (zleft d) i) 5 _
    funext i; unfold ovA; by_cases h : i < 5
    · simp [h]
    · simp [h]
  · show xo2 _ w σ j = xo2 _ w σ j
    unfold xo2; simp only [e, if_false]; rfl
theorem x_stir_L {P : XS → Prop} (hl : zleft d ≤ 495) (hP : P (xov (zstir d) t l w σ)) : ∀ (j k : Nat), k + j = 5 → qX6_stir_L16 g P (j + 1) (xov (zstK d k) t l w σ) (nI (zleft d / 5)) (nI (zleft d % 5)) (nI k)
  | 0, k, e => by
    have e0 : k = 5 := by omega
    subst e0
    rw [qX6_stir_L16, if_pos (by decide), xov_zst]; exact hP
  | j + 1, k, e => by
    have ih := x_stir_L hl hP j (k + 1) (by omega)
    have hk : k < 5 := by omega
    rw [qX6_stir_L16, if_neg (nge5 hk)]
    simp only [bnd_eq, qX10_asNumber]
    have hm : zleft d % 5 < 5 := Nat.mod_lt _ (by decide)
    have e1 : (5 : Int32) - nI (zleft d % 5) = nI (5 - zleft d % 5) := pk_sub (a := 5) (by omega)
    rw [e1]
    have key : vp_in (nI k) 5 ∧ qX6_stir_L16 g P (j + 1) (xsSA (xov (zstK d k) t l w σ) 1 (nI k) (nI (zleft d / 5) + nI (if 4 - k < zleft d % 5 then 1 else 0))) (nI (zleft d / 5)) (nI (zleft d % 5)) (nI k + 1) := by
      refine ⟨vp_in_nI hk (by decide), ?_⟩
      rw [nI_add, xov_s39 hk, nI_1]
      have e3 := zstK_s d k
      unfold zlay at e3 ih
      rw [e3]; exact ih
    by_cases h : 4 - k < zleft d % 5
    · rw [if_pos h] at key
      rw [if_neg (nI_nlt (by omega) (by omega)), if_neg (by decide)]; exact key
    · rw [if_neg h] at key
      rw [if_pos (nI_lt (by omega) (by omega)), if_pos rfl]; exact key
theorem x_stir {P : XS → Prop} (hd : ZI d) (hP : P (xov (zstir d) t (zleft d) w σ)) : qX6_stir g (xov d t (zleft d) w σ) P := by
  unfold qX6_stir
  have hl := hd.1
  rw [bnd_eq, bnd_eq, xo_3, show nI (zleft d) / 5 = nI (zleft d / 5) from pk_div (d := 5) (by omega) (by decide) (by decide), show jrem (nI (zleft d)) 5 = nI (zleft d % 5) from jremN (b := 5) (by omega) (by decide) (by decide)]
  refine ⟨6, ?_⟩
  have h := x_stir_L (g := g) (t := t) (l := zleft d) (w := w) (σ := σ) (P := P) (d := d) (by omega) hP 5 0 rfl
  rw [zstK_0] at h; exact h
end
