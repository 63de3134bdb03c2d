/-! the component's day, from a seat on -/
section
variable {c : DC} {d : DS} {t l w : Nat} {g : XG} {σ : XS}
theorem x_time {P : XS → Prop} {b : Nat} (hb : b ≤ 4) (h40 : d.1 40 ≤ 300) (hP : P (xov (zpass d b) t l w σ)) : qX6_passTime g (xov d t l w σ) (nI b) P := by
  unfold qX6_passTime
  rw [bnd_eq, xo_5, nI_add, xov_b, bnd_eq, xo_2]
  have e : (if nI ((dset d 42 (d.1 42 + b)).1 40) - nI b < 0 then 0 else nI ((dset d 42 (d.1 42 + b)).1 40) - nI b : Int32) = nI (d.1 40 - b) := by
    show (if nI (d.1 40) - nI b < 0 then 0 else nI (d.1 40) - nI b : Int32) = _
    by_cases q : b ≤ d.1 40
    · rw [pk_sub q, if_neg (nI_pos (by omega))]
    · rw [if_pos (pk_sneg (by omega) (by omega)), show d.1 40 - b = 0 by omega]; rfl
  rw [e, xov_h, bnd_eq]
  have e2 : xov (dset (dset d 42 (d.1 42 + b)) 40 (d.1 40 - b)) t l w σ = xov (zpass d b) t l w σ := by
    refine xs_eq rfl rfl rfl rfl rfl rfl ?_ rfl rfl
    funext j
    show xo1 _ t l σ j = xo1 _ t l σ j
    unfold xo1
    by_cases e2 : j = 2
    · subst e2; rfl
    · simp only [e2, if_false]; rfl
  rw [e2]; exact hP
theorem x_hin {P : Fin (nH g) → XS → Prop} (hB : XB c g σ) {k : Nat} (hk : k < c.1 0) (hP : ∀ j : Fin (nH g), j.val = c.2.1 8 k → P j (xov d t l w σ)) : qX8_hermitIn g (xov d t l w σ) (xC (xov d t l w σ)) (nI k) P := by
  have hc := hB.1
  have hn := hB.2.1
  have h10 := hc.2.1
  have hh := (hc.2.2.2.2.2.2 k hk).2.2.2.2.2.2.2.2.1
  have e8 : xgT (xov d t l w σ) (xC (xov d t l w σ)) 1 (nI k) = nI (c.2.1 8 k) := by
    rw [xgTN (by omega)]; exact (hB.2.2.2.2 ⟨k, by omega⟩).2.2.2.2.2
  unfold qX8_hermitIn
  rw [e8]
  refine ⟨vp_in_nI (by omega) (by decide), vp_in_nI (by omega) (by omega), fun j hj => hP j ?_⟩
  rw [hj, nI_clamp (by omega)]
theorem x_beats {P : Int32 → XS → Prop} {τ : XS} (hB : XB c g σ) {j : Fin (nH g)} {h : Nat} (ej : j.val = h) (hP : P (nI (zbeats c h)) τ) : qV_beatsOfTurn g τ j P := by
  subst ej
  have r := hB.2.2.2.2 j
  have kk : ∀ a : Fin 5, hK g j = a → a.val = c.2.1 1 j.val := by
    intro a e; rw [← e]; exact r.1
  unfold zbeats at hP
  have one : ¬ (c.2.1 1 j.val = 1 ∨ c.2.1 1 j.val = 4) → qX4_beatsOfTurn g τ j P := by
    intro q; rw [if_neg q] at hP; exact hP
  have slow : (c.2.1 1 j.val = 1 ∨ c.2.1 1 j.val = 4) → qX7_beatsOfTurn g τ j P := by
    intro q; rw [if_pos q] at hP; unfold qX7_beatsOfTurn; rw [r.2.1]; exact hP
  refine ⟨fun e => ?_, fun e => ?_, fun e => ?_, fun e => ?_, fun e => ?_⟩
  · exact one (by have : c.2.1 1 j.val = 0 := (kk 0 e).symm; omega)
  · exact slow (by have : c.2.1 1 j.val = 1 := (kk 1 e).symm; omega)
  · exact one (by have : c.2.1 1 j.val = 2 := (kk 2 e).symm; omega)
  · exact one (by have : c.2.1 1 j.val = 3 := (kk 3 e).symm; omega)
  · exact slow (by have : c.2.1 1 j.val = 4 := (kk 4 e).symm; omega)
theorem x_J73 {k3 : XS → Fin (nV g) → Int32 → Int32 → Int32 → Int32 → Prop} {P : XS → Prop} {v : Fin (nV g)} {x2 x4 x5 : Int32} (hB : XB c g σ) (h32 : vF0 g v = nI (c.1 32)) (h40 : d.1 40 ≤ 300) {k : Nat} (hk : k < c.1 0) (hP : k3 (xov (zpass d (zbeats c (c.2.1 8 k))) t l w σ) v x2 x4 x5 (nI (zonw c (c.1 32) k))) : qX6_goRound_J73 g k3 P (xov d t l w σ) v x2 x4 x5 (nI k) := by
  have hh := (hB.1.2.2.2.2.2.2 k hk).2.2.2.2.2.2.2.2.1
  unfold qX6_goRound_J73
  refine x_hin hB hk (fun j hj => ?_)
  refine x_beats hB hj ?_
  refine x_time (zbeats_le hB.1 hh).2 h40 ?_
  rw [h32]
  exact x_onw hB.1 hB.2.1 hB.1.2.2.2.1 hk hP
theorem x_run {P : XS → Prop} {v : Fin (nV g)} {x3 : Int32} (hB : XB c g σ) (hV : XV c g σ v x3) (hW : ∀ b, b ≤ 600 → (nI b = xSI σ 12 ↔ b = w)) {T : Nat} (hT2 : T < 2 ^ 31) : ∀ (f : Nat) (d : DS) (k : Nat), ZJ d → k < c.1 0 → 300 - d.1 42 < f → (∀ d', d' = zrun c T f d k → P (xov d' (d'.1 41) (zleft d') w σ)) → ∃ fm, qX6_goRound_L3 g P fm (xov d (d.1 41) (zleft d) w σ) v (nI (c.1 33)) x3 (nI T) (nI k)
  | 0, _, _, _, _, h, _ => by omega
  | f + 1, d, k, hd, hk, hf, hP => by
    have hc := hB.1
    have h41 : d.1 41 ≤ d.1 42 := hd.1.2.2.2.2.1
    have h42 := hd.2.1
    have hl := hd.1.1
    have h9 := hc.2.2.2.2.1
    unfold zrun at hP
    by_cases a : T ≤ d.1 41
    · simp only [if_pos a] at hP
      refine ⟨1, ?_⟩
      rw [qX6_goRound_L3, xo_4, if_pos (nI_le a (by omega))]; exact hP d rfl
    simp only [if_neg a] at hP
    by_cases b : zleft d = 0 ∨ 300 ≤ d.1 42
    · simp only [if_pos b] at hP
      refine ⟨1, ?_⟩
      rw [qX6_goRound_L3, xo_4, if_neg (nI_ge (by omega) hT2)]
      refine x_over (by omega) (by omega) ?_
      have e : (decide (zleft d = 0) || decide (300 ≤ d.1 42)) = true := by rcases b with b | b <;> simp [b]
      rw [e, if_neg (show ¬ bI true = 0 by decide)]; exact hP d rfl
    simp only [if_neg b] at hP
    have enter : ∀ fm, (qX6_seatServed g (xov d (d.1 41) (zleft d) w σ) v (nI k) x3 fun r_4 σ_3 => (if r_4 = (-1) then (P σ_3) else (bnd (xsSI σ_3 4 ((xSI σ_3 4) + 1)) fun σ_5 => (if nI (c.1 33) ≤ 0 then (qX6_goRound_J67 g (fun z0 z1 z2 z3 z4 z5 => qX6_goRound_L3 g P fm z0 z1 z2 z3 z4 z5) P σ_5 v (nI (c.1 33)) x3 (nI T) r_4) else ((¬ nI (c.1 33) = 0) ∧ ((if (jrem (xSI σ_5 4) (nI (c.1 33))) = 0 then (qX6_stir g σ_5 fun σ_6 => qX6_goRound_J73 g (fun z0 z1 z2 z3 z4 z5 => qX6_goRound_L3 g P fm z0 z1 z2 z3 z4 z5) P σ_6 v (nI (c.1 33)) x3 (nI T) r_4) else (qX6_goRound_J67 g (fun z0 z1 z2 z3 z4 z5 => qX6_goRound_L3 g P fm z0 z1 z2 z3 z4 z5) P σ_5 v (nI (c.1 33)) x3 (nI T) r_4)))))))) → qX6_goRound_L3 g P (fm + 1) (xov d (d.1 41) (zleft d) w σ) v (nI (c.1 33)) x3 (nI T) (nI k) := by
      intro fm h
      rw [qX6_goRound_L3, xo_4, if_neg (nI_ge (by omega) hT2)]
      refine x_over (by omega) (by omega) ?_
      have e : (decide (zleft d = 0) || decide (300 ≤ d.1 42)) = false := by simp; omega
      rw [e, if_pos (show bI false = 0 from rfl)]; exact h
    cases e : zseek c d (c.1 32) (c.1 0) k with
    | none =>
      simp only [e] at hP
      refine ⟨1, enter 0 ⟨_, x_seek hB hV hd.1 (c.1 0) 0 k (by omega) hk (fun _ => ?_) (fun q eq => by rw [e] at eq; exact absurd eq (by simp))⟩⟩
      rw [if_pos rfl]; exact hP d rfl
    | some q =>
      simp only [e] at hP
      have hq := zseek_lt hc _ _ q hk e
      have hh := (hc.2.2.2.2.2.2 q hq).2.2.2.2.2.2.2.2.1
      have s := zserve_ZJ hc hd (by omega) hq
      have ha := zact_ZI hc hd hq
      have h40 : (zact c d q).1 40 ≤ 300 := by rw [ha.2.2.2.1]; exact hd.1.2.2.2.2.2.2.1
      obtain ⟨fm, h1⟩ := x_run hB hV hW hT2 f (zserve c d q) (zonw c (c.1 32) q) s.1 (zonw_lt hc _ _) (by omega) hP
      have es : (zserve c d q).1 41 = d.1 41 + 1 := by
        show (zact c d q).1 41 + 1 = _; rw [ha.2.1]
      have el : zleft (zserve c d q) = zleft (zact c d q) := zpass_left _ _
      rw [es, el] at h1
      have h2 : qX6_goRound_J73 g (fun z0 z1 z2 z3 z4 z5 => qX6_goRound_L3 g P fm z0 z1 z2 z3 z4 z5) P (xov (zact c d q) (d.1 41 + 1) (zleft (zact c d q)) w σ) v (nI (c.1 33)) x3 (nI T) (nI q) := x_J73 hB hV.1 h40 hq h1
      refine ⟨fm + 1, enter fm ⟨_, x_seek hB hV hd.1 (c.1 0) 0 k (by omega) hk (fun z => by rw [e] at z; exact absurd z (by simp)) (fun q' eq => ?_)⟩⟩
      rw [e] at eq; injection eq with eq; subst eq
      rw [if_neg (show ¬ nI q = -1 by intro z; have := congrArg Int32.toInt z; rw [nI_toInt (by have := hc.2.1; omega)] at this; revert this; show ¬ (q : Int) = -1; omega)]
      rw [bnd_eq, xo_4, nI_1, xov_t]
      have l0 : (nI (c.1 33) ≤ 0) ↔ c.1 33 = 0 := by rw [show (0 : Int32) = nI 0 from rfl, nI_leI (by omega) (by decide)]; omega
      have eat : zact c d q = zeat c d (c.2.1 8 q) → qX6_goRound_J67 g (fun z0 z1 z2 z3 z4 z5 => qX6_goRound_L3 g P fm z0 z1 z2 z3 z4 z5) P (xov d (d.1 41 + 1) (zleft d) w σ) v (nI (c.1 33)) x3 (nI T) (nI q) := by
        intro e1
        unfold qX6_goRound_J67
        refine x_eat hB hW hd.1 hd.2.2 hq ?_
        rw [← e1]; exact h2
      by_cases z : c.1 33 = 0
      · rw [if_pos (l0.mpr z)]
        exact eat (by unfold zact; rw [if_neg (by omega)])
      rw [if_neg (fun q => z (l0.mp q))]
      refine ⟨nI_ne0 (by omega) (by omega), ?_⟩
      rw [xo_4, jremN (by omega) (by omega) (by omega)]
      have hm : (d.1 41 + 1) % c.1 33 < c.1 33 := Nat.mod_lt _ (by omega)
      have lz : (nI ((d.1 41 + 1) % c.1 33) = 0) ↔ (d.1 41 + 1) % c.1 33 = 0 := nI_eq (b := 0) (by omega) (by decide)
      by_cases r : (d.1 41 + 1) % c.1 33 = 0
      · rw [if_pos (lz.mpr r)]
        have e1 : zact c d q = zstir d := by unfold zact; rw [if_pos ⟨by omega, r⟩]
        refine x_stir hd.1 ?_
        rw [e1, zstir_left] at h2; exact h2
      · rw [if_neg (fun q => r (lz.mp q))]
        exact eat (by unfold zact; rw [if_neg (fun q => r q.2)])
end
