/-! the component's bites and turns -/
set_option maxHeartbeats 100000 in
theorem dsta_comm (d : DS) {k k' i i' v v' : Nat} (h : k ≠ k') : dsta (dsta d k i v) k' i' v' = dsta (dsta d k' i' v') k i v := by
  refine Prod.ext rfl (funext fun j => ?_)
  show va_up (va_up d.2 k _) k' (va_up (va_up d.2 k _ k') i' v') j = va_up (va_up d.2 k' _) k (va_up (va_up d.2 k' _ k) i v) j
  rw [va_up_ne _ _ (Ne.symm h), va_up_ne _ _ h]
  by_cases e : j = k
  · subst e; rw [va_up_ne _ _ h, va_up_self, va_up_self]
  · by_cases e2 : j = k'
    · subst e2; rw [va_up_self, va_up_ne _ _ e, va_up_self]
    · rw [va_up_ne _ _ e2, va_up_ne _ _ e, va_up_ne _ _ e, va_up_ne _ _ e2]
set_option maxHeartbeats 100000 in
theorem zrow_out (f : Nat → Nat) (b h wh la mu wo w i : Nat) (hw : w < b) (hi : i < 5) : zrow f b h wh la mu wo (5 * w + i) = f (5 * w + i) := by
  unfold zrow
  rw [va_up_ne _ _ (by omega), va_up_ne _ _ (by omega), va_up_ne _ _ (by omega), va_up_ne _ _ (by omega), va_up_ne _ _ (by omega)]
set_option maxHeartbeats 100000 in
theorem zrow_in (f : Nat → Nat) (b h wh la mu wo i : Nat) (hi : i < 5) : zrow f b h wh la mu wo (5 * b + i) = if i = 0 then h else if i = 1 then wh else if i = 2 then la else if i = 3 then mu else wo := by
  unfold zrow
  rcases (by omega : i = 0 ∨ i = 1 ∨ i = 2 ∨ i = 3 ∨ i = 4) with rfl | rfl | rfl | rfl | rfl
  · rw [va_up_ne _ _ (by omega), va_up_ne _ _ (by omega), va_up_ne _ _ (by omega), va_up_ne _ _ (by omega)]; exact va_up_self _ _ _
  · rw [va_up_ne _ _ (by omega), va_up_ne _ _ (by omega), va_up_ne _ _ (by omega)]; exact va_up_self _ _ _
  · rw [va_up_ne _ _ (by omega), va_up_ne _ _ (by omega)]; exact va_up_self _ _ _
  · rw [va_up_ne _ _ (by omega)]; exact va_up_self _ _ _
  · exact va_up_self _ _ _
section
variable {c : DC} {d : DS} {t l w : Nat} {g : XG} {σ : XS}
set_option maxHeartbeats 100000 in
theorem xlog_1 {h wh la mu wo : Nat} {τ : XS} : upd (xo1 (dset d 44 (d.1 44 + wo)) t l τ) 6 (nI (d.1 43 + 1)) = xo1 (zlog d h wh la mu wo) t l τ := by
  funext j
  unfold upd xo1
  by_cases e : j = 6
  · subst e; rfl
  · simp only [e, if_false]; rfl
set_option maxHeartbeats 100000 in
theorem xlog_no {h wh la mu wo : Nat} (hw : ¬ d.1 43 = w) : xsSI (xov (dset d 44 (d.1 44 + wo)) t l w σ) 6 (nI (d.1 43 + 1)) = xov (zlog d h wh la mu wo) t l w σ := by
  refine xs_eq rfl rfl rfl rfl rfl rfl (xlog_1 (h := h) (wh := wh) (la := la) (mu := mu)) ?_ rfl
  show xo2 _ w σ = xo2 _ w σ
  funext j
  by_cases e : j = 13
  · subst e
    show (if w < d.1 43 then ovA (fun i => d.2 48 (5 * w + i)) 5 (xSA σ 13) else xSA σ 13) = (if w < d.1 43 + 1 then ovA (fun i => zrow (d.2 48) (d.1 43) h wh la mu wo (5 * w + i)) 5 (xSA σ 13) else xSA σ 13)
    by_cases q : w < d.1 43
    · rw [if_pos q, if_pos (by omega)]
      funext i; unfold ovA
      by_cases hi : i < 5
      · rw [if_pos hi, if_pos hi]
        show nI (d.2 48 (5 * w + i)) = nI (zrow (d.2 48) (d.1 43) h wh la mu wo (5 * w + i))
        rw [zrow_out _ _ _ _ _ _ _ _ _ q hi]
      · rw [if_neg hi, if_neg hi]
    · rw [if_neg q, if_neg (by omega)]
  · unfold xo2; simp only [e, if_false]; rfl
set_option maxHeartbeats 100000 in
theorem xo3_eq {d d' : DS} (h : d.2 45 = d'.2 45) : xo3 d σ = xo3 d' σ := by unfold xo3; rw [h]
set_option maxHeartbeats 100000 in
theorem look_eq {τ : XS} {a b x y z : Int32} : xsSA (xsSA (xsSA (xsSA (xsSA τ 13 0 a) 13 1 b) 13 2 x) 13 3 y) 13 4 z = xpSA τ 13 (upd (upd (upd (upd (upd (xSA τ 13) 0 a) 1 b) 2 x) 3 y) 4 z) := by
  refine xs_eq rfl rfl rfl rfl rfl rfl rfl ?_ rfl
  funext j
  by_cases e : j = 13
  · subst e; rfl
  · show va_up (va_up (va_up (va_up (va_up _ 13 _) 13 _) 13 _) 13 _) 13 _ j = va_up _ 13 _ j
    rw [va_up_ne _ _ e, va_up_ne _ _ e, va_up_ne _ _ e, va_up_ne _ _ e, va_up_ne _ _ e, va_up_ne _ _ e]
set_option maxHeartbeats 100000 in
theorem xlog_yes {h wh la mu wo : Nat} (hw : d.1 43 = w) : xsSI (xpSA (xov (dset d 44 (d.1 44 + wo)) t l w σ) 13 (upd (upd (upd (upd (upd (xSA (xov (dset d 44 (d.1 44 + wo)) t l w σ) 13) 0 (nI h)) 1 (nI wh)) 2 (nI la)) 3 (nI mu)) 4 (nI wo))) 6 (nI (d.1 43 + 1)) = xov (zlog d h wh la mu wo) t l w σ := by
  refine xs_eq rfl rfl rfl rfl rfl rfl ?_ ?_ ?_
  · exact xlog_1 (h := h) (wh := wh) (la := la) (mu := mu)
  · subst hw
    funext j
    by_cases e : j = 13
    · subst e
      show upd (upd (upd (upd (upd (if d.1 43 < d.1 43 then ovA (fun i => d.2 48 (5 * d.1 43 + i)) 5 (xSA σ 13) else xSA σ 13) 0 (nI h)) 1 (nI wh)) 2 (nI la)) 3 (nI mu)) 4 (nI wo) = (if d.1 43 < d.1 43 + 1 then ovA (fun i => zrow (d.2 48) (d.1 43) h wh la mu wo (5 * d.1 43 + i)) 5 (xSA σ 13) else xSA σ 13)
      rw [if_neg (Nat.lt_irrefl _), if_pos (Nat.lt_succ_self _)]
      funext i; unfold ovA
      by_cases hi : i < 5
      · rw [if_pos hi]
        show _ = nI (zrow (d.2 48) (d.1 43) h wh la mu wo (5 * d.1 43 + i))
        rw [zrow_in _ _ _ _ _ _ _ _ hi]
        rcases (by omega : i = 0 ∨ i = 1 ∨ i = 2 ∨ i = 3 ∨ i = 4) with rfl | rfl | rfl | rfl | rfl <;> rfl
      · rw [if_neg hi]
        unfold upd
        rw [if_neg (by omega), if_neg (by omega), if_neg (by omega), if_neg (by omega), if_neg (by omega)]
    · show va_up (xo2 (dset d 44 (d.1 44 + wo)) (d.1 43) σ) 13 _ j = xo2 (zlog d h wh la mu wo) (d.1 43) σ j
      rw [va_up_ne _ _ e]
      unfold xo2; simp only [e, if_false]; rfl
  · exact xo3_eq rfl
set_option maxHeartbeats 100000 in
theorem nge4 {k : Nat} (h : k < 4) : ¬ (4 : Int32) ≤ nI k := nI_ge (b := 4) h (by decide)
set_option maxHeartbeats 100000 in
theorem nle4 {k : Nat} (h : 4 ≤ k) (hk : k < 2 ^ 31) : (4 : Int32) ≤ nI k := nI_le (a := 4) h hk
set_option maxHeartbeats 100000 in
theorem x_first_L {P : Int32 → XS → Prop} (hl : 0 < zleft d) (hz : zleft d ≤ 495) (hP : P (nI (zfirst d)) (xov d t l w σ)) : ∀ (j k : Nat), k + j = zfirst d → qX6_firstLayer_L2 g P (j + 1) (xov d t l w σ) (nI k)
  | 0, k, e => by
    have e0 : k = zfirst d := by omega
    subst e0
    have h5 := zfirst_lt d
    have hp := zfirst_pos hl
    have hq := zfirst_le d
    rw [qX6_firstLayer_L2]
    by_cases a : 4 ≤ zfirst d
    · rw [if_pos (nle4 a (by omega))]; exact hP
    · rw [if_neg (nge4 (by omega)), xg39 h5, if_neg (nI_ne0 hp (by omega))]
      exact ⟨vp_in_nI h5 (by decide), hP⟩
  | j + 1, k, e => by
    have h5 := zfirst_lt d
    have ih := x_first_L hl hz hP j (k + 1) (by omega)
    have h0 : d.2 39 k = 0 := zfirst_before (by omega)
    rw [qX6_firstLayer_L2, if_neg (nge4 (by omega))]
    refine ⟨vp_in_nI (by omega) (by decide), ?_⟩
    rw [xg39 (by omega), h0, if_pos (show nI 0 = 0 from rfl), bnd_eq, nI_1]
    exact ih
set_option maxHeartbeats 100000 in
theorem x_worth {P : Int32 → XS → Prop} (hB : XB c g σ) (hh : d.1 40 ≤ 300) {wh la mu : Nat} (hw : wh < c.1 0) (hla : la < 5) (hmu : mu ≤ 99) (hP : P (nI (if c.1 11 = 1 ∧ la = 4 ∧ c.2.1 4 wh = 0 then 0 else if d.1 40 < 20 then mu * (1 + la) / 2 else mu * (1 + la))) (xov d t l w σ)) : qX6_worthOf g (xov d t l w σ) (nI mu) (nI la) (nI wh) P := by
  obtain ⟨hc, hn, h11, h37, hr⟩ := hB
  have h10 := hc.2.1
  have hf := hc.2.2.1
  have ht := (hc.2.2.2.2.2.2 wh hw).2.2.2.2.1
  have hm : mu * (1 + la) ≤ 99 * 5 := Nat.mul_le_mul hmu (by omega)
  have e11 : xTI (xov d t l w σ) (xC (xov d t l w σ)) 5 = nI (c.1 11) := h11
  have l11 : (nI (c.1 11) = 0) ↔ c.1 11 = 0 := nI_eq (b := 0) (by omega) (by decide)
  have l4 : (nI la = 4) ↔ la = 4 := nI_eq (b := 4) (by omega) (by decide)
  have lt : (nI (c.2.1 4 wh) = 0) ↔ c.2.1 4 wh = 0 := nI_eq (b := 0) (by omega) (by decide)
  have warm : ¬ (c.1 11 = 1 ∧ la = 4 ∧ c.2.1 4 wh = 0) → qX6_worthOf_J37 g P (xov d t l w σ) (nI mu) (nI la) := by
    intro q
    rw [if_neg q] at hP
    unfold qX6_worthOf_J37
    rw [bnd_eq, show (1 : Int32) + nI la = nI (1 + la) from nI_add 1 la, pk_mul, xo_2, show nI (mu * (1 + la)) / 2 = nI (mu * (1 + la) / 2) from pk_div (d := 2) (by omega) (by decide) (by decide)]
    have lc : (20 ≤ nI (d.1 40)) ↔ 20 ≤ d.1 40 := nI_leI (a := 20) (by decide) (by omega)
    by_cases a : d.1 40 < 20
    · rw [if_neg (fun q => by have := lc.mp q; omega)]
      rw [if_pos a] at hP; exact hP
    · rw [if_pos (lc.mpr (by omega))]
      rw [if_neg a] at hP; exact hP
  unfold qX6_worthOf
  rw [e11]
  by_cases a : c.1 11 = 0
  · rw [if_pos (l11.mpr a)]; exact warm (by omega)
  rw [if_neg (fun q => a (l11.mp q))]
  by_cases b : la = 4
  · rw [if_pos (l4.mpr b)]
    refine ⟨vp_in_nI (by omega) (by omega), fun j hj => ?_⟩
    have ej : j.val = wh := by rw [hj, nI_clamp (by omega)]
    have e4 : hF2 g j = nI (c.2.1 4 wh) := by rw [← ej]; exact (hr j).2.2.2.1
    rw [e4]
    by_cases q : c.2.1 4 wh = 0
    · rw [if_pos (lt.mpr q)]
      rw [if_pos ⟨by omega, b, q⟩] at hP; exact hP
    · rw [if_neg (fun z => q (lt.mp z))]; exact warm (fun z => q z.2.2)
  · rw [if_neg (fun q => b (l4.mp q))]; exact warm (fun z => b z.2.1)
set_option maxHeartbeats 100000 in
theorem x_J158 {P : XS → Prop} {h wh la mu wo : Nat} (hW : ∀ b, b ≤ 600 → (nI b = xSI σ 12 ↔ b = w)) (hb : d.1 43 ≤ 495) (hP : P (xov (zlog d h wh la mu wo) t l w σ)) : (if xSI (xov (dset d 44 (d.1 44 + wo)) t l w σ) 6 = xSI (xov (dset d 44 (d.1 44 + wo)) t l w σ) 12 then (qX6_look g (xov (dset d 44 (d.1 44 + wo)) t l w σ) (nI h) (nI wh) (nI la) (nI mu) (nI wo) fun σ_12 => qX6_takeBite_J158 g P σ_12) else (qX6_takeBite_J158 g P (xov (dset d 44 (d.1 44 + wo)) t l w σ))) := by
  have hw : (xSI (xov (dset d 44 (d.1 44 + wo)) t l w σ) 6 = xSI (xov (dset d 44 (d.1 44 + wo)) t l w σ) 12) ↔ d.1 43 = w := hW (d.1 43) (by omega)
  unfold qX6_takeBite_J158 qX6_look
  simp only [bnd_eq]
  by_cases q : d.1 43 = w
  · rw [if_pos (hw.mpr q)]
    have e := xlog_yes (d := d) (t := t) (l := l) (σ := σ) (h := h) (wh := wh) (la := la) (mu := mu) (wo := wo) q
    rw [look_eq]
    have e6 : ∀ F, xSI (xpSA (xov (dset d 44 (d.1 44 + wo)) t l w σ) 13 F) 6 + 1 = nI (d.1 43 + 1) := fun F => nI_1 (d.1 43)
    rw [e6, e]; exact hP
  · rw [if_neg (fun z => q (hw.mp z))]
    have e := xlog_no (d := d) (t := t) (l := l) (σ := σ) (h := h) (wh := wh) (la := la) (mu := mu) (wo := wo) q
    have e6 : xSI (xov (dset d 44 (d.1 44 + wo)) t l w σ) 6 + 1 = nI (d.1 43 + 1) := nI_1 (d.1 43)
    rw [e6, e]; exact hP
set_option maxHeartbeats 100000 in
theorem x_bite {P : XS → Prop} (hB : XB c g σ) (hW : ∀ b, b ≤ 600 → (nI b = xSI σ 12 ↔ b = w)) (hd : ZI d) (hl0 : 0 < zleft d) {k h : Nat} (hk : k < c.1 0) (eh : c.2.1 8 k = h) (hP : P (xov (zbite c d h) t (zleft (zbite c d h)) w σ)) : qX6_takeBite g (xov d t (zleft d) w σ) (nI h) (nI k) P := by
  have hc := hB.1
  have hn := hB.2.1
  have h10 := hc.2.1
  have hk' := hc.2.2.2.2.2.2 k hk
  have hh : h < c.1 0 := by rw [← eh]; exact hk'.2.2.2.2.2.2.2.2.1
  have e7 : c.2.1 7 h = k := by rw [← eh]; exact hk'.2.2.2.2.2.2.2.2.2.2
  have hb := hc.2.2.2.2.2.2 h hh
  have hl := hd.1
  have h5 := zfirst_lt d
  have h46 := hd.2.2.2.1 h
  have hle := zfirst_le d
  have hlt : h < nH g := by omega
  have r : (hK g ⟨h, hlt⟩).val = c.2.1 1 h ∧ hF0 g ⟨h, hlt⟩ = nI (c.2.1 2 h) ∧ hF1 g ⟨h, hlt⟩ = nI (c.2.1 3 h) ∧ hF2 g ⟨h, hlt⟩ = nI (c.2.1 4 h) ∧ hF3 g ⟨h, hlt⟩ = nI (c.2.1 5 h) ∧ xTB σ (xC σ) 1 h = nI (c.2.1 8 h) := hB.2.2.2.2 ⟨h, hlt⟩
  have e8 : ∀ (d : DS) (t l w k : Nat), k < c.1 0 → xgT (xov d t l w σ) (xC (xov d t l w σ)) 1 (nI k) = nI (c.2.1 8 k) := by
    intro d t l w k hk
    rw [xgTN (by omega)]; exact (hB.2.2.2.2 ⟨k, by omega⟩).2.2.2.2.2
  unfold qX6_takeBite qX8_hermitIn
  rw [e8 _ _ _ _ k hk, eh]
  refine ⟨vp_in_nI (by omega) (by decide), vp_in_nI (by omega) (by omega), fun j hj => ?_⟩
  have ej : j = ⟨h, hlt⟩ := Fin.ext (by rw [hj, nI_clamp (by omega)])
  subst ej
  refine ⟨vp_in_nI (by omega) (by decide), ?_⟩
  rw [xg46 (by omega), nI_1, xov_s46 (by omega), bnd_eq]
  generalize hd1 : dsta d 46 h (d.2 46 h + 1) = d1
  have f46 : d1.2 46 h = d.2 46 h + 1 := by rw [← hd1]; exact va_up_self _ _ _
  have f1 : d1.1 = d.1 := by rw [← hd1]; rfl
  have f39 : d1.2 39 = d.2 39 := by rw [← hd1]; rfl
  have f45 : d1.2 45 = d.2 45 := by rw [← hd1]; rfl
  have fl : zleft d1 = zleft d := by rw [← hd1]; exact zleft_ne _ _ _ _ (by decide)
  have ff : zfirst d1 = zfirst d := by unfold zfirst; rw [f39]
  rw [xg46 (by omega), f46]
  have hwl := zwhom_lt hc d hh
  have hmu1 : zmuch c d h ≤ d.2 39 (zfirst d) := Nat.min_le_right _ _
  have hmu2 : zmuch c d h ≤ c.2.1 5 h := Nat.min_le_left _ _
  have hbl := zbite_left (c := c) (d := d) h
  have last : qX6_takeBite_J52 g P (xov d1 t (zleft d) w σ) (nI h) ⟨h, hlt⟩ (nI (zwhom c d h)) := by
    unfold qX6_takeBite_J52
    refine ⟨_, x_first_L (d := d1) (by omega) (by omega) ?_ (zfirst d1) 0 (by omega)⟩
    rw [ff]
    refine ⟨vp_in_nI h5 (by decide), ?_⟩
    rw [xg39 h5, f39, r.2.2.2.2.1]
    have em : (if nI (d.2 39 (zfirst d)) < nI (c.2.1 5 h) then nI (d.2 39 (zfirst d)) else nI (c.2.1 5 h)) = nI (zmuch c d h) := by
      unfold zmuch
      by_cases q : d.2 39 (zfirst d) < c.2.1 5 h
      · rw [if_pos (nI_lt q (by omega)), Nat.min_eq_right (by omega)]
      · rw [if_neg (nI_nlt (by omega) (by omega)), Nat.min_eq_left (by omega)]
    rw [em, bnd_eq]
    refine x_worth hB (by rw [f1]; exact hd.2.2.2.2.2.2.1) hwl h5 (by omega) ?_
    rw [xg39 h5, f39, pk_sub hmu1, xov_s39 h5, bnd_eq, xo_3, pk_sub (by omega), xov_l, bnd_eq]
    refine ⟨vp_in_nI (by omega) (by decide), ?_⟩
    rw [xg45 (by omega), nI_add, xov_s45 (by omega), bnd_eq, xo_7, nI_add, xov_w, bnd_eq]
    have el : zleft d - zmuch c d h = zleft (zbite c d h) := by omega
    rw [el]
    refine x_J158 hW (by show d1.1 43 ≤ 495; rw [f1]; omega) ?_
    have e45 : (dsta d1 39 (zfirst d) (d.2 39 (zfirst d) - zmuch c d h)).2 45 (zwhom c d h) = d.2 45 (zwhom c d h) := by
      show d1.2 45 _ = _; rw [f45]
    rw [e45, f1, ← hd1, dsta_comm d (k := 46) (k' := 39) (by decide)]
    exact hP
  have nth : ∀ {P : Int32 → XS → Prop} {τ : XS}, 1 ≤ c.2.1 2 h → P (if (d.2 46 h + 1) % c.2.1 2 h = 0 then 1 else 0) τ → qX4_isNth g τ ⟨h, hlt⟩ (nI (d.2 46 h + 1)) P := by
    intro P τ h1 hP
    unfold qX4_isNth
    rw [r.2.1, if_neg (nI_nle (by omega) (by omega)), jremN (by omega) (by omega) (by omega)]
    refine ⟨nI_ne0 (by omega) (by omega), ?_⟩
    have lz : (nI ((d.2 46 h + 1) % c.2.1 2 h) = 0) ↔ (d.2 46 h + 1) % c.2.1 2 h = 0 := nI_eq (b := 0) (by have := Nat.mod_lt (d.2 46 h + 1) (show 0 < c.2.1 2 h by omega); omega) (by decide)
    by_cases q : (d.2 46 h + 1) % c.2.1 2 h = 0
    · rw [if_pos (lz.mpr q)]; rw [if_pos q] at hP; exact hP
    · rw [if_neg (fun z => q (lz.mp z))]; rw [if_neg q] at hP; exact hP
  have own : ¬ c.2.1 1 h = 4 → qX6_takeBite_J52 g P (xov d1 t (zleft d) w σ) (nI h) ⟨h, hlt⟩ (nI h) := by
    intro q
    have ew : zwhom c d h = h := by unfold zwhom; rw [if_neg (fun z => q z.1)]
    rw [ew] at last; exact last
  have kk : ∀ a : Fin 5, hK g ⟨h, hlt⟩ = a → a.val = c.2.1 1 h := by
    intro a e; rw [← e]; exact r.1
  unfold qV_givesAway
  refine ⟨fun e => ?_, fun e => ?_, fun e => ?_, fun e => ?_, fun e => ?_⟩
  · unfold qX4_givesAway; dsimp only; rw [if_pos rfl]; exact own (by have : c.2.1 1 h = 0 := (kk 0 e).symm; omega)
  · unfold qX4_givesAway; dsimp only; rw [if_pos rfl]; exact own (by have : c.2.1 1 h = 1 := (kk 1 e).symm; omega)
  · unfold qX4_givesAway; dsimp only; rw [if_pos rfl]; exact own (by have : c.2.1 1 h = 2 := (kk 2 e).symm; omega)
  · unfold qX4_givesAway; dsimp only; rw [if_pos rfl]; exact own (by have : c.2.1 1 h = 3 := (kk 3 e).symm; omega)
  · have k4 : c.2.1 1 h = 4 := (kk 4 e).symm
    refine ⟨e, nth (hb.2.2.1 (by omega)) ?_⟩
    by_cases f : (d.2 46 h + 1) % c.2.1 2 h = 0
    · rw [if_pos f]
      refine ⟨isB_1, ?_⟩
      dsimp only
      rw [if_neg (by decide)]
      refine x_next hc hn hk ?_
      have hlt2 : (k + 1) % c.1 0 < c.1 0 := Nat.mod_lt _ hc.1
      refine ⟨vp_in_nI (by omega) (by decide), ?_⟩
      have ew : zwhom c d h = c.2.1 8 ((k + 1) % c.1 0) := by unfold zwhom; rw [if_pos ⟨k4, f⟩, e7]
      rw [e8 _ _ _ _ _ hlt2, ← ew]; exact last
    · rw [if_neg f]
      refine ⟨isB_0, ?_⟩
      dsimp only
      rw [if_pos rfl]
      have ew : zwhom c d h = h := by unfold zwhom; rw [if_neg (fun z => f z.2)]
      rw [ew] at last; exact last
set_option maxHeartbeats 100000 in
theorem ztimes_dry {h : Nat} : ∀ (n : Nat) {d : DS}, zleft d = 0 → ztimes c n d h = d
  | 0, _, _ => rfl
  | n + 1, d, e => by
    unfold ztimes
    have e1 : zonce c d h = d := by unfold zonce; rw [if_pos e]
    rw [e1]; exact ztimes_dry n e
set_option maxHeartbeats 100000 in
theorem x_times {P : XS → Prop} (hB : XB c g σ) (hW : ∀ b, b ≤ 600 → (nI b = xSI σ 12 ↔ b = w)) {k h : Nat} (hk : k < c.1 0) (eh : c.2.1 8 k = h) {m : Nat} (hm : m ≤ 3) : ∀ (j i : Nat) (d : DS), ZI d → i + j = m → P (xov (ztimes c j d h) t (zleft (ztimes c j d h)) w σ) → qX6_eat_L58 g P (j + 1) (xov d t (zleft d) w σ) (nI k) (nI h) (nI m) (nI i)
  | 0, i, d, hd, e, hP => by
    rw [qX6_eat_L58, if_pos (nI_le (by omega) (by omega))]; exact hP
  | j + 1, i, d, hd, e, hP => by
    have hl := hd.1
    have hh : h < c.1 0 := by rw [← eh]; exact (hB.1.2.2.2.2.2.2 k hk).2.2.2.2.2.2.2.2.1
    rw [qX6_eat_L58, if_neg (nI_ge (by omega) (by omega)), xo_3]
    by_cases z : zleft d = 0
    · rw [if_pos (by rw [z]; decide)]
      rw [ztimes_dry _ z] at hP; exact hP
    rw [if_neg (nI_nle (by omega) (by omega))]
    refine x_bite hB hW hd (by omega) hk eh ?_
    rw [bnd_eq, nI_1]
    have e1 : zonce c d h = zbite c d h := by unfold zonce; rw [if_neg z]
    unfold ztimes at hP
    rw [e1] at hP
    exact x_times hB hW hk eh hm j (i + 1) _ (zbite_ZI hB.1 hd (by omega) hh) (by omega) hP
set_option maxHeartbeats 100000 in
theorem x_eat {P : XS → Prop} (hB : XB c g σ) (hW : ∀ b, b ≤ 600 → (nI b = xSI σ 12 ↔ b = w)) (hd : ZI d) (h47 : ∀ i, d.2 47 i ≤ d.1 42) {k : Nat} (hk : k < c.1 0) (hP : P (xov (zeat c d (c.2.1 8 k)) t (zleft (zeat c d (c.2.1 8 k))) w σ)) : qX6_eat g (xov d t (zleft d) w σ) (nI k) P := by
  have hc := hB.1
  have hn := hB.2.1
  have h10 := hc.2.1
  generalize eh : c.2.1 8 k = h at hP
  have hh : h < c.1 0 := by rw [← eh]; exact (hc.2.2.2.2.2.2 k hk).2.2.2.2.2.2.2.2.1
  have hb := hc.2.2.2.2.2.2 h hh
  have h4 := h47 h
  have h42 := hd.2.2.2.2.2.1
  have hlt : h < nH g := by omega
  have r : (hK g ⟨h, hlt⟩).val = c.2.1 1 h ∧ hF0 g ⟨h, hlt⟩ = nI (c.2.1 2 h) ∧ hF1 g ⟨h, hlt⟩ = nI (c.2.1 3 h) ∧ hF2 g ⟨h, hlt⟩ = nI (c.2.1 4 h) ∧ hF3 g ⟨h, hlt⟩ = nI (c.2.1 5 h) ∧ xTB σ (xC σ) 1 h = nI (c.2.1 8 h) := hB.2.2.2.2 ⟨h, hlt⟩
  have e8 : ∀ (d : DS) (t l w : Nat), xgT (xov d t l w σ) (xC (xov d t l w σ)) 1 (nI k) = nI h := by
    intro d t l w
    rw [xgTN (by omega), ← eh]; exact (hB.2.2.2.2 ⟨k, by omega⟩).2.2.2.2.2
  unfold qX6_eat
  refine ⟨vp_in_nI (by omega) (by decide), ?_⟩
  rw [bnd_eq, e8]
  refine ⟨vp_in_nI (by omega) (by decide), ?_⟩
  rw [xg47 (by omega), nI_1, xov_s47 (by omega), bnd_eq]
  have hd2 : ZI (zeat0 d h) := by
    refine ⟨?_, ?_, hd.2.2.1, hd.2.2.2.1, hd.2.2.2.2.1, hd.2.2.2.2.2.1, hd.2.2.2.2.2.2.1, ?_⟩
    · unfold zeat0; rw [zleft_ne _ _ _ _ (by decide)]; exact hd.1
    · unfold zeat0; rw [zleft_ne _ _ _ _ (by decide)]; exact hd.2.1
    · intro i
      have e1 : (zeat0 d h).2 47 i = if i = h then d.2 47 h + 1 else d.2 47 i := rfl
      have e2 : (zeat0 d h).1 42 = d.1 42 := rfl
      rw [e1, e2]; have := h47 i; split <;> omega
  unfold zeat at hP
  have f47 : (zeat0 d h).2 47 h = d.2 47 h + 1 := va_up_self _ _ _
  have fl : zleft (zeat0 d h) = zleft d := zleft_ne _ _ _ _ (by decide)
  rw [show dsta d 47 h (d.2 47 h + 1) = zeat0 d h from rfl, ← fl]
  generalize zeat0 d h = d2 at hP hd2 f47 ⊢
  unfold qX8_hermitIn
  rw [e8]
  refine ⟨vp_in_nI (by omega) (by decide), vp_in_nI (by omega) (by omega), fun j hj => ?_⟩
  have ej : j = ⟨h, hlt⟩ := Fin.ext (by rw [hj, nI_clamp (by omega)])
  subst ej
  dsimp only
  rw [xg47 (by omega), f47]
  have key : ∀ v : Nat, v = (if c.2.1 1 h = 3 ∧ d2.2 47 h % c.2.1 2 h = 0 then 1 else 0) → (bnd ((if nI h = (xSI (xov d2 t (zleft d2) w σ) 11) then 1 else 0) : Int32) fun v_9 => qX10_asNumber g (xov d2 t (zleft d2) w σ) v_9 fun r_11 σ_10 => bnd (nI (1 + v) + r_11) fun x3_12 => ∃ f58, qX6_eat_L58 g P f58 σ_10 (nI k) (nI h) x3_12 0) := by
    intro v hv
    have hv1 : v ≤ 1 := by rw [hv]; split <;> omega
    have hm3 : zmany c d2 h ≤ 3 := by
      unfold zmany; rw [← hv]; split <;> omega
    have go : ∃ f58, qX6_eat_L58 g P f58 (xov d2 t (zleft d2) w σ) (nI k) (nI h) (nI (zmany c d2 h)) 0 := ⟨_, x_times hB hW hk eh hm3 (zmany c d2 h) 0 d2 hd2 (by omega) hP⟩
    unfold qX10_asNumber
    simp only [bnd_eq]
    have hq := hB.2.2.2.1 h (by omega)
    unfold zmany at go
    rw [← hv] at go
    by_cases q : h = c.1 37
    · rw [if_pos (show nI h = xSI (xov d2 t (zleft d2) w σ) 11 from hq.mpr q), if_neg (by decide)]
      rw [if_pos q] at go
      rw [show nI (1 + v) + 1 = nI (1 + v + 1) from nI_1 _]; exact go
    · rw [if_neg (show ¬ nI h = xSI (xov d2 t (zleft d2) w σ) 11 from fun z => q (hq.mp z)), if_pos rfl]
      rw [if_neg q] at go
      rw [show nI (1 + v) + 0 = nI (1 + v + 0) from nI_add _ 0]; exact go
  have kk : ∀ a : Fin 5, hK g ⟨h, hlt⟩ = a → a.val = c.2.1 1 h := by
    intro a e; rw [← e]; exact r.1
  have one := fun (q : ¬ c.2.1 1 h = 3) => key 0 (by rw [if_neg (fun z => q z.1)])
  unfold qV_bitesInTurn
  refine ⟨fun e => ?_, fun e => ?_, fun e => ?_, fun e => ?_, fun e => ?_⟩
  · exact one (by have : c.2.1 1 h = 0 := (kk 0 e).symm; omega)
  · exact one (by have : c.2.1 1 h = 1 := (kk 1 e).symm; omega)
  · exact one (by have : c.2.1 1 h = 2 := (kk 2 e).symm; omega)
  · have k3 : c.2.1 1 h = 3 := (kk 3 e).symm
    have h1 : 1 ≤ c.2.1 2 h := hb.2.2.1 (by omega)
    refine ⟨e, ?_⟩
    unfold qX4_isNth
    rw [r.2.1, if_neg (nI_nle (by omega) (by omega)), jremN (by omega) (by omega) (by omega)]
    refine ⟨nI_ne0 (by omega) (by omega), ?_⟩
    have lz : (nI ((d.2 47 h + 1) % c.2.1 2 h) = 0) ↔ (d.2 47 h + 1) % c.2.1 2 h = 0 := nI_eq (b := 0) (by have := Nat.mod_lt (d.2 47 h + 1) (show 0 < c.2.1 2 h by omega); omega) (by decide)
    rw [f47] at key
    by_cases q : (d.2 47 h + 1) % c.2.1 2 h = 0
    · rw [if_pos (lz.mpr q)]; dsimp only; rw [if_neg (by decide)]
      exact key 1 (by rw [if_pos ⟨k3, q⟩])
    · rw [if_neg (fun z => q (lz.mp z))]; dsimp only; rw [if_pos rfl]
      exact key 0 (by rw [if_neg (fun z => q z.2)])
  · exact one (by have : c.2.1 1 h = 4 := (kk 4 e).symm; omega)
end
