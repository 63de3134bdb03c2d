/-! the component's day laid out; least -/
theorem nI_nm1 {n : Nat} (h : n < 2 ^ 31) : ¬ nI n = -1 := by
  intro e
  have := congrArg Int32.toInt e
  rw [nI_toInt h] at this
  have e2 : (-1 : Int32).toInt = -1 := rfl
  rw [e2] at this; omega
section
variable {A : AS} {g : XG} {σ : XS}
theorem x_soupIn_s {P : Int32 → XS → Prop} {f a k v : Nat} {u : Fin 3} (hk : k < 5) (hv : xTB σ u 2 k = nI v) (h : qX8_soupInAll_L4 g P f σ u (nI (a + v)) (nI (k + 1))) : qX8_soupInAll_L4 g P (f + 1) σ u (nI a) (nI k) := by
  rw [qX8_soupInAll_L4, if_neg (nge5 hk), xgTN (by omega), hv, bnd_eq, bnd_eq, nI_add, nI_1]
  exact ⟨vp_in_nI hk (by decide), h⟩
theorem x_soupIn {P : Int32 → XS → Prop} {u : Fin 3} {ly : Nat → Nat} (hl : ∀ k, k < 5 → xTB σ u 2 k = nI (ly k)) (h : P (nI (ly 0 + ly 1 + ly 2 + ly 3 + ly 4)) σ) : qX8_soupInAll g σ u P := by
  refine ⟨6, x_soupIn_s (a := 0) (k := 0) (by decide) (hl 0 (by decide)) (x_soupIn_s (by decide) (hl 1 (by decide)) (x_soupIn_s (by decide) (hl 2 (by decide)) (x_soupIn_s (by decide) (hl 3 (by decide)) (x_soupIn_s (by decide) (hl 4 (by decide)) ?_))))⟩
  rw [Nat.zero_add, qX8_soupInAll_L4, if_pos (by decide)]; exact h
def xbeg (σ : XS) (u : Fin 3) : XS := xsSI (xsSI (xsC σ u) 11 (-1)) 12 (-1)
def bxK (σ : XS) (k : Nat) : XS := (xK σ, xP σ, xS σ, xTI σ, xTB σ, xC σ, xSI σ, fun j => if j = 9 ∨ j = 10 then (fun i => if i < k then 0 else xSA σ j i) else xSA σ j, fun c => if c = 0 then (fun i => if i < k then 0 else xR σ 0 i) else xR σ c)
theorem bxK_0 : bxK σ 0 = σ := by
  refine xs_eq rfl rfl rfl rfl rfl rfl rfl ?_ ?_
  · funext j
    show (if j = 9 ∨ j = 10 then (fun i => if i < 0 then 0 else xSA σ j i) else xSA σ j) = _
    split
    · funext i; simp
    · rfl
  · funext c
    show (if c = 0 then (fun i => if i < 0 then 0 else xR σ 0 i) else xR σ c) = _
    split
    · rename_i e; subst e; funext i; simp
    · rfl
theorem bxK_s {k : Nat} (hk : k < 10) : xsSA (xsSA (xsR (bxK σ k) 0 (nI k) 0) 9 (nI k) 0) 10 (nI k) 0 = bxK σ (k + 1) := by
  unfold xsSA xsR
  rw [nI_clamp (by omega)]
  refine xs_eq rfl rfl rfl rfl rfl rfl rfl ?_ ?_
  · funext j
    show va_up (va_up (xSA (bxK σ k)) 9 _) 10 _ j = _
    by_cases e10 : j = 10
    · subst e10; exact up0
    · rw [va_up_ne _ _ e10]
      by_cases e9 : j = 9
      · subst e9; exact up0
      · rw [va_up_ne _ _ e9]
        show (if j = 9 ∨ j = 10 then _ else xSA σ j) = (if j = 9 ∨ j = 10 then _ else xSA σ j)
        rw [if_neg (by omega), if_neg (by omega)]
  · funext c
    by_cases e : c = 0
    · subst e; exact up0
    · show fup (xR (bxK σ k)) 0 _ c = _
      unfold fup
      rw [if_neg e]
      show (if c = 0 then _ else xR σ c) = (if c = 0 then _ else xR σ c)
      rw [if_neg e, if_neg e]
theorem x_begin_L {P e90 : XS → Prop} (hP : e90 (bxK σ 10)) : ∀ (j k : Nat), k + j = 10 → qX6_begin_L57 g e90 P (j + 1) (bxK σ k) (nI k)
  | 0, k, e => by
    have e0 : k = 10 := by omega
    subst e0
    rw [qX6_begin_L57, if_pos (by decide)]; exact hP
  | j + 1, k, e => by
    rw [qX6_begin_L57, if_neg (nge10 (by omega))]
    refine ⟨vp_in_nI (by omega) (by decide), ?_⟩
    simp only [bnd_eq]
    rw [bxK_s (by omega), nI_1]
    exact x_begin_L hP j (k + 1) (by omega)
theorem x_begin_0 {P e90 : XS → Prop} (hP : e90 (bxK σ 10)) : qX6_begin_L57 g e90 P 11 σ 0 := by
  have h := x_begin_L (g := g) (P := P) hP 10 0 rfl
  rw [bxK_0] at h; exact h
def xbS (σ : XS) (u : Fin 3) (r : Int32) : XS := xsSI (xsSI (xsSI (xsSI (xsSI (xsSI (xpSA (xsC σ u) 1 (va_cpy (xTB σ u 2) (xSA σ 1) 0 0 5)) 2 (xTI σ u 4)) 3 r) 4 0) 5 0) 6 0) 7 0
theorem bx_end {u : Fin 3} {w : Nat} (h9 : ∀ k, k < 5 → xTB σ u 2 k = nI (A.2 9 k)) (h4 : xTI σ u 4 = nI (A.1 10)) : xsSI (xsSI (bxK (xbS σ u (nI (zleft (d0 A)))) 10) 11 (-1)) 12 (-1) = xov (d0 A) 0 (zleft (d0 A)) w (xbeg σ u) := by
  refine xs_eq rfl rfl rfl rfl rfl rfl ?_ ?_ ?_
  · funext j
    show upd (upd (upd (upd (upd (upd (upd (upd (xSI σ) 2 (xTI σ u 4)) 3 (nI (zleft (d0 A)))) 4 0) 5 0) 6 0) 7 0) 11 (-1)) 12 (-1) j = xo1 (d0 A) 0 (zleft (d0 A)) (xbeg σ u) j
    rw [h4]
    by_cases e12 : j = 12
    · subst e12; rfl
    by_cases e11 : j = 11
    · subst e11; rfl
    by_cases e7 : j = 7
    · subst e7; rfl
    by_cases e6 : j = 6
    · subst e6; rfl
    by_cases e5 : j = 5
    · subst e5; rfl
    by_cases e4 : j = 4
    · subst e4; rfl
    by_cases e3 : j = 3
    · subst e3; rfl
    by_cases e2 : j = 2
    · subst e2; rfl
    have eb : xSI (xbeg σ u) j = xSI σ j := by
      show upd (upd (xSI σ) 11 (-1)) 12 (-1) j = _
      rw [pk_un e12, pk_un e11]
    unfold xo1
    rw [pk_un e12, pk_un e11, pk_un e7, pk_un e6, pk_un e5, pk_un e4, pk_un e3, pk_un e2, if_neg e2, if_neg e3, if_neg e4, if_neg e5, if_neg e6, if_neg e7, eb]
  · funext j
    show (if j = 9 ∨ j = 10 then (fun i => if i < 10 then 0 else xSA (xbS σ u (nI (zleft (d0 A)))) j i) else xSA (xbS σ u (nI (zleft (d0 A)))) j) = xo2 (d0 A) w (xbeg σ u) j
    by_cases e9 : j = 9
    · subst e9; rfl
    by_cases e10 : j = 10
    · subst e10; rfl
    rw [if_neg (by omega)]
    show va_up (xSA σ) 1 (va_cpy (xTB σ u 2) (xSA σ 1) 0 0 5) j = _
    by_cases e1 : j = 1
    · subst e1
      show va_cpy (xTB σ u 2) (xSA σ 1) 0 0 5 = ovA (A.2 9) 5 (xSA σ 1)
      funext i; unfold ovA
      by_cases h : i < 5
      · rw [sb_cpy0 h, if_pos h, h9 i h]
      · rw [pk_cpy_out (by omega), if_neg h]
    rw [va_up_ne _ _ e1]
    unfold xo2
    rw [if_neg e1, if_neg e9, if_neg e10]
    by_cases e13 : j = 13
    · subst e13; rw [if_pos rfl, if_neg (by show ¬ w < 0; omega)]; rfl
    · rw [if_neg e13]; rfl
  · funext c
    by_cases e : c = 0
    · subst e; rfl
    · show (if c = 0 then _ else xR σ c) = (if c = 0 then _ else xR σ c)
      rw [if_neg e, if_neg e]
theorem x_begin {P : XS → Prop} {u : Fin 3} {w : Nat} (h9 : ∀ k, k < 5 → xTB σ u 2 k = nI (A.2 9 k)) (h4 : xTI σ u 4 = nI (A.1 10)) (hP : P (xov (d0 A) 0 (zleft (d0 A)) w (xbeg σ u))) : qX6_begin g σ u P := by
  unfold qX6_begin
  simp only [bnd_eq]
  refine x_soupIn (ly := A.2 9) (fun k hk => h9 k hk) ?_
  refine ⟨11, x_begin_0 ?_⟩
  exact (congrArg P (bx_end (w := w) h9 h4)).mpr hP
theorem ux_beg {u : Fin 3} {st : Nat → Nat} (hT : TabA A st (A.2 8) σ u) : UX A st 99 601 (xbeg σ u) := by
  refine ⟨hT, fun h hh => ?_, fun b hb => ?_⟩
  · show nI h = -1 ↔ h = 99
    exact ⟨fun e => absurd e (nI_nm1 (by omega)), fun e => by omega⟩
  · show nI b = -1 ↔ b = 601
    exact ⟨fun e => absurd e (nI_nm1 (by omega)), fun e => by omega⟩
theorem x_goRound {em : Nat} {P : XS → Prop} (hA : Tok A) {v : Fin (nV g)} (hv : Vok A v.val) {st : Nat → Nat} {fs th tu w T seat : Nat} (ht : tu ≤ 9) (hf : fs < 2 ^ 31) (hst : ∀ h, h < A.1 0 → st h ≤ 100) (hG : KXg em A g) (hU : UX A st th w σ) (hs : seat < A.1 0) (hT : T < 2 ^ 31) (hP : ∀ D, D = zday A st v.val fs th tu T seat → P (xov D (D.1 41) (zleft D) w σ)) : qX6_goRound g (xov (d0 A) 0 (zleft (d0 A)) w σ) v (nI tu) (nI seat) (nI fs) (nI T) P :=
  x_run (c := dc A st v.val fs th tu) (ux_XB hA hv (by omega) ht hG hU) (ux_XV hA hv hf hst hG hU) hU.2.2 hT 301 (d0 A) seat (d0_ZJ hA) hs (by show 300 - 0 < 301; decide) hP
theorem x_wholeDay {em : Nat} {P : XS → Prop} (hA : Tok A) {v : Fin (nV g)} (hv : Vok A v.val) {st : Nat → Nat} {fs seat : Nat} {u : Fin 3} (hf : fs < 2 ^ 31) (hst : ∀ h, h < A.1 0 → st h ≤ 100) (hG : KXg em A g) (hT : TabA A st (A.2 8) σ u) (hs : seat < A.1 0) (hP : ∀ D, D = zday A st v.val fs 99 (A.2 14 v.val) 300 seat → P (xov D (D.1 41) (zleft D) 601 (xbeg σ u))) : qX6_wholeDay g σ u v (nI seat) (nI fs) P := by
  unfold qX6_wholeDay
  refine x_begin (A := A) (w := 601) hT.2.2.1 hT.2.2.2.1 ?_
  rw [show vF1 g v = nI (A.2 14 v.val) from (hG.2.2.2.1 v).2.1]
  exact x_goRound (T := 300) hA hv hv.2.1 hf hst hG (ux_beg hT) hs (by decide) hP
/- least -/
def yfl (o : Option Int32) : Int32 := if o.isSome = true then 1 else 0
theorem x_least_L {em : Nat} {P : Int32 → XS → Prop} {d : DS} {t l w : Nat} {st : Nat → Nat} (hA : Tok A) (hG : KXg em A g) (h0 : ∀ h, h < A.1 0 → xTB σ (xC σ) 0 h = sI (st h)) (hst : ∀ h, h < A.1 0 → st h ≤ 100) (hP : P (yleast (A.1 0) st (d.2 45) (A.2 3)) (xov d t l w σ)) : ∀ (j k : Nat), k + j = A.1 0 → qX6_leastSurplus_L6 g P (j + 1) (xov d t l w σ) (yfl (yl st (d.2 45) (A.2 3) k)) ((yl st (d.2 45) (A.2 3) k).getD 0) (nI k)
  | 0, k, e => by
    have e0 : k = A.1 0 := by omega
    subst e0
    have h10 := hA.1
    have eH : nI (nH g) = nI (A.1 0) := congrArg nI hG.1
    rw [qX6_leastSurplus_L6, eH, if_pos (Int32.le_refl _)]
    exact hP
  | j + 1, k, e => by
    have h10 := hA.1
    have hk : k < A.1 0 := by omega
    have ih := x_least_L hA hG h0 hst hP j (k + 1) (by omega)
    have eH : nI (nH g) = nI (A.1 0) := congrArg nI hG.1
    have hn := hG.1
    rw [qX6_leastSurplus_L6, eH, if_neg (nI_ge hk (by omega))]
    refine ⟨vp_in_nI (by omega) (by decide), vp_in_nI (by omega) (by omega), fun j hj => ?_⟩
    have ej : j.val = k := by rw [hj, nI_clamp (by omega)]
    have e3 : hF1 g j = nI (A.2 3 k) := by rw [← ej]; exact (hG.2.2.1 j).2.2.1
    rw [bnd_eq, xg45 (by omega), e3]
    refine ⟨vp_in_nI (by omega) (by decide), ?_⟩
    rw [show xgT (xov d t l w σ) (xC (xov d t l w σ)) 0 (nI k) = sI (st k) from (xgTN (τ := xov d t l w σ) (by omega)).trans (h0 k hk)]
    rw [yl_s] at ih
    by_cases z : st k = 0
    · rw [if_pos ((sI_m1 (hst k hk)).mpr z)]; dsimp only; rw [if_neg (by decide)]
      unfold qX6_leastSurplus_J72
      rw [bnd_eq, nI_1]
      rw [if_pos z] at ih; exact ih
    rw [if_neg (fun q => z ((sI_m1 (hst k hk)).mp q))]; dsimp only; rw [if_pos rfl]
    rw [if_neg z] at ih
    unfold qX6_leastSurplus_J67 qX6_leastSurplus_J72
    cases e : yl st (d.2 45) (A.2 3) k with
    | none =>
      rw [e] at ih
      rw [show yfl none = 0 from rfl, if_pos rfl, bnd_eq, nI_1]
      exact ih
    | some x =>
      rw [e] at ih
      rw [show yfl (some x) = 1 from rfl, if_neg (by decide)]
      show (if x ≤ yoff (d.2 45) (A.2 3) k then _ else _)
      by_cases q : x ≤ yoff (d.2 45) (A.2 3) k
      · rw [if_pos q, bnd_eq, nI_1]
        simp only [if_pos q] at ih; exact ih
      · rw [if_neg q, bnd_eq, nI_1]
        simp only [if_neg q] at ih; exact ih
theorem x_least {em : Nat} {P : Int32 → XS → Prop} {d : DS} {t l w : Nat} {st : Nat → Nat} (hA : Tok A) (hG : KXg em A g) (h0 : ∀ h, h < A.1 0 → xTB σ (xC σ) 0 h = sI (st h)) (hst : ∀ h, h < A.1 0 → st h ≤ 100) (hP : P (yleast (A.1 0) st (d.2 45) (A.2 3)) (xov d t l w σ)) : qX6_leastSurplus g (xov d t l w σ) P :=
  ⟨_, x_least_L hA hG h0 hst hP (A.1 0) 0 (by omega)⟩
theorem x_leastOf {em : Nat} {P : Int32 → XS → Prop} (hA : Tok A) {v : Fin (nV g)} (hv : Vok A v.val) {tu seat : Nat} {u : Fin 3} (ht : tu ≤ 9) (hG : KXg em A g) (hT : TabA A (A.2 6) (A.2 8) σ u) (hs : seat < A.1 0) (hP : ∀ D : DS, P (zlst A v.val tu seat) (xov D (D.1 41) (zleft D) 601 (xbeg σ u))) : qX6_leastOf g σ u v (nI tu) (nI seat) P := by
  unfold qX6_leastOf
  refine x_begin (A := A) (w := 601) hT.2.2.1 hT.2.2.2.1 ?_
  refine x_goRound (fs := 0) (T := 300) hA hv ht (by decide) hA.2.2.2.2.1 hG (ux_beg hT) hs (by decide) (fun D hD => ?_)
  refine x_least hA hG hT.1 hA.2.2.2.2.1 ?_
  have h := hP D
  unfold zlst at h
  rw [← hD] at h; exact h
theorem KX.ov {em : Nat} {d : DS} {t l w : Nat} {u : Fin 3} (h : KX em A g σ) : KX em A g (xov d t l w (xbeg σ u)) := h
end
