/-! the component's day is the day in numbers: t turns, l soup left, w the bite that is watched -/
def xo1 (d : DS) (t l : Nat) (σ : XS) : Nat → Int32 := fun k => if k = 2 then nI (d.1 40) else if k = 3 then nI l else if k = 4 then nI t else if k = 5 then nI (d.1 42) else if k = 6 then nI (d.1 43) else if k = 7 then nI (d.1 44) else xSI σ k
def xo2 (d : DS) (w : Nat) (σ : XS) : Nat → Nat → Int32 := fun k => if k = 1 then ovA (d.2 39) 5 (xSA σ 1) else if k = 9 then ovA (d.2 46) 10 (xSA σ 9) else if k = 10 then ovA (d.2 47) 10 (xSA σ 10) else if k = 13 then (if w < d.1 43 then ovA (fun i => d.2 48 (5 * w + i)) 5 (xSA σ 13) else xSA σ 13) else xSA σ k
def xo3 (d : DS) (σ : XS) : Fin 11 → Nat → Int32 := fun c => if c = 0 then ovA (d.2 45) 10 (xR σ 0) else xR σ c
def xov (d : DS) (t l w : Nat) (σ : XS) : XS := (xK σ, xP σ, xS σ, xTI σ, xTB σ, xC σ, xo1 d t l σ, xo2 d w σ, xo3 d σ)
theorem xs_eq {σ τ : XS} (a : xK σ = xK τ) (b : xP σ = xP τ) (c : xS σ = xS τ) (d : xTI σ = xTI τ) (e : xTB σ = xTB τ) (f : xC σ = xC τ) (h1 : xSI σ = xSI τ) (h2 : xSA σ = xSA τ) (h3 : xR σ = xR τ) : σ = τ :=
  Prod.ext a (Prod.ext b (Prod.ext c (Prod.ext d (Prod.ext e (Prod.ext f (Prod.ext h1 (Prod.ext h2 h3)))))))
section
variable {c : DC} {d : DS} {t l w : Nat} {g : XG} {σ : XS}
theorem xov_s39 {i v : Nat} (h : i < 5) : xsSA (xov d t l w σ) 1 (nI i) (nI v) = xov (dsta d 39 i v) t l w σ := by
  refine xs_eq rfl rfl rfl rfl rfl rfl rfl ?_ rfl
  show va_up (xo2 d w σ) 1 (upd (ovA (d.2 39) 5 (xSA σ 1)) (nI i).toNatClampNeg (nI v)) = xo2 (dsta d 39 i v) w σ
  rw [nI_clamp (by omega), ovA_upd h]
  funext j
  by_cases e : j = 1
  · subst e; rfl
  · rw [va_up_ne _ _ e]; unfold xo2; simp only [e, if_false]; rfl
theorem xov_s46 {i v : Nat} (h : i < 10) : xsSA (xov d t l w σ) 9 (nI i) (nI v) = xov (dsta d 46 i v) t l w σ := by
  refine xs_eq rfl rfl rfl rfl rfl rfl rfl ?_ rfl
  show va_up (xo2 d w σ) 9 (upd (ovA (d.2 46) 10 (xSA σ 9)) (nI i).toNatClampNeg (nI v)) = xo2 (dsta d 46 i v) w σ
  rw [nI_clamp (by omega), ovA_upd h]
  funext j
  by_cases e : j = 9
  · subst e; rfl
  · rw [va_up_ne _ _ e]; unfold xo2; simp only [e, if_false]; rfl
theorem xov_s47 {i v : Nat} (h : i < 10) : xsSA (xov d t l w σ) 10 (nI i) (nI v) = xov (dsta d 47 i v) t l w σ := by
  refine xs_eq rfl rfl rfl rfl rfl rfl rfl ?_ rfl
  show va_up (xo2 d w σ) 10 (upd (ovA (d.2 47) 10 (xSA σ 10)) (nI i).toNatClampNeg (nI v)) = xo2 (dsta d 47 i v) w σ
  rw [nI_clamp (by omega), ovA_upd h]
  funext j
  by_cases e : j = 10
  · subst e; rfl
  · rw [va_up_ne _ _ e]; unfold xo2; simp only [e, if_false]; rfl
theorem xov_s45 {i v : Nat} (h : i < 10) : xsR (xov d t l w σ) 0 (nI i) (nI v) = xov (dsta d 45 i v) t l w σ := by
  refine xs_eq rfl rfl rfl rfl rfl rfl rfl rfl ?_
  show fup (xo3 d σ) 0 (upd (ovA (d.2 45) 10 (xR σ 0)) (nI i).toNatClampNeg (nI v)) = xo3 (dsta d 45 i v) σ
  rw [nI_clamp (by omega), ovA_upd h]
  funext j
  by_cases e : j = 0
  · subst e; rfl
  · unfold fup xo3; simp only [e, if_false]
theorem xov_1eq {d' : DS} {t' l' k : Nat} {v : Int32} (h : ∀ j, upd (xo1 d t l σ) k v j = xo1 d' t' l' σ j) (h2 : d'.2 = d.2) (h3 : d'.1 43 = d.1 43) : xsSI (xov d t l w σ) k v = xov d' t' l' w σ := by
  refine xs_eq rfl rfl rfl rfl rfl rfl (funext h) ?_ ?_
  · show xo2 d w σ = xo2 d' w σ
    unfold xo2; rw [h2, h3]
  · show xo3 d σ = xo3 d' σ
    unfold xo3; rw [h2]
theorem xov_l {v : Nat} : xsSI (xov d t l w σ) 3 (nI v) = xov d t v w σ := by
  refine xov_1eq (fun j => ?_) rfl rfl
  unfold upd xo1; by_cases e : j = 3
  · subst e; rfl
  · simp only [e, if_false]
theorem xov_t {v : Nat} : xsSI (xov d t l w σ) 4 (nI v) = xov d v l w σ := by
  refine xov_1eq (fun j => ?_) rfl rfl
  unfold upd xo1; by_cases e : j = 4
  · subst e; rfl
  · simp only [e, if_false]
theorem xov_h {v : Nat} : xsSI (xov d t l w σ) 2 (nI v) = xov (dset d 40 v) t l w σ := by
  refine xov_1eq (fun j => ?_) rfl rfl
  unfold upd xo1; by_cases e : j = 2
  · subst e; rfl
  · simp only [e, if_false]; rfl
theorem xov_b {v : Nat} : xsSI (xov d t l w σ) 5 (nI v) = xov (dset d 42 v) t l w σ := by
  refine xov_1eq (fun j => ?_) rfl rfl
  unfold upd xo1; by_cases e : j = 5
  · subst e; rfl
  · simp only [e, if_false]; rfl
theorem xov_w {v : Nat} : xsSI (xov d t l w σ) 7 (nI v) = xov (dset d 44 v) t l w σ := by
  refine xov_1eq (fun j => ?_) rfl rfl
  unfold upd xo1; by_cases e : j = 7
  · subst e; rfl
  · simp only [e, if_false]; rfl
theorem xo_2 : xSI (xov d t l w σ) 2 = nI (d.1 40) := rfl
theorem xo_3 : xSI (xov d t l w σ) 3 = nI l := rfl
theorem xo_4 : xSI (xov d t l w σ) 4 = nI t := rfl
theorem xo_5 : xSI (xov d t l w σ) 5 = nI (d.1 42) := rfl
theorem xo_6 : xSI (xov d t l w σ) 6 = nI (d.1 43) := rfl
theorem xo_7 : xSI (xov d t l w σ) 7 = nI (d.1 44) := rfl
theorem xg39 {i : Nat} (h : i < 5) : xgA (xov d t l w σ) 1 (nI i) = nI (d.2 39 i) := by
  show ovA (d.2 39) 5 (xSA σ 1) (nI i).toNatClampNeg = _; rw [nI_clamp (by omega), ovA_lt h]
theorem xg46 {i : Nat} (h : i < 10) : xgA (xov d t l w σ) 9 (nI i) = nI (d.2 46 i) := by
  show ovA (d.2 46) 10 (xSA σ 9) (nI i).toNatClampNeg = _; rw [nI_clamp (by omega), ovA_lt h]
theorem xg47 {i : Nat} (h : i < 10) : xgA (xov d t l w σ) 10 (nI i) = nI (d.2 47 i) := by
  show ovA (d.2 47) 10 (xSA σ 10) (nI i).toNatClampNeg = _; rw [nI_clamp (by omega), ovA_lt h]
theorem xg45 {i : Nat} (h : i < 10) : xgR (xov d t l w σ) 0 (nI i) = nI (d.2 45 i) := by
  show ovA (d.2 45) 10 (xR σ 0) (nI i).toNatClampNeg = _; rw [nI_clamp (by omega), ovA_lt h]
theorem xgTN {τ : XS} {u : Fin 3} {k i : Nat} (h : i < 2 ^ 31) : xgT τ u k (nI i) = xTB τ u k i := by
  show xTB τ u k (nI i).toNatClampNeg = _; rw [nI_clamp h]
end
