/-! twice() -/
/-- soup left behind T turns, if th takes twice -/
def zlf (A : AS) (v T seat th : Nat) : Nat := zleft (zday A (A.2 6) v 0 th (A.2 14 v) T seat)
def twb (A : AS) (v T seat l : Nat) : Nat → Nat
  | 0 => if zlf A v T seat 99 = l then 1024 else 0
  | h + 1 => if zlf A v T seat h = l then twb A v T seat l h ||| 2 ^ h else twb A v T seat l h
theorem twb_s (A : AS) (v T seat l h : Nat) : twb A v T seat l (h + 1) = if zlf A v T seat h = l then twb A v T seat l h ||| 2 ^ h else twb A v T seat l h := rfl
section
variable {A : AS} {em : Nat} {g : XG} {T seat l : Nat}
theorem zlf_le (hA : Tok A) {v : Nat} (hv : Vok A v) (hs : seat < A.1 0) {th : Nat} : zlf A v T seat th ≤ 495 := by
  have := (zday_ZJ (T := T) hA hv (by omega) (st := A.2 6) (fs := 0) (th := th) hv.2.1 hs).1.1
  unfold zlf; omega
theorem x_leftIf {σ : XS} {v : Fin (nV g)} {x1 : Int32} {th : Nat} {P : Int32 → XS → Prop} (hA : WFA A) (hX : KX em A g σ) (hv : v.val < A.1 12) (hs : seat < A.1 0) (hT : T < 2 ^ 31) (hx : ∀ h, h < 10 → (nI h = x1 ↔ h = th)) (hP : ∀ τ, KX em A g τ → P (nI (zlf A v.val T seat th)) τ) : qX10_leftIf g σ x1 v (nI seat) (nI T) P := by
  have w := hA.2.1.2 _ hv
  unfold qX10_leftIf
  refine x_begin (A := A) (w := 601) hX.2.1.2.2.1 hX.2.1.2.2.2.1 ?_
  rw [bnd_eq, xov_si (Or.inl rfl), show vF1 g v = nI (A.2 14 v.val) from (hX.1.2.2.2.1 v).2.1]
  have hU : UX A (A.2 6) th 601 (xsSI (xbeg σ 0) 11 x1) := by
    refine ⟨hX.2.1, hx, fun b hb => ?_⟩
    show nI b = -1 ↔ b = 601
    exact ⟨fun e => absurd e (nI_nm1 (by omega)), fun e => by omega⟩
  refine x_goRound (fs := 0) hA.1 w w.2.1 (by decide) hA.1.2.2.2.2.1 hX.1 hU hs hT (fun D hD => ?_)
  have hX' : KX em A g (xov D (D.1 41) (zleft D) 601 (xsSI (xbeg σ 0) 11 x1)) := hX
  have h2 := hP _ hX'
  unfold zlf at h2
  rw [← hD] at h2
  exact h2
theorem x_tw_L {v : Fin (nV g)} {P : Int32 → XS → Prop} (hA : WFA A) (hv : v.val < A.1 12) (hs : seat < A.1 0) (hT : T < 2 ^ 31) (hl : l ≤ 495) (hP : ∀ τ, KX em A g τ → P (nI (twb A v.val T seat l (A.1 0))) τ) : ∀ (m h : Nat) (τ : XS), h + m = A.1 0 → KX em A g τ → qX10_twice_L74 g P (m + 1) τ (nI seat) (nI T) (nI l) v (nI (twb A v.val T seat l h)) (nI h)
  | 0, h, τ, e, hX => by
    have e0 : h = A.1 0 := by omega
    subst e0
    rw [qX10_twice_L74, hX.1.1, if_pos (Int32.le_refl _)]; exact hP τ hX
  | m + 1, h, τ, e, hX => by
    have h10 := hA.1.1
    have w := hA.2.1.2 _ hv
    rw [qX10_twice_L74, hX.1.1, if_neg (nI_ge (by omega) (by omega))]
    refine x_leftIf (th := h) hA hX hv hs hT (fun i hi => nI_eq (by omega) (by omega)) (fun τ2 h2 => ?_)
    have ih := x_tw_L hA hv hs hT hl hP m (h + 1) τ2 (by omega) h2
    rw [twb_s] at ih
    have hz := zlf_le (T := T) hA.1 w hs (th := h)
    have ll : (nI (zlf A v.val T seat h) = nI l) ↔ zlf A v.val T seat h = l := nI_eq (by omega) (by omega)
    unfold qX10_twice_J110
    by_cases q : zlf A v.val T seat h = l
    · rw [if_pos (ll.mpr q), bnd_eq, bnd_eq, nI_1, shl1 h (by omega), nx_or]
      rw [if_pos q] at ih; exact ih
    · rw [if_neg (fun z => q (ll.mp z)), bnd_eq, nI_1]
      rw [if_neg q] at ih; exact ih
theorem m_explains {μ : MS} {v : Nat} {x5 : Int32} {th : Nat} {P : Int32 → MS → Prop} (hA : WFA A) (hM : KM A μ) (hv : v < A.1 12) (hs : seat < A.1 0) (hT : T < 2 ^ 31) (hl : l ≤ 495) (hx : ∀ h, h < 10 → (nI h = x5 ↔ h = th)) (hP : ∀ τ, KM A τ → P (if zlf A v T seat th = l then 1 else 0) τ) : qX11_explains μ (nI v) (nI seat) (nI T) (nI l) x5 P := by
  have w := hA.2.1.2 v hv
  unfold qX11_explains
  refine m_useVow hA hM.2.1 hv (m_useStores ?_)
  rw [bnd_eq]
  have fr : FrM μ (mset (usK (uv A v μ) 10) 37 x5) := uv_fr.trans (usK_fr.trans (mset_fr (by decide)))
  have hU := us_UM hA hM hv
  have hU2 : UM A (A.2 6) v 0 th (A.2 14 v) (mset (usK (uv A v μ) 10) 37 x5) := ⟨rfl, rfl, rfl, rfl, rfl, hx, hU.2.2.2.2.2.2⟩
  refine m_goDay hA.1 w (by omega) w.2.1 (by decide) hA.1.2.2.2.2.1 (hM.1.fr fr) hU2 hs hT ?_
  refine m_left ?_
  have hz := zlf_le (T := T) hA.1 w hs (th := th)
  have ll : (nI (zlf A v T seat th) = nI l) ↔ zlf A v T seat th = l := nI_eq (by omega) (by omega)
  have h2 := hP _ (hM.fr (fr.trans (FrM.ov (zday A (A.2 6) v 0 th (A.2 14 v) T seat) _)))
  show (if nI (zlf A v T seat th) = nI l then _ else _)
  by_cases q : zlf A v T seat th = l
  · rw [if_pos (ll.mpr q)]
    rw [if_pos q] at h2; exact h2
  · rw [if_neg (fun z => q (ll.mp z))]
    rw [if_neg q] at h2; exact h2
theorem m_tw_L {v : Nat} {P : Int32 → MS → Prop} (hA : WFA A) (hv : v < A.1 12) (hs : seat < A.1 0) (hT : T < 2 ^ 31) (hl : l ≤ 495) (hP : ∀ τ, KM A τ → P (nI (twb A v T seat l (A.1 0))) τ) : ∀ (m h : Nat) (τ : MS), h + m = A.1 0 → KM A τ → qX11_twice_L62 P (m + 1) τ (nI v) (nI seat) (nI T) (nI l) (nI (twb A v T seat l h)) (nI h)
  | 0, h, τ, e, hM => by
    have e0 : h = A.1 0 := by omega
    subst e0
    rw [qX11_twice_L62, hM.1.1, if_pos (Int32.le_refl _)]; exact hP τ hM
  | m + 1, h, τ, e, hM => by
    have h10 := hA.1.1
    rw [qX11_twice_L62, hM.1.1, if_neg (nI_ge (by omega) (by omega))]
    refine m_explains (th := h) hA hM hv hs hT hl (fun i hi => nI_eq (by omega) (by omega)) (fun τ2 h2 => ?_)
    have ih := m_tw_L hA hv hs hT hl hP m (h + 1) τ2 (by omega) h2
    rw [twb_s] at ih
    rw [bnd_eq, bnd_eq, bnd_eq, nI_1, shl1 h (by omega)]
    by_cases q : zlf A v T seat h = l
    · rw [if_pos q] at ih ⊢
      rw [if_neg (by decide), nx_or]; exact ih
    · rw [if_neg q] at ih ⊢
      rw [if_pos rfl, or0]; exact ih
theorem tw_no : ∀ h, h < 10 → (nI h = (-1 : Int32) ↔ h = 99) := fun h hh => ⟨fun e => absurd e (nI_nm1 (by omega)), fun e => by omega⟩
theorem ok_twice {σ : XS} {μ : MS} {a0 a1 a2 a3 : Int32} (hK : KK em g σ μ) : qX10_twice g σ a0 a1 a2 a3 (fun r σ1 => qX11_twice μ a0 a1 a2 a3 (fun r2 μ1 => r = r2 ∧ KK em g σ1 μ1)) := by
  obtain ⟨A, hA, hX, hM⟩ := hK
  have fin := KK.mk hA hX hM
  unfold qX10_twice
  refine x_vowK hA hX.1 (fun v hv e => ?_) (fun h => ?_)
  · subst e
    refine x_seatK hA.1 hX.1 (fun s => ?_) (fun s => ?_)
    · have md : ∀ {Y N : MS → Prop}, Y μ → qX11_isDay μ (nI v.val) a1 (fun r σ_1 => if r = 0 then N σ_1 else Y σ_1) := fun {Y N} y => m_dayK hA hM (fun _ _ => y) (fun z => absurd ⟨⟨_, hv, rfl⟩, s⟩ z)
      refine x_withinK (lo := 1) (hi := 60) (by decide) (by decide) (fun b => ?_) (fun b => ?_)
      · refine x_withinK (lo := 0) (hi := 495) (by decide) (by decide) (fun c => ?_) (fun c => ?_)
        · obtain ⟨seat, hs, rfl⟩ := s
          obtain ⟨T, t1, t2, rfl⟩ := b
          obtain ⟨l, l1, l2, rfl⟩ := c
          have w := hA.2.1.2 _ hv
          refine x_leftIf (th := 99) hA hX hv hs (by omega) tw_no (fun τ hτ => ?_)
          have hz := zlf_le (T := T) hA.1 w hs (th := 99)
          have ll : (nI (zlf A v.val T seat 99) = nI l) ↔ zlf A v.val T seat 99 = l := nI_eq (by omega) (by omega)
          have e0 : (if nI (zlf A v.val T seat 99) = nI l then 1024 else 0 : Int32) = nI (twb A v.val T seat l 0) := by
            show _ = nI (if zlf A v.val T seat 99 = l then 1024 else 0)
            by_cases q : zlf A v.val T seat 99 = l
            · rw [if_pos (ll.mpr q), if_pos q]; rfl
            · rw [if_neg (fun z => q (ll.mp z)), if_neg q]; rfl
          rw [e0, bnd_eq]
          refine ⟨_, x_tw_L hA hv hs (by omega) l2 (fun τ2 h2 => ?_) (A.1 0) 0 τ (by omega) hτ⟩
          refine md ?_
          refine m_withinK (lo := 1) (hi := 60) (by decide) (by decide) (fun _ => ?_) (fun z => absurd ⟨T, t1, t2, rfl⟩ z)
          refine m_withinK (lo := 0) (hi := 495) (by decide) (by decide) (fun _ => ?_) (fun z => absurd ⟨l, l1, l2, rfl⟩ z)
          refine m_explains (th := 99) hA hM hv hs (by omega) l2 tw_no (fun τ3 h3 => ?_)
          have e1 : (if (if zlf A v.val T seat 99 = l then 1 else 0 : Int32) = 0 then 0 else 1024 : Int32) = nI (twb A v.val T seat l 0) := by
            show _ = nI (if zlf A v.val T seat 99 = l then 1024 else 0)
            by_cases q : zlf A v.val T seat 99 = l
            · rw [if_pos q, if_pos q, if_neg (by decide)]; rfl
            · rw [if_neg q, if_neg q, if_pos rfl]; rfl
          rw [e1, bnd_eq]
          exact ⟨_, m_tw_L hA hv hs (by omega) l2 (fun τ4 h4 => ⟨rfl, KK.mk hA h2 h4⟩) (A.1 0) 0 τ3 (by omega) h3⟩
        · refine md ?_
          refine m_withinK (lo := 1) (hi := 60) (by decide) (by decide) (fun _ => ?_) (fun z => absurd b z)
          exact m_withinK (lo := 0) (hi := 495) (by decide) (by decide) (fun z => absurd z c) (fun _ => ⟨rfl, fin⟩)
      · refine md ?_
        exact m_withinK (lo := 1) (hi := 60) (by decide) (by decide) (fun z => absurd z b) (fun _ => ⟨rfl, fin⟩)
    · exact m_dayK hA hM (fun _ z => absurd z s) (fun _ => ⟨rfl, fin⟩)
  · exact m_dayK hA hM (fun z _ => absurd z h) (fun _ => ⟨rfl, fin⟩)
end
