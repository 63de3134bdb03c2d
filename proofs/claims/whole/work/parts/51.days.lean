/-! day(), meal(), bite(), least() -/
def dt (d : DS) (j : Nat) : Nat := if j = 0 then d.1 41 else if j = 1 then d.1 42 else if j = 2 then zleft d else if j = 3 then d.1 43 else if j = 4 then d.1 44 else d.1 40
section
variable {g : XG} {σ : XS} {μ : MS} {em : Nat}
theorem x_dtold {P : Int32 → XS → Prop} {d : DS} {w j : Nat} (hj : j ≤ 5) (hP : P (nI (dt d j)) (xov d (d.1 41) (zleft d) w σ)) : qX6_told g (xov d (d.1 41) (zleft d) w σ) (nI j) P := by
  unfold qX6_told
  rcases (by omega : j = 0 ∨ j = 1 ∨ j = 2 ∨ j = 3 ∨ j = 4 ∨ j = 5) with rfl | rfl | rfl | rfl | rfl | rfl
  · rw [if_pos (by decide)]; exact hP
  · rw [if_neg (by decide), if_pos (by decide)]; exact hP
  · rw [if_neg (by decide), if_neg (by decide), if_pos (by decide)]; exact hP
  · rw [if_neg (by decide), if_neg (by decide), if_neg (by decide), if_pos (by decide)]; exact hP
  · rw [if_neg (by decide), if_neg (by decide), if_neg (by decide), if_neg (by decide), if_pos (by decide)]; exact hP
  · rw [if_neg (by decide), if_neg (by decide), if_neg (by decide), if_neg (by decide), if_neg (by decide)]; exact hP
theorem m_dayNow {P : Int32 → MS → Prop} {d : DS} {j : Nat} (hj : j ≤ 5) (hP : P (nI (dt d j)) (ov d μ)) : qX11_dayNow (ov d μ) (nI j) P := by
  unfold qX11_dayNow
  rcases (by omega : j = 0 ∨ j = 1 ∨ j = 2 ∨ j = 3 ∨ j = 4 ∨ j = 5) with rfl | rfl | rfl | rfl | rfl | rfl
  · rw [if_pos (by decide)]; exact hP
  · rw [if_neg (by decide), if_pos (by decide)]; exact hP
  · rw [if_neg (by decide), if_neg (by decide), if_pos (by decide)]; exact m_left hP
  · rw [if_neg (by decide), if_neg (by decide), if_neg (by decide), if_pos (by decide)]; exact hP
  · rw [if_neg (by decide), if_neg (by decide), if_neg (by decide), if_neg (by decide), if_pos (by decide)]; exact hP
  · rw [if_neg (by decide), if_neg (by decide), if_neg (by decide), if_neg (by decide), if_neg (by decide)]; exact hP
theorem fast_lt {A : AS} (hA : Tok A) {f : Nat} (h : f < 2 ^ A.1 0) : f < 2 ^ 31 := by
  have hp : 2 ^ A.1 0 ≤ 2 ^ 10 := Nat.pow_le_pow_right (by decide) hA.1
  omega
theorem ok_day {a0 a1 a2 a3 : Int32} (hK : KK em g σ μ) : qX10_day g σ a0 a1 a2 a3 (fun r σ1 => qX11_day μ a0 a1 a2 a3 (fun r2 μ1 => r = r2 ∧ KK em g σ1 μ1)) := by
  obtain ⟨A, hA, hX, hM⟩ := hK
  have fin := KK.mk hA hX hM
  unfold qX10_day
  refine x_vowK hA hX.1 (fun v hv e => ?_) (fun h => ?_)
  · subst e
    refine x_seatK hA.1 hX.1 (fun s => ?_) (fun s => ?_)
    · have md : ∀ {Y N : MS → Prop}, Y μ → qX11_isDay μ (nI v.val) a1 (fun r σ_1 => if r = 0 then N σ_1 else Y σ_1) := fun {Y N} y => m_dayK hA hM (fun _ _ => y) (fun z => absurd ⟨⟨_, hv, rfl⟩, s⟩ z)
      refine x_fastsK hA.1 hX.1 (fun fs => ?_) (fun fs => ?_)
      · refine x_withinK (lo := 0) (hi := 5) (by decide) (by decide) (fun w => ?_) (fun w => ?_)
        · obtain ⟨seat, hs, rfl⟩ := s
          obtain ⟨f, hf, rfl⟩ := fs
          obtain ⟨j, _, hj, rfl⟩ := w
          have hf2 := fast_lt hA.1 hf
          refine x_wholeDay hA.1 (hA.2.1.2 _ hv) hf2 hA.1.2.2.2.2.1 hX.1 hX.2.1 hs (fun D hD => ?_)
          refine x_dtold hj (md ?_)
          refine m_fastsK hA.1 hM.1 (fun _ => ?_) (fun z => absurd ⟨_, hf, rfl⟩ z)
          refine m_withinK (lo := 0) (hi := 5) (by decide) (by decide) (fun _ => ?_) (fun z => absurd ⟨j, Nat.zero_le _, hj, rfl⟩ z)
          refine m_layDay hA hM hv hs hf2 (fun μ' f' hU => ?_)
          rw [← hD]
          exact m_dayNow hj ⟨rfl, KK.mk hA hX.ov (hM.fr (f'.trans (FrM.ov _ _)))⟩
        · refine md ?_
          refine m_fastsK hA.1 hM.1 (fun _ => ?_) (fun z => absurd fs z)
          exact m_withinK (lo := 0) (hi := 5) (by decide) (by decide) (fun z => absurd z w) (fun _ => ⟨rfl, fin⟩)
      · refine md ?_
        exact m_fastsK hA.1 hM.1 (fun z => absurd z fs) (fun _ => ⟨rfl, fin⟩)
    · exact m_dayK hA hM (fun _ z => absurd z s) (fun _ => ⟨rfl, fin⟩)
  · exact m_dayK hA hM (fun z _ => absurd z h) (fun _ => ⟨rfl, fin⟩)
theorem ok_meal {a0 a1 a2 a3 : Int32} (hK : KK em g σ μ) : qX10_meal g σ a0 a1 a2 a3 (fun r σ1 => qX11_meal μ a0 a1 a2 a3 (fun r2 μ1 => r = r2 ∧ KK em g σ1 μ1)) := by
  obtain ⟨A, hA, hX, hM⟩ := hK
  have fin := KK.mk hA hX hM
  have h10 := hA.1.1
  unfold qX10_meal
  refine x_vowK hA hX.1 (fun v hv e => ?_) (fun h => ?_)
  · subst e
    refine x_seatK hA.1 hX.1 (fun s => ?_) (fun s => ?_)
    · have md : ∀ {Y N : MS → Prop}, Y μ → qX11_isDay μ (nI v.val) a1 (fun r σ_1 => if r = 0 then N σ_1 else Y σ_1) := fun {Y N} y => m_dayK hA hM (fun _ _ => y) (fun z => absurd ⟨⟨_, hv, rfl⟩, s⟩ z)
      refine x_hermK hA.1 hX.1 (fun w => ?_) (fun w => ?_)
      · refine x_fastsK hA.1 hX.1 (fun fs => ?_) (fun fs => ?_)
        · obtain ⟨seat, hs, rfl⟩ := s
          obtain ⟨f, hf, rfl⟩ := fs
          obtain ⟨h, hh, rfl⟩ := w
          have hf2 := fast_lt hA.1 hf
          refine x_wholeDay hA.1 (hA.2.1.2 _ hv) hf2 hA.1.2.2.2.2.1 hX.1 hX.2.1 hs (fun D hD => ?_)
          rw [xg45 (by omega)]
          refine ⟨vp_in_nI (by omega) (by decide), md ?_⟩
          refine m_hermK hA.1 hM.1 (fun _ => ?_) (fun z => absurd ⟨_, hh, rfl⟩ z)
          refine m_fastsK hA.1 hM.1 (fun _ => ?_) (fun z => absurd ⟨_, hf, rfl⟩ z)
          refine m_layDay hA hM hv hs hf2 (fun μ' f' hU => ?_)
          rw [← hD, mg45 (by omega)]
          exact ⟨vp_in_nI (by omega) (by decide), rfl, KK.mk hA hX.ov (hM.fr (f'.trans (FrM.ov _ _)))⟩
        · refine md ?_
          refine m_hermK hA.1 hM.1 (fun _ => ?_) (fun z => absurd w z)
          exact m_fastsK hA.1 hM.1 (fun z => absurd z fs) (fun _ => ⟨rfl, fin⟩)
      · refine md ?_
        exact m_hermK hA.1 hM.1 (fun z => absurd z w) (fun _ => ⟨rfl, fin⟩)
    · exact m_dayK hA hM (fun _ z => absurd z s) (fun _ => ⟨rfl, fin⟩)
  · exact m_dayK hA hM (fun z _ => absurd z h) (fun _ => ⟨rfl, fin⟩)
theorem xov_si {d : DS} {t l w k : Nat} {v : Int32} (hk : k = 11 ∨ k = 12) : xsSI (xov d t l w σ) k v = xov d t l w (xsSI σ k v) := by
  refine xs_eq rfl rfl rfl rfl rfl rfl ?_ rfl rfl
  funext j
  show upd (xo1 d t l σ) k v j = xo1 d t l (xsSI σ k v) j
  by_cases e : j = k
  · subst e
    rw [pk_us]
    unfold xo1
    rw [if_neg (by omega), if_neg (by omega), if_neg (by omega), if_neg (by omega), if_neg (by omega), if_neg (by omega)]
    show v = upd (xSI σ) j v j
    rw [pk_us]
  · rw [pk_un e]
    have : xSI (xsSI σ k v) j = xSI σ j := pk_un e
    unfold xo1
    rw [this]
theorem ok_bite {a0 a1 a2 a3 a4 : Int32} (hK : KK em g σ μ) : qX10_bite g σ a0 a1 a2 a3 a4 (fun r σ1 => qX11_bite μ a0 a1 a2 a3 a4 (fun r2 μ1 => r = r2 ∧ KK em g σ1 μ1)) := by
  obtain ⟨A, hA, hX, hM⟩ := hK
  have fin := KK.mk hA hX hM
  have h10 := hA.1.1
  unfold qX10_bite
  refine x_vowK hA hX.1 (fun v hv e => ?_) (fun h => ?_)
  · subst e
    refine x_seatK hA.1 hX.1 (fun s => ?_) (fun s => ?_)
    · have md : ∀ {Y N : MS → Prop}, Y μ → qX11_isDay μ (nI v.val) a1 (fun r σ_1 => if r = 0 then N σ_1 else Y σ_1) := fun {Y N} y => m_dayK hA hM (fun _ _ => y) (fun z => absurd ⟨⟨_, hv, rfl⟩, s⟩ z)
      refine x_fastsK hA.1 hX.1 (fun fs => ?_) (fun fs => ?_)
      · refine x_withinK (lo := 0) (hi := 599) (by decide) (by decide) (fun b => ?_) (fun b => ?_)
        · refine x_withinK (lo := 0) (hi := 4) (by decide) (by decide) (fun w => ?_) (fun w => ?_)
          · obtain ⟨seat, hs, rfl⟩ := s
            obtain ⟨f, hf, rfl⟩ := fs
            obtain ⟨k, _, hk, rfl⟩ := b
            obtain ⟨j, _, hj, rfl⟩ := w
            have hf2 := fast_lt hA.1 hf
            have w := hA.2.1.2 _ hv
            refine x_begin (A := A) (w := k) hX.2.1.2.2.1 hX.2.1.2.2.2.1 ?_
            rw [bnd_eq, xov_si (Or.inr rfl), show vF1 g v = nI (A.2 14 v.val) from (hX.1.2.2.2.1 v).2.1]
            have hU : UX A (A.2 6) 99 k (xsSI (xbeg σ 0) 12 (nI k)) := by
              refine ⟨hX.2.1, fun h hh => ?_, fun b hb => ?_⟩
              · show nI h = -1 ↔ h = 99
                exact ⟨fun e => absurd e (nI_nm1 (by omega)), fun e => by omega⟩
              · show nI b = nI k ↔ b = k
                exact nI_eq (by omega) (by omega)
            refine x_goRound (T := 300) hA.1 w w.2.1 hf2 hA.1.2.2.2.2.1 hX.1 hU hs (by decide) (fun D hD => ?_)
            have zJ := zday_ZJ (T := 300) hA.1 w (by omega) (st := A.2 6) (fs := f) (th := 99) w.2.1 hs
            rw [← hD] at zJ
            have hb43 := zJ.1.1
            have l43 : (nI (D.1 43) ≤ nI k) ↔ D.1 43 ≤ k := nI_leI (by omega) (by omega)
            have mod : ∀ Q : Int32 → Prop, (D.1 43 ≤ k → Q (-1)) → (k < D.1 43 → Q (nI (D.2 48 (5 * k + j)))) → ∀ σ', KX em A g σ' → qX11_bite μ (nI v.val) (nI seat) (nI f) (nI k) (nI j) (fun r2 μ1 => Q r2 ∧ KK em g σ' μ1) := by
              intro Q q1 q2 σ' hX'
              refine md ?_
              refine m_fastsK hA.1 hM.1 (fun _ => ?_) (fun z => absurd ⟨_, hf, rfl⟩ z)
              refine m_withinK (lo := 0) (hi := 599) (by decide) (by decide) (fun _ => ?_) (fun z => absurd ⟨k, Nat.zero_le _, hk, rfl⟩ z)
              refine m_withinK (lo := 0) (hi := 4) (by decide) (by decide) (fun _ => ?_) (fun z => absurd ⟨j, Nat.zero_le _, hj, rfl⟩ z)
              refine m_layDay hA hM hv hs hf2 (fun μ' f' hU => ?_)
              rw [← hD, ov_43]
              have fin' := KK.mk hA hX' (hM.fr (f'.trans (FrM.ov D _)))
              by_cases c : D.1 43 ≤ k
              · rw [if_pos (l43.mpr c)]; exact ⟨q1 c, fin'⟩
              · rw [if_neg (fun z => c (l43.mp z)), mul5, nI_add, mgN (by omega), ov_48, ovA_lt (by omega)]
                exact ⟨vp_in_nI (by omega) (by decide), q2 (by omega), fin'⟩
            have hX' : KX em A g (xov D (D.1 41) (zleft D) k (xsSI (xbeg σ 0) 12 (nI k))) := hX
            rw [xo_6]
            by_cases c : D.1 43 ≤ k
            · rw [if_pos (l43.mpr c)]
              exact mod (fun r2 => -1 = r2) (fun _ => rfl) (fun z => by omega) _ hX'
            · rw [if_neg (fun z => c (l43.mp z))]
              refine ⟨vp_in_nI (by omega) (by decide), ?_⟩
              have e13 : xgA (xov D (D.1 41) (zleft D) k (xsSI (xbeg σ 0) 12 (nI k))) 13 (nI j) = nI (D.2 48 (5 * k + j)) := by
                show (if k < D.1 43 then ovA (fun i => D.2 48 (5 * k + i)) 5 _ else _) (nI j).toNatClampNeg = _
                rw [if_pos (by omega), nI_clamp (by omega), ovA_lt (by omega)]
              rw [e13]
              exact mod (fun r2 => nI (D.2 48 (5 * k + j)) = r2) (fun z => absurd z c) (fun _ => rfl) _ hX'
          · refine md ?_
            refine m_fastsK hA.1 hM.1 (fun _ => ?_) (fun z => absurd fs z)
            refine m_withinK (lo := 0) (hi := 599) (by decide) (by decide) (fun _ => ?_) (fun z => absurd b z)
            exact m_withinK (lo := 0) (hi := 4) (by decide) (by decide) (fun z => absurd z w) (fun _ => ⟨rfl, fin⟩)
        · refine md ?_
          refine m_fastsK hA.1 hM.1 (fun _ => ?_) (fun z => absurd fs z)
          exact m_withinK (lo := 0) (hi := 599) (by decide) (by decide) (fun z => absurd z b) (fun _ => ⟨rfl, fin⟩)
      · refine md ?_
        exact m_fastsK hA.1 hM.1 (fun z => absurd z fs) (fun _ => ⟨rfl, fin⟩)
    · exact m_dayK hA hM (fun _ z => absurd z s) (fun _ => ⟨rfl, fin⟩)
  · exact m_dayK hA hM (fun z _ => absurd z h) (fun _ => ⟨rfl, fin⟩)
theorem ok_least {a0 a1 : Int32} (hK : KK em g σ μ) : qX10_least g σ a0 a1 (fun r σ1 => qX11_least μ a0 a1 (fun r2 μ1 => r = r2 ∧ KK em g σ1 μ1)) := by
  obtain ⟨A, hA, hX, hM⟩ := hK
  have fin := KK.mk hA hX hM
  unfold qX10_least
  refine x_vowK hA hX.1 (fun v hv e => ?_) (fun h => ?_)
  · subst e
    refine x_seatK hA.1 hX.1 (fun s => ?_) (fun s => ?_)
    · obtain ⟨seat, hs, rfl⟩ := s
      have w := hA.2.1.2 _ hv
      rw [show vF1 g v = nI (A.2 14 v.val) from (hX.1.2.2.2.1 v).2.1]
      refine x_leastOf hA.1 w w.2.1 hX.1 hX.2.1 hs (fun D => ?_)
      refine m_dayK hA hM (fun _ _ => ?_) (fun z => absurd ⟨⟨_, hv, rfl⟩, ⟨_, hs, rfl⟩⟩ z)
      exact m_leastOf hA hM hv hs (fun μ' f => ⟨rfl, KK.mk hA hX.ov (hM.fr f)⟩)
    · exact m_dayK hA hM (fun _ z => absurd z s) (fun _ => ⟨rfl, fin⟩)
  · exact m_dayK hA hM (fun z _ => absurd z h) (fun _ => ⟨rfl, fin⟩)
end
