/-! store, change, soup, heat, feast, blank, count -/
section
variable {g : XG} {σ : XS} {μ : MS} {em : Nat}
theorem ok_store {a0 a1 : Int32} (hK : KK em g σ μ) : qX10_store g σ a0 a1 (fun r σ1 => qX11_store μ a0 a1 (fun r2 μ1 => r = r2 ∧ KK em g σ1 μ1)) := by
  obtain ⟨A, hA, hX, hM⟩ := hK
  have fin := KK.mk hA hX hM
  have h10 := hA.1.1
  unfold qX10_store
  refine x_hermK hA.1 hX.1 (fun h => ?_) (fun h => ?_)
  · refine x_withinK (lo := 0) (hi := 99) (by decide) (by decide) (fun b => ?_) (fun b => ?_)
    · obtain ⟨h, hh, rfl⟩ := h
      obtain ⟨v, _, hv, rfl⟩ := b
      refine ⟨vp_in_nI (by omega) (by decide), ?_⟩
      rw [bnd_eq, bnd_eq, xgTN (by omega), hX.2.1.1 h hh]
      refine m_hermK hA.1 hM.1 (fun _ => ?_) (fun q => absurd ⟨_, hh, rfl⟩ q)
      refine m_withinK (lo := 0) (hi := 99) (by decide) (by decide) (fun _ => ?_) (fun q => absurd ⟨v, Nat.zero_le _, hv, rfl⟩ q)
      refine ⟨vp_in_nI (by omega) (by decide), ?_⟩
      rw [bnd_eq, bnd_eq, mgN (by omega), hM.1.2.2.2.2.1 h hh]
      refine ⟨rfl, KK.mk (A := dsta A 6 h (v + 1)) ⟨⟨hA.1.1, hA.1.2.1, hA.1.2.2.1, hA.1.2.2.2.1, fun i hi => ?_, hA.1.2.2.2.2.2⟩, hA.2⟩ ⟨hX.1, ⟨fun i hi => ?_, fun k hk => ?_, fun k hk => ?_, hX.2.1.2.2.2.1, hX.2.1.2.2.2.2⟩, hX.2.2.1, hX.2.2.2.fr rfl ((xsTB_fr (u := 0)).2.2.2 1 (by decide)).1 rfl⟩ ⟨⟨hM.1.1, hM.1.2.1, hM.1.2.2.1, hM.1.2.2.2.1, fun i hi => ?_, hM.1.2.2.2.2.2⟩, hM.2.1, hM.2.2.1, hM.2.2.2⟩⟩
      · show va_up (A.2 6) h (v + 1) i ≤ 100
        by_cases e : i = h
        · rw [e, va_up_self]; omega
        · rw [va_up_ne _ _ e]; exact hA.1.2.2.2.2.1 i hi
      · rw [xsTB_at (by omega)]
        show upd (xTB σ 0 0) h (nI v) i = sI (va_up (A.2 6) h (v + 1) i)
        by_cases e : i = h
        · rw [e, pk_us, va_up_self, sI_succ]
        · rw [pk_un e, va_up_ne _ _ e]; exact hX.2.1.1 i hi
      · rw [xsTB_ne (by decide)]; exact hX.2.1.2.1 k hk
      · rw [xsTB_ne (by decide)]; exact hX.2.1.2.2.1 k hk
      · show upd (μ.2.1 6) (nI h).toNatClampNeg (nI v) i = sI (va_up (A.2 6) h (v + 1) i)
        rw [nI_clamp (by omega)]
        by_cases e : i = h
        · rw [e, pk_us, va_up_self, sI_succ]
        · rw [pk_un e, va_up_ne _ _ e]; exact hM.1.2.2.2.2.1 i hi
    · refine m_hermK hA.1 hM.1 (fun _ => ?_) (fun q => absurd h q)
      exact m_withinK (lo := 0) (hi := 99) (by decide) (by decide) (fun q => absurd q b) (fun _ => ⟨rfl, fin⟩)
  · exact m_hermK hA.1 hM.1 (fun q => absurd q h) (fun _ => ⟨rfl, fin⟩)
theorem ok_soup {a0 a1 : Int32} (hK : KK em g σ μ) : qX10_soup g σ a0 a1 (fun r σ1 => qX11_soup μ a0 a1 (fun r2 μ1 => r = r2 ∧ KK em g σ1 μ1)) := by
  obtain ⟨A, hA, hX, hM⟩ := hK
  have fin := KK.mk hA hX hM
  unfold qX10_soup
  refine x_withinK (lo := 0) (hi := 4) (by decide) (by decide) (fun h => ?_) (fun h => ?_)
  · refine x_withinK (lo := 0) (hi := 99) (by decide) (by decide) (fun b => ?_) (fun b => ?_)
    · obtain ⟨k, _, hk, rfl⟩ := h
      obtain ⟨v, _, hv, rfl⟩ := b
      refine ⟨vp_in_nI (by omega) (by decide), ?_⟩
      rw [bnd_eq, bnd_eq, xgTN (by omega), hX.2.1.2.2.1 k (by omega)]
      refine m_withinK (lo := 0) (hi := 4) (by decide) (by decide) (fun _ => ?_) (fun q => absurd ⟨k, Nat.zero_le _, hk, rfl⟩ q)
      refine m_withinK (lo := 0) (hi := 99) (by decide) (by decide) (fun _ => ?_) (fun q => absurd ⟨v, Nat.zero_le _, hv, rfl⟩ q)
      refine ⟨vp_in_nI (by omega) (by decide), ?_⟩
      rw [bnd_eq, bnd_eq, mgN (by omega), hM.1.2.2.2.2.2 k (by omega)]
      refine ⟨rfl, KK.mk (A := dsta A 9 k v) ⟨⟨hA.1.1, hA.1.2.1, hA.1.2.2.1, hA.1.2.2.2.1, hA.1.2.2.2.2.1, fun i hi => ?_⟩, hA.2⟩ ⟨hX.1, ⟨fun i hi => ?_, fun k hk => ?_, fun i hi => ?_, hX.2.1.2.2.2.1, hX.2.1.2.2.2.2⟩, hX.2.2.1, hX.2.2.2.fr rfl ((xsTB_fr (u := 0)).2.2.2 1 (by decide)).1 rfl⟩ ⟨⟨hM.1.1, hM.1.2.1, hM.1.2.2.1, hM.1.2.2.2.1, hM.1.2.2.2.2.1, fun i hi => ?_⟩, hM.2.1, hM.2.2.1, hM.2.2.2⟩⟩
      · show va_up (A.2 9) k v i ≤ 99
        by_cases e : i = k
        · rw [e, va_up_self]; omega
        · rw [va_up_ne _ _ e]; exact hA.1.2.2.2.2.2 i hi
      · rw [xsTB_ne (by decide)]; exact hX.2.1.1 i hi
      · rw [xsTB_ne (by decide)]; exact hX.2.1.2.1 k hk
      · rw [xsTB_at (by omega)]
        show upd (xTB σ 0 2) k (nI v) i = nI (va_up (A.2 9) k v i)
        by_cases e : i = k
        · rw [e, pk_us, va_up_self]
        · rw [pk_un e, va_up_ne _ _ e]; exact hX.2.1.2.2.1 i hi
      · show upd (μ.2.1 9) (nI k).toNatClampNeg (nI v) i = nI (va_up (A.2 9) k v i)
        rw [nI_clamp (by omega)]
        by_cases e : i = k
        · rw [e, pk_us, va_up_self]
        · rw [pk_un e, va_up_ne _ _ e]; exact hM.1.2.2.2.2.2 i hi
    · refine m_withinK (lo := 0) (hi := 4) (by decide) (by decide) (fun _ => ?_) (fun q => absurd h q)
      exact m_withinK (lo := 0) (hi := 99) (by decide) (by decide) (fun q => absurd q b) (fun _ => ⟨rfl, fin⟩)
  · exact m_withinK (lo := 0) (hi := 4) (by decide) (by decide) (fun q => absurd q h) (fun _ => ⟨rfl, fin⟩)
theorem xsTI_at {u : Fin 3} {k : Nat} {v : Int32} : xTI (xsTI σ u k v) u k = v := by
  show fup (xTI σ) u (upd (xTI σ u) k v) u k = _
  rw [fup_self, pk_us]
theorem xsTI_ne {u : Fin 3} {k j : Nat} {v : Int32} (h : j ≠ k) : xTI (xsTI σ u k v) u j = xTI σ u j := by
  show fup (xTI σ) u (upd (xTI σ u) k v) u j = _
  rw [fup_self, pk_un h]
theorem xsTI_o {u w : Fin 3} {k : Nat} {v : Int32} (h : w ≠ u) : xTI (xsTI σ u k v) w = xTI σ w := by
  show fup (xTI σ) u (upd (xTI σ u) k v) w = _
  rw [fup_ne _ _ h]
theorem ok_heat {a0 : Int32} (hK : KK em g σ μ) : qX10_heat g σ a0 (fun r σ1 => qX11_heat μ a0 (fun r2 μ1 => r = r2 ∧ KK em g σ1 μ1)) := by
  obtain ⟨A, hA, hX, hM⟩ := hK
  have fin := KK.mk hA hX hM
  unfold qX10_heat
  refine x_withinK (lo := 0) (hi := 300) (by decide) (by decide) (fun h => ?_) (fun h => ?_)
  · obtain ⟨v, _, hv, rfl⟩ := h
    rw [bnd_eq, bnd_eq, hX.2.1.2.2.2.1]
    refine m_withinK (lo := 0) (hi := 300) (by decide) (by decide) (fun _ => ?_) (fun q => absurd ⟨v, Nat.zero_le _, hv, rfl⟩ q)
    rw [bnd_eq, bnd_eq, hM.1.2.1]
    refine ⟨rfl, KK.mk (A := dset A 10 v) ⟨⟨hA.1.1, hv, hA.1.2.2⟩, hA.2⟩ ⟨hX.1, ⟨hX.2.1.1, hX.2.1.2.1, hX.2.1.2.2.1, xsTI_at, (xsTI_ne (by decide)).trans hX.2.1.2.2.2.2⟩, hX.2.2.1, hX.2.2.2.fr rfl rfl (xsTI_o (by decide))⟩ ⟨⟨hM.1.1, rfl, hM.1.2.2⟩, hM.2.1, hM.2.2.1, hM.2.2.2⟩⟩
  · exact m_withinK (lo := 0) (hi := 300) (by decide) (by decide) (fun q => absurd q h) (fun _ => ⟨rfl, fin⟩)
theorem ok_feast {a0 : Int32} (hK : KK em g σ μ) (h0 : a0 = 0 ∨ a0 = 1) : qX10_feast g σ a0 (fun r σ1 => qX11_feast μ a0 (fun r2 μ1 => r = r2 ∧ KK em g σ1 μ1)) := by
  obtain ⟨A, hA, hX, hM⟩ := hK
  have h1 := hA.1.2.2.1
  obtain ⟨b, hb, rfl⟩ : ∃ b : Nat, b ≤ 1 ∧ a0 = nI b := by
    rcases h0 with rfl | rfl
    · exact ⟨0, by decide, rfl⟩
    · exact ⟨1, by decide, rfl⟩
  unfold qX10_feast
  rw [hX.2.1.2.2.2.2]
  refine bI_asN h1 ⟨bI_B hb, ?_⟩
  rw [bnd_eq]
  unfold qX11_feast
  dsimp only
  rw [bnd_eq, hM.1.2.2.1, nI_asB h1, bnd_eq]
  exact ⟨bI_B hb, rfl, KK.mk (A := dset A 11 b) ⟨⟨hA.1.1, hA.1.2.1, hb, hA.1.2.2.2⟩, hA.2⟩ ⟨hX.1, ⟨hX.2.1.1, hX.2.1.2.1, hX.2.1.2.2.1, (xsTI_ne (by decide)).trans hX.2.1.2.2.2.1, xsTI_at⟩, hX.2.2.1, hX.2.2.2.fr rfl rfl (xsTI_o (by decide))⟩ ⟨⟨hM.1.1, hM.1.2.1, rfl, hM.1.2.2.2⟩, hM.2.1, hM.2.2.1, hM.2.2.2⟩⟩
theorem ok_blank (hK : KK em g σ μ) : qX10_blank g σ (fun r σ1 => qX11_blank μ (fun r2 μ1 => r = r2 ∧ KK em g σ1 μ1)) := by
  obtain ⟨A, hA, hX, hM⟩ := hK
  unfold qX10_blank qX11_blank
  simp only [bnd_eq]
  rw [hX.2.2.1.1, hM.2.2.1.1]
  exact ⟨rfl, KK.mk (A := dset A 17 0) ⟨hA.1, hA.2.1, ⟨Nat.zero_le _, fun i hi => absurd hi (Nat.not_lt_zero _)⟩, hA.2.2.2⟩ ⟨hX.1, hX.2.1, ⟨rfl, fun i hi => absurd hi (Nat.not_lt_zero _)⟩, hX.2.2.2⟩ ⟨hM.1, hM.2.1, ⟨rfl, fun i hi => absurd hi (Nat.not_lt_zero _)⟩, hM.2.2.2⟩⟩
theorem ok_change {a0 a1 : Int32} (hK : KK em g σ μ) : qX10_change g σ a0 a1 (fun r σ1 => qX11_change μ a0 a1 (fun r2 μ1 => r = r2 ∧ KK em g σ1 μ1)) := by
  obtain ⟨A, hA, hX, hM⟩ := hK
  have fin := KK.mk hA hX hM
  have h10 := hA.1.1
  unfold qX10_change
  refine x_seatK hA.1 hX.1 (fun h => ?_) (fun h => ?_)
  · refine x_seatK hA.1 hX.1 (fun b => ?_) (fun b => ?_)
    · have mod : ∀ P : Int32 → MS → Prop, (if a0 = a1 then P (-101) μ else (qX11_exchange μ a0 a1 fun σ_5 => vp_in a0 10 ∧ (P (mgeta σ_5 8 a0) σ_5))) → qX11_change μ a0 a1 P := fun P q =>
        m_seatK hA.1 hM.1 (fun _ => m_seatK hA.1 hM.1 (fun _ => q) (fun z => absurd b z)) (fun z => absurd h z)
      by_cases e : a0 = a1
      · rw [if_pos e]; refine mod _ ?_; rw [if_pos e]; exact ⟨rfl, fin⟩
      rw [if_neg e]
      obtain ⟨i, hi, rfl⟩ := h
      obtain ⟨j, hj, rfl⟩ := b
      have hij : i ≠ j := fun q => e (by rw [q])
      refine x_exchange hX.2.1 h10 hi hj hij (fun τ f hT => ⟨vp_in_nI (by omega) (by decide), mod _ ?_⟩)
      rw [if_neg e]
      refine m_exchange hA hM hi hj hij (fun μ' hM' => ⟨vp_in_nI (by omega) (by decide), ?_, ?_⟩)
      · rw [xgTN (by omega), mgN (by omega), (hM'.1.2.2.2.1 i hi).2.2.2.2.2.2]
        have := hT.2.1 i (by omega)
        rw [if_pos hi] at this; exact this
      · have f1 := f.2.2.2 1 (by decide)
        exact KK.mk (swp_WFA hA hi hj hij) ⟨hX.1, hT, hX.2.2.1.fr f.2.1 f.2.2.1, hX.2.2.2.fr f.1 f1.1 f1.2⟩ hM'
    · exact m_seatK hA.1 hM.1 (fun _ => m_seatK hA.1 hM.1 (fun z => absurd z b) (fun _ => ⟨rfl, fin⟩)) (fun z => absurd h z)
  · exact m_seatK hA.1 hM.1 (fun z => absurd z h) (fun _ => ⟨rfl, fin⟩)
/- count -/
def zsv (st : Nat → Nat) : Nat → Nat
  | 0 => 0
  | k + 1 => zsv st k + (if st k = 0 then 1 else 0)
theorem zsv_s (st : Nat → Nat) (k : Nat) : zsv st (k + 1) = zsv st k + (if st k = 0 then 1 else 0) := rfl
theorem zsv_le (st : Nat → Nat) : ∀ k, zsv st k ≤ k
  | 0 => Nat.le_refl _
  | k + 1 => by unfold zsv; have := zsv_le st k; split <;> omega
theorem m_starved_L {A : AS} {P : Int32 → MS → Prop} (hA : Tok A) (hK : KMt A μ) (hP : P (nI (zsv (A.2 6) (A.1 0))) μ) : ∀ (j k : Nat), k + j = A.1 0 → qX11_starvedMany_L4 P (j + 1) μ (nI (zsv (A.2 6) k)) (nI k)
  | 0, k, e => by
    have e0 : k = A.1 0 := by omega
    subst e0
    rw [qX11_starvedMany_L4, hK.1, if_pos (Int32.le_refl _)]; exact hP
  | j + 1, k, e => by
    have h10 := hA.1
    have ih := m_starved_L hA hK hP j (k + 1) (by omega)
    rw [qX11_starvedMany_L4, hK.1, if_neg (nI_ge (by omega) (by omega))]
    refine ⟨vp_in_nI (by omega) (by decide), ?_⟩
    rw [bnd_eq, bnd_eq, bnd_eq, nI_1, mgN (by omega), hK.2.2.2.2.1 k (by omega)]
    rw [zsv_s] at ih
    by_cases z : A.2 6 k = 0
    · rw [if_neg (fun q => (sI_ge (hA.2.2.2.2.1 k (by omega))).mp q z), nI_1]
      rw [if_pos z] at ih; exact ih
    · rw [if_pos ((sI_ge (hA.2.2.2.2.1 k (by omega))).mpr z), show nI (zsv (A.2 6) k) + 0 = nI (zsv (A.2 6) k + 0) from nI_add _ 0]
      rw [if_neg z] at ih; exact ih
theorem x_starved_L {A : AS} {P : Int32 → XS → Prop} {u : Fin 3} {st : Nat → Nat} (hA : Tok A) (hG : KXg em A g) (h0 : ∀ h, h < A.1 0 → xTB σ u 0 h = sI (st h)) (hst : ∀ h, h < A.1 0 → st h ≤ 100) (hP : P (nI (zsv st (A.1 0))) σ) : ∀ (j k : Nat), k + j = A.1 0 → qX8_starvedInAll_L4 g P (j + 1) σ u (nI (zsv st k)) (nI k)
  | 0, k, e => by
    have e0 : k = A.1 0 := by omega
    subst e0
    rw [qX8_starvedInAll_L4, hG.1, if_pos (Int32.le_refl _)]; exact hP
  | j + 1, k, e => by
    have h10 := hA.1
    have ih := x_starved_L hA hG h0 hst hP j (k + 1) (by omega)
    rw [qX8_starvedInAll_L4, hG.1, if_neg (nI_ge (by omega) (by omega))]
    refine ⟨vp_in_nI (by omega) (by decide), ?_⟩
    rw [xgTN (by omega), h0 k (by omega)]
    rw [zsv_s] at ih
    unfold qX10_asNumber
    by_cases z : st k = 0
    · rw [if_pos ((sI_m1 (hst k (by omega))).mpr z)]; dsimp only; rw [if_neg (by decide), bnd_eq, bnd_eq, nI_1, nI_1]
      rw [if_pos z] at ih; exact ih
    · rw [if_neg (fun q => z ((sI_m1 (hst k (by omega))).mp q))]; dsimp only; rw [if_pos (by decide), bnd_eq, bnd_eq, nI_1, show nI (zsv st k) + 0 = nI (zsv st k + 0) from nI_add _ 0]
      rw [if_neg z] at ih; exact ih
theorem m_soupAll_s {P : Int32 → MS → Prop} {f a k v : Nat} (hk : k < 5) (hv : μ.2.1 9 k = nI v) (h : qX11_soupAll_L4 P f μ (nI (a + v)) (nI (k + 1))) : qX11_soupAll_L4 P (f + 1) μ (nI a) (nI k) := by
  rw [qX11_soupAll_L4, if_neg (nge5 hk), mgN (by omega), hv, bnd_eq, bnd_eq, nI_add, nI_1]
  exact ⟨vp_in_nI hk (by decide), h⟩
theorem m_soupAll {P : Int32 → MS → Prop} {ly : Nat → Nat} (hl : ∀ k, k < 5 → μ.2.1 9 k = nI (ly k)) (h : P (nI (ly 0 + ly 1 + ly 2 + ly 3 + ly 4)) μ) : qX11_soupAll μ P := by
  refine ⟨6, m_soupAll_s (a := 0) (k := 0) (by decide) (hl 0 (by decide)) (m_soupAll_s (by decide) (hl 1 (by decide)) (m_soupAll_s (by decide) (hl 2 (by decide)) (m_soupAll_s (by decide) (hl 3 (by decide)) (m_soupAll_s (by decide) (hl 4 (by decide)) ?_))))⟩
  rw [Nat.zero_add, qX11_soupAll_L4, if_pos (by decide)]; exact h
def hw (A : AS) (j : Nat) : Nat := if j = 0 then A.1 0 else if j = 1 then A.1 12 else if j = 2 then A.2 9 0 + A.2 9 1 + A.2 9 2 + A.2 9 3 + A.2 9 4 else if j = 3 then A.1 10 else if j = 4 then A.1 11 else if j = 5 then zsv (A.2 6) (A.1 0) else A.1 17
theorem m_howMany {A : AS} {P : Int32 → MS → Prop} (hA : WFA A) (hK : KM A μ) {j : Nat} (hj : j ≤ 6) (hP : P (nI (hw A j)) μ) : qX11_howMany μ (nI j) P := by
  unfold qX11_howMany
  rcases (by omega : j = 0 ∨ j = 1 ∨ j = 2 ∨ j = 3 ∨ j = 4 ∨ j = 5 ∨ j = 6) with rfl | rfl | rfl | rfl | rfl | rfl | rfl
  · rw [if_pos (by decide), hK.1.1]; exact hP
  · rw [if_neg (by decide), if_pos (by decide), hK.2.1.1]; exact hP
  · rw [if_neg (by decide), if_neg (by decide), if_pos (by decide)]; exact m_soupAll hK.1.2.2.2.2.2 hP
  · rw [if_neg (by decide), if_neg (by decide), if_neg (by decide), if_pos (by decide), hK.1.2.1]; exact hP
  · rw [if_neg (by decide), if_neg (by decide), if_neg (by decide), if_neg (by decide), if_pos (by decide), hK.1.2.2.1]; exact bN_ite (P := fun r => P r μ) hA.1.2.2.1 hP
  · rw [if_neg (by decide), if_neg (by decide), if_neg (by decide), if_neg (by decide), if_neg (by decide), if_pos (by decide)]
    exact ⟨_, m_starved_L hA.1 hK.1 hP (A.1 0) 0 (by omega)⟩
  · rw [if_neg (by decide), if_neg (by decide), if_neg (by decide), if_neg (by decide), if_neg (by decide), if_neg (by decide), if_pos (by decide), hK.2.2.1.1]; exact hP
theorem x_counted {A : AS} {P : Int32 → XS → Prop} (hA : WFA A) (hX : KX em A g σ) {j : Nat} (hj : j ≤ 6) (hP : P (nI (hw A j)) σ) : qX10_counted g σ (nI j) P := by
  unfold qX10_counted
  rcases (by omega : j = 0 ∨ j = 1 ∨ j = 2 ∨ j = 3 ∨ j = 4 ∨ j = 5 ∨ j = 6) with rfl | rfl | rfl | rfl | rfl | rfl | rfl
  · rw [if_pos (by decide), hX.1.1]; exact hP
  · rw [if_neg (by decide), if_pos (by decide), hX.1.2.1]; exact hP
  · rw [if_neg (by decide), if_neg (by decide), if_pos (by decide)]; exact x_soupIn hX.2.1.2.2.1 hP
  · rw [if_neg (by decide), if_neg (by decide), if_neg (by decide), if_pos (by decide), hX.2.1.2.2.2.1]; exact hP
  · rw [if_neg (by decide), if_neg (by decide), if_neg (by decide), if_neg (by decide), if_pos (by decide), hX.2.1.2.2.2.2]; exact bI_asN hA.1.2.2.1 hP
  · rw [if_neg (by decide), if_neg (by decide), if_neg (by decide), if_neg (by decide), if_neg (by decide), if_pos (by decide)]
    exact ⟨_, x_starved_L hA.1 hX.1 hX.2.1.1 hA.1.2.2.2.2.1 hP (A.1 0) 0 (by omega)⟩
  · rw [if_neg (by decide), if_neg (by decide), if_neg (by decide), if_neg (by decide), if_neg (by decide), if_neg (by decide), hX.2.2.1.1]; exact hP
theorem ok_count {a0 : Int32} (hK : KK em g σ μ) : qX10_count g σ a0 (fun r σ1 => qX11_count μ a0 (fun r2 μ1 => r = r2 ∧ KK em g σ1 μ1)) := by
  obtain ⟨A, hA, hX, hM⟩ := hK
  have fin := KK.mk hA hX hM
  unfold qX10_count
  refine x_withinK (lo := 0) (hi := 6) (by decide) (by decide) (fun h => ?_) (fun h => ?_)
  · obtain ⟨j, _, hj, rfl⟩ := h
    exact x_counted hA hX hj (m_howMany hA hM hj ⟨rfl, fin⟩)
  · have ne : ∀ j : Nat, j ≤ 6 → ¬ a0 = nI j := fun j hj e => h ⟨j, Nat.zero_le _, hj, e⟩
    unfold qX11_count qX11_howMany
    dsimp only
    rw [if_neg (show ¬ a0 = 0 from ne 0 (by decide)), if_neg (show ¬ a0 = 1 from ne 1 (by decide)), if_neg (show ¬ a0 = 2 from ne 2 (by decide)), if_neg (show ¬ a0 = 3 from ne 3 (by decide)), if_neg (show ¬ a0 = 4 from ne 4 (by decide)), if_neg (show ¬ a0 = 5 from ne 5 (by decide)), if_neg (show ¬ a0 = 6 from ne 6 (by decide))]
    exact ⟨rfl, fin⟩
end
