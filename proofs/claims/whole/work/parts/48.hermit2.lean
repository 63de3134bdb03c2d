/-! hermit(), image(), restore() -/
section
variable {g : XG} {σ : XS} {μ : MS} {em : Nat}
theorem m_hermitK {A : AS} {a0 a1 a2 a3 a4 a5 : Int32} {P : Int32 → MS → Prop} (h1 : ∀ k, k ≤ 4 → a0 = nI k → Bt a1 (lnum k) (mnum k) → Bt a2 1 99 → Bt a3 0 3 → Bt a4 1 9 → Bt a5 0 99 → (if (μ.1 0) = 10 then (P (-104) μ) else (vp_in (μ.1 0) 10 ∧ (bnd (mseta μ 1 (μ.1 0) a0) fun σ_14 => vp_in (σ_14.1 0) 10 ∧ (bnd (mseta σ_14 2 (σ_14.1 0) a1) fun σ_16 => vp_in (σ_16.1 0) 10 ∧ (bnd (mseta σ_16 3 (σ_16.1 0) a2) fun σ_18 => vp_in (σ_18.1 0) 10 ∧ (bnd (mseta σ_18 4 (σ_18.1 0) a3) fun σ_20 => vp_in (σ_20.1 0) 10 ∧ (bnd (mseta σ_20 5 (σ_20.1 0) a4) fun σ_22 => vp_in (σ_22.1 0) 10 ∧ (bnd (mseta σ_22 6 (σ_22.1 0) a5) fun σ_24 => vp_in (σ_24.1 0) 10 ∧ (bnd (mseta σ_24 7 (σ_24.1 0) (σ_24.1 0)) fun σ_26 => vp_in (σ_26.1 0) 10 ∧ (bnd (mseta σ_26 8 (σ_26.1 0) (σ_26.1 0)) fun σ_28 => bnd (mset σ_28 0 ((σ_28.1 0) + 1)) fun σ_29 => P ((σ_29.1 0) - 1) σ_29))))))))))) (h0 : ¬ (∃ k, k ≤ 4 ∧ a0 = nI k ∧ Bt a1 (lnum k) (mnum k) ∧ Bt a2 1 99 ∧ Bt a3 0 3 ∧ Bt a4 1 9 ∧ Bt a5 0 99) → P (-102) μ) : qX11_hermit μ a0 a1 a2 a3 a4 a5 P := by
  unfold qX11_hermit
  have nk : ∀ k k', k ≤ 4 → k' ≤ 4 → nI k = nI k' → k = k' := fun k k' h h' e => (nI_eq (by omega) (by omega)).mp e
  refine m_withinK (lo := 0) (hi := 4) (by decide) (by decide) (fun b0 => ?_) (fun b => h0 (fun ⟨k, hk, e, _⟩ => b ⟨k, Nat.zero_le _, hk, e⟩))
  obtain ⟨k, _, hk, e⟩ := b0
  subst e
  refine m_numK hk (fun b1 => ?_) (fun b => h0 (fun ⟨k', hk', e, z, _⟩ => b (by rw [nk k k' hk hk' e]; exact z)))
  refine m_withinK (lo := 1) (hi := 99) (by decide) (by decide) (fun b2 => ?_) (fun b => h0 (fun ⟨_, _, _, _, z, _⟩ => b z))
  refine m_withinK (lo := 0) (hi := 3) (by decide) (by decide) (fun b3 => ?_) (fun b => h0 (fun ⟨_, _, _, _, _, z, _⟩ => b z))
  refine m_withinK (lo := 1) (hi := 9) (by decide) (by decide) (fun b4 => ?_) (fun b => h0 (fun ⟨_, _, _, _, _, _, z, _⟩ => b z))
  refine m_withinK (lo := 0) (hi := 99) (by decide) (by decide) (fun b5 => ?_) (fun b => h0 (fun ⟨_, _, _, _, _, _, _, z⟩ => b z))
  exact h1 k hk rfl b1 b2 b3 b4 b5
theorem ok_hermit {a0 a1 a2 a3 a4 a5 : Int32} (hK : KK em g σ μ) : qX10_hermit g (fun τ y1 y2 y3 y4 y5 y6 y7 => (nH g = 0 → g.2.2.2.2.2.1.2.1 = em) ∧ ∃ (hlt : nH g < 10) (kd : Fin 5), y1 = nI kd.val ∧ y7 = nI (nH g) ∧ ∀ q ed, (fun (r : Int32) (ξ : XG × XS) => sameG g ξ.1 ∧ qX11_hermit μ a0 a1 a2 a3 a4 a5 (fun r2 μ1 => r = r2 ∧ KK em ξ.1 ξ.2 μ1)) (nI (nH g)) (addH g ed (hrec q kd y2 y3 y4 y5) hlt, xsTB τ 0 0 (nI (nH g)) y6)) σ a0 a1 a2 a3 a4 a5 (fun r τ => (fun (r : Int32) (ξ : XG × XS) => sameG g ξ.1 ∧ qX11_hermit μ a0 a1 a2 a3 a4 a5 (fun r2 μ1 => r = r2 ∧ KK em ξ.1 ξ.2 μ1)) r (g, τ)) := by
  obtain ⟨A, hA, hX, hM⟩ := hK
  have fin := KK.mk hA hX hM
  have h10 := hA.1.1
  have hn := hX.1.1
  have eH : nI (nH g) = nI (A.1 0) := congrArg nI hn
  unfold qX10_hermit
  refine x_withinK (lo := 0) (hi := 4) (by decide) (by decide) (fun b0 => ?_) (fun b0 => ⟨sameG_refl g, m_hermitK (A := A) (fun k hk e _ _ _ _ _ => absurd ⟨k, Nat.zero_le _, hk, e⟩ b0) (fun _ => ⟨rfl, fin⟩)⟩)
  obtain ⟨k, _, hk, rfl⟩ := b0
  refine x_num (P := fun _ _ => True) hk ?_
  refine x_withinK (lo := lnum k) (hi := mnum k) (by unfold lnum; split <;> (try split) <;> decide) (by unfold mnum; split <;> decide) (fun b1 => ?_) (fun b1 => ⟨sameG_refl g, m_hermitK (A := A) (fun k' hk' e z _ _ _ _ => absurd (by rw [(nI_eq (by omega) (by omega)).mp e]; exact z) b1) (fun _ => ⟨rfl, fin⟩)⟩)
  refine x_withinK (lo := 1) (hi := 99) (by decide) (by decide) (fun b2 => ?_) (fun b2 => ⟨sameG_refl g, m_hermitK (A := A) (fun _ _ _ _ z _ _ _ => absurd z b2) (fun _ => ⟨rfl, fin⟩)⟩)
  refine x_withinK (lo := 0) (hi := 3) (by decide) (by decide) (fun b3 => ?_) (fun b3 => ⟨sameG_refl g, m_hermitK (A := A) (fun _ _ _ _ _ z _ _ => absurd z b3) (fun _ => ⟨rfl, fin⟩)⟩)
  refine x_withinK (lo := 1) (hi := 9) (by decide) (by decide) (fun b4 => ?_) (fun b4 => ⟨sameG_refl g, m_hermitK (A := A) (fun _ _ _ _ _ _ z _ => absurd z b4) (fun _ => ⟨rfl, fin⟩)⟩)
  refine x_withinK (lo := 0) (hi := 99) (by decide) (by decide) (fun b5 => ?_) (fun b5 => ⟨sameG_refl g, m_hermitK (A := A) (fun _ _ _ _ _ _ _ z => absurd z b5) (fun _ => ⟨rfl, fin⟩)⟩)
  rw [bnd_eq]
  have l10 : (nI (nH g) < 10) ↔ A.1 0 < 10 := by rw [eH]; exact nI_ltI (b := 10) (by omega) (by decide)
  have m10 : (nI (A.1 0) = 10) ↔ A.1 0 = 10 := nI_eq (b := 10) (by omega) (by decide)
  have cond : ∃ k', k' ≤ 4 ∧ nI k = nI k' ∧ Bt a1 (lnum k') (mnum k') ∧ Bt a2 1 99 ∧ Bt a3 0 3 ∧ Bt a4 1 9 ∧ Bt a5 0 99 := ⟨k, hk, rfl, b1, b2, b3, b4, b5⟩
  by_cases q : A.1 0 < 10
  · rw [if_pos (l10.mpr q)]
    have hlt : nH g < 10 := by omega
    refine ⟨hX.1.2.2.2.2.2, hlt, ⟨k, by omega⟩, rfl, rfl, fun q0 ed => ⟨⟨rfl, rfl, rfl, rfl, rfl⟩, ?_⟩⟩
    refine m_hermitK (A := A) (fun k' hk' e _ _ _ _ _ => ?_) (fun z => absurd cond z)
    rw [hM.1.1, if_neg (fun z => by have := m10.mp z; omega), ← hM.1.1]
    obtain ⟨m, m1, m2, rfl⟩ := b1
    obtain ⟨nd, n1, n2, rfl⟩ := b2
    obtain ⟨tt, _, t2, rfl⟩ := b3
    obtain ⟨bt, p1, p2, rfl⟩ := b4
    obtain ⟨st, _, s2, rfl⟩ := b5
    have hm4 : m ≤ 4 := by unfold mnum at m2; split at m2 <;> omega
    have hm1 : k = 1 ∨ k = 3 ∨ k = 4 → 1 ≤ m := fun z => by
      unfold lnum at m1
      by_cases y : k = 1 ∨ k = 4
      · rw [if_pos y] at m1; omega
      · rw [if_neg y, if_pos (by omega)] at m1; omega
    have hm0 : (if (⟨k, by omega⟩ : Fin 5) = 0 ∨ (⟨k, by omega⟩ : Fin 5) = 2 then 0 else nI m) = nI m := by
      split
      · rename_i z
        have y : k = 0 ∨ k = 2 := z.elim (fun e => Or.inl (congrArg Fin.val e)) (fun e => Or.inr (congrArg Fin.val e))
        unfold mnum at m2
        rw [if_pos y] at m2
        rw [show m = 0 by omega]; rfl
      · rfl
    refine m_hermit_go (P := fun r2 μ1 => nI (nH g) = r2 ∧ KK em (addH g ed (hrec q0 ⟨k, by omega⟩ (nI m) (nI nd) (nI tt) (nI bt)) hlt) (xsTB σ 0 0 (nI (nH g)) (nI st)) μ1) (k := k) (m := m) (nd := nd) (tt := tt) (bt := bt) (st := st) hA hM (by omega) (fun τ' hM' => ⟨eH, ?_⟩)
    rw [eH]
    refine KK.mk (hmA_ok hA (by omega) hk hm4 hm1 n2 t2 p1 p2 s2) ⟨addH_G (kd := ⟨k, by omega⟩) hm0 hX.1, ⟨fun h hh => ?_, fun i hi => ?_, fun i hi => ?_, hX.2.1.2.2.2.1, hX.2.1.2.2.2.2⟩, hX.2.2.1, hX.2.2.2.fr rfl ((xsTB_fr (u := 0)).2.2.2 1 (by decide)).1 rfl⟩ hM'
    · have hh : h < A.1 0 + 1 := hh
      rw [xsTB_at (by omega)]
      show upd (xTB σ 0 0) (A.1 0) (nI st) h = sI (va_up (A.2 6) (A.1 0) (st + 1) h)
      by_cases e : h = A.1 0
      · rw [e, pk_us, va_up_self, sI_succ]
      · rw [pk_un e, va_up_ne _ _ e]; exact hX.2.1.1 h (by omega)
    · rw [xsTB_ne (by decide)]
      show xTB σ 0 1 i = nI (if i < A.1 0 + 1 then va_up (A.2 8) (A.1 0) (A.1 0) i else i)
      rw [hX.2.1.2.1 i hi]
      by_cases e : i = A.1 0
      · rw [e, va_up_self, if_neg (by omega), if_pos (by omega)]
      · rw [va_up_ne _ _ e]
        by_cases c : i < A.1 0
        · rw [if_pos c, if_pos (by omega)]
        · rw [if_neg c, if_neg (by omega)]
    · rw [xsTB_ne (by decide)]; exact hX.2.1.2.2.1 i hi
  · rw [if_neg (fun z => q (l10.mp z))]
    refine ⟨sameG_refl g, m_hermitK (A := A) (fun k' hk' e _ _ _ _ _ => ?_) (fun z => absurd cond z)⟩
    rw [hM.1.1, if_pos (m10.mpr (by omega))]; exact ⟨rfl, fin⟩
end
