/-! vow() and hermit(): one more -/
def vwA (A : AS) (a b c d : Nat) : AS := (va_up (va_up A.1 12 (A.1 12 + 1)) 17 0, va_up (va_up (va_up (va_up A.2 13 (va_up (A.2 13) (A.1 12) a)) 14 (va_up (A.2 14) (A.1 12) b)) 15 (va_up (A.2 15) (A.1 12) c)) 16 (va_up (A.2 16) (A.1 12) d))
theorem upN {f : Nat → Nat} {k v i : Nat} : va_up f k v i = if i = k then v else f i := rfl
theorem vwA_ok {A : AS} {a b c d : Nat} (hA : WFA A) (h5 : A.1 12 ≤ 5) (ha : a ≤ 1) (hb : b ≤ 9) (hc : c ≤ 1) (hd : d ≤ 9) : WFA (vwA A a b c d) := by
  refine ⟨hA.1, ⟨?_, fun v hv => ?_⟩, ⟨Nat.zero_le _, fun i hi => absurd hi (Nat.not_lt_zero _)⟩, hA.2.2.2⟩
  · show A.1 12 + 1 ≤ 6; omega
  · have hv : v < A.1 12 + 1 := hv
    show va_up (A.2 13) (A.1 12) a v ≤ 1 ∧ va_up (A.2 14) (A.1 12) b v ≤ 9 ∧ va_up (A.2 15) (A.1 12) c v ≤ 1 ∧ va_up (A.2 16) (A.1 12) d v ≤ 9
    by_cases e : v = A.1 12
    · rw [e, va_up_self, va_up_self, va_up_self, va_up_self]; exact ⟨ha, hb, hc, hd⟩
    · rw [va_up_ne _ _ e, va_up_ne _ _ e, va_up_ne _ _ e, va_up_ne _ _ e]; exact hA.2.1.2 v (by omega)
theorem vR_add {g : XG} {ed : Nat} {x : VRec} {h : nV g < 10} (v : Fin (nV (addV g ed x h))) : (∃ hv : v.val < nV g, vR (addV g ed x h) v = vR g ⟨v.val, hv⟩) ∨ (v.val = nV g ∧ vR (addV g ed x h) v = x) := by
  have hl : v.val < (vs g ++ [x]).length := v.isLt
  have e : vR (addV g ed x h) v = (vs g ++ [x])[v.val]'hl := rfl
  rw [List.length_append] at hl
  have hl : v.val < nV g + 1 := hl
  by_cases q : v.val < nV g
  · refine Or.inl ⟨q, ?_⟩
    rw [e, List.getElem_append_left q]; rfl
  · refine Or.inr ⟨by omega, ?_⟩
    rw [e, List.getElem_append_right (by show nV g ≤ v.val; omega)]
    simp
theorem hR_add {g : XG} {ed : Nat} {x : HRec} {h : nH g < 10} (v : Fin (nH (addH g ed x h))) : (∃ hv : v.val < nH g, hR (addH g ed x h) v = hR g ⟨v.val, hv⟩) ∨ (v.val = nH g ∧ hR (addH g ed x h) v = x) := by
  have hl : v.val < (hs g ++ [x]).length := v.isLt
  have e : hR (addH g ed x h) v = (hs g ++ [x])[v.val]'hl := rfl
  rw [List.length_append] at hl
  have hl : v.val < nH g + 1 := hl
  by_cases q : v.val < nH g
  · refine Or.inl ⟨q, ?_⟩
    rw [e, List.getElem_append_left q]; rfl
  · refine Or.inr ⟨by omega, ?_⟩
    rw [e, List.getElem_append_right (by show nH g ≤ v.val; omega)]
    simp
theorem nV_add {g : XG} {ed : Nat} {x : VRec} {h : nV g < 10} : nV (addV g ed x h) = nV g + 1 := by
  show (vs g ++ [x]).length = _
  rw [List.length_append]; rfl
theorem nH_add {g : XG} {ed : Nat} {x : HRec} {h : nH g < 10} : nH (addH g ed x h) = nH g + 1 := by
  show (hs g ++ [x]).length = _
  rw [List.length_append]; rfl
theorem addV_G {em : Nat} {A : AS} {g : XG} {ed q a b c d : Nat} {h : nV g < 10} (hG : KXg em A g) : KXg em (vwA A a b c d) (addV g ed (q, nI a, nI b, nI c, nI d) h) := by
  have hn := hG.2.1
  refine ⟨hG.1, ?_, hG.2.2.1, fun v => ?_, fun z => ?_, hG.2.2.2.2.2⟩
  · rw [nV_add, hn]; rfl
  · show vF0 _ v = nI (va_up (A.2 13) (A.1 12) a v.val) ∧ vF1 _ v = nI (va_up (A.2 14) (A.1 12) b v.val) ∧ vF2 _ v = nI (va_up (A.2 15) (A.1 12) c v.val) ∧ vF3 _ v = nI (va_up (A.2 16) (A.1 12) d v.val)
    rcases vR_add v with ⟨hv, e⟩ | ⟨hv, e⟩
    · have ne : v.val ≠ A.1 12 := by omega
      have r := hG.2.2.2.1 ⟨v.val, hv⟩
      rw [va_up_ne _ _ ne, va_up_ne _ _ ne, va_up_ne _ _ ne, va_up_ne _ _ ne]
      unfold vF0 vF1 vF2 vF3
      rw [e]; exact r
    · have ee : v.val = A.1 12 := by omega
      rw [ee, va_up_self, va_up_self, va_up_self, va_up_self]
      unfold vF0 vF1 vF2 vF3
      rw [e]; exact ⟨rfl, rfl, rfl, rfl⟩
  · rw [nV_add] at z; omega
theorem m_vow_go {A : AS} {μ τ : MS} {a b c d : Nat} {P : Int32 → MS → Prop} (hA : WFA A) (hM : KM A τ) (h5 : A.1 12 ≤ 5) (ha : a ≤ 1) (hc : c ≤ 1) (r28 : τ.1 28 = nI a) (r29 : τ.1 29 = nI b) (r30 : τ.1 30 = nI c) (r31 : τ.1 31 = nI d) (hP : ∀ τ', KM (vwA A a b c d) τ' → P (nI (A.1 12)) τ') : (vp_in (τ.1 12) 6 ∧ (isB (τ.1 28) ∧ (bnd (mseta τ 13 (τ.1 12) (τ.1 28)) fun σ_3 => vp_in (σ_3.1 12) 6 ∧ (bnd (mseta σ_3 14 (σ_3.1 12) (σ_3.1 29)) fun σ_5 => vp_in (σ_5.1 12) 6 ∧ (isB (σ_5.1 30) ∧ (bnd (mseta σ_5 15 (σ_5.1 12) (σ_5.1 30)) fun σ_7 => vp_in (σ_7.1 12) 6 ∧ (bnd (mseta σ_7 16 (σ_7.1 12) (σ_7.1 31)) fun σ_9 => bnd (mset σ_9 12 ((σ_9.1 12) + 1)) fun σ_10 => bnd (mset σ_10 17 0) fun σ_11 => P ((σ_11.1 12) - 1) σ_11))))))) := by
  have h12 := hM.2.1.1
  have hin : vp_in (nI (A.1 12)) 6 := vp_in_nI (by omega) (by decide)
  simp only [bnd_eq, mseta_1, h12, r28, r29, r30, r31]
  refine ⟨hin, bI_B ha, hin, hin, bI_B hc, hin, ?_⟩
  have e12 : ∀ s : MS, (mset (mset s 12 (nI (A.1 12) + 1)) 17 0).1 12 - 1 = nI (A.1 12) := fun s => by
    show upd (upd s.1 12 (nI (A.1 12) + 1)) 17 0 12 - 1 = _
    rw [pk_un (by decide), pk_us, nI_1]; exact pk_sub (a := A.1 12 + 1) (b := 1) (by omega)
  rw [e12]
  refine hP _ ⟨hM.1, ⟨?_, fun v hv => ?_⟩, ⟨rfl, fun i hi => absurd hi (Nat.not_lt_zero _)⟩, hM.2.2.2⟩
  · show nI (A.1 12) + 1 = nI (A.1 12 + 1); exact nI_1 _
  · have hv : v < A.1 12 + 1 := hv
    show upd (τ.2.1 13) (nI (A.1 12)).toNatClampNeg (nI a) v = nI (va_up (A.2 13) (A.1 12) a v) ∧ upd (τ.2.1 14) (nI (A.1 12)).toNatClampNeg (nI b) v = nI (va_up (A.2 14) (A.1 12) b v) ∧ upd (τ.2.1 15) (nI (A.1 12)).toNatClampNeg (nI c) v = nI (va_up (A.2 15) (A.1 12) c v) ∧ upd (τ.2.1 16) (nI (A.1 12)).toNatClampNeg (nI d) v = nI (va_up (A.2 16) (A.1 12) d v)
    rw [nI_clamp (by omega)]
    by_cases e : v = A.1 12
    · rw [e, pk_us, pk_us, pk_us, pk_us, va_up_self, va_up_self, va_up_self, va_up_self]; exact ⟨rfl, rfl, rfl, rfl⟩
    · rw [pk_un e, pk_un e, pk_un e, pk_un e, va_up_ne _ _ e, va_up_ne _ _ e, va_up_ne _ _ e, va_up_ne _ _ e]
      exact hM.2.1.2 v (by omega)
theorem sameG_refl (g : XG) : sameG g g := ⟨rfl, rfl, rfl, rfl, rfl⟩
theorem ok_vow {em : Nat} {g : XG} {σ : XS} {μ : MS} (hK : KK em g σ μ) : qX10_vow g (fun τ => (nV g = 0 → g.2.2.2.2.2.2.2.1 = em) ∧ isB (xP τ 4) ∧ isB (xP τ 6) ∧ ∃ (hlt : nV g < 10), ∀ q ed, (fun (r : Int32) (ξ : XG × XS) => sameG g ξ.1 ∧ qX11_vow μ (fun r2 μ1 => r = r2 ∧ KK em ξ.1 ξ.2 μ1)) (nI (nV g)) (addV g ed (q, xP τ 4, xP τ 5, xP τ 6, xP τ 7) hlt, xsP τ 1 0)) σ (fun r τ => (fun (r : Int32) (ξ : XG × XS) => sameG g ξ.1 ∧ qX11_vow μ (fun r2 μ1 => r = r2 ∧ KK em ξ.1 ξ.2 μ1)) r (g, τ)) := by
  obtain ⟨A, hA, hX, hM⟩ := hK
  have h6 := hA.2.1.1
  have hn := hX.1.2.1
  obtain ⟨k, fl, a, b, c, d, b1, b2, b3, b4, b5, b6, hx, hm⟩ := rd_all (g := g) (pgX hA hX) (pgM hA hM)
  unfold qX10_vow
  refine hx _ (fun τ f e2 e3 hv => ?_)
  have l6 : (nI (nV g) < 6) ↔ A.1 12 < 6 := by rw [hn]; exact nI_ltI (b := 6) (by omega) (by decide)
  have m6 : (nI (A.1 12) = 6) ↔ A.1 12 = 6 := nI_eq (b := 6) (by omega) (by decide)
  rw [e3]
  rcases (by omega : fl = 0 ∨ fl = 1) with rfl | rfl
  · rw [if_pos (show nI 0 = 0 from rfl)]
    refine ⟨sameG_refl g, hm _ (fun τ2 f2 e26 e27 _ => ?_)⟩
    rw [e27, if_pos (show nI 0 = 0 from rfl)]
    exact ⟨rfl, KK.mk hA (hX.frP f) (hM.fr f2)⟩
  · rw [if_neg (show ¬ nI 1 = 0 by decide)]
    obtain ⟨v4, v5, v6, v7⟩ := hv rfl
    by_cases q : A.1 12 < 6
    · rw [if_pos (l6.mpr q)]
      have hlt : nV g < 10 := by omega
      refine ⟨hX.1.2.2.2.2.1, by rw [v4]; exact bI_B b3, by rw [v6]; exact bI_B b5, hlt, fun q0 ed => ⟨⟨rfl, rfl, rfl, rfl, rfl⟩, ?_⟩⟩
      refine hm _ (fun τ2 f2 e26 e27 hv2 => ?_)
      obtain ⟨w4, w5, w6, w7⟩ := hv2 rfl
      have hM2 := hM.fr f2
      rw [e27, if_neg (show ¬ nI 1 = 0 by decide), hM2.2.1.1, if_neg (fun z => by have := m6.mp z; omega), ← hM2.2.1.1]
      refine m_vow_go (μ := μ) (P := fun r2 μ1 => nI (nV g) = r2 ∧ KK em (addV g ed (q0, xP τ 4, xP τ 5, xP τ 6, xP τ 7) hlt) (xsP τ 1 0) μ1) hA hM2 (by omega) b3 b5 w4 w5 w6 w7 (fun τ' hM' => ⟨by rw [hn], ?_⟩)
      rw [v4, v5, v6, v7]
      have hX2 := hX.frP f
      exact KK.mk (vwA_ok hA (by omega) b3 b4 b5 b6) ⟨addV_G hX2.1, hX2.2.1, ⟨rfl, fun i hi => absurd hi (Nat.not_lt_zero _)⟩, hX2.2.2.2⟩ hM'
    · rw [if_neg (fun z => q (l6.mp z))]
      refine ⟨sameG_refl g, hm _ (fun τ2 f2 e26 e27 _ => ?_)⟩
      have hM2 := hM.fr f2
      rw [e27, if_neg (show ¬ nI 1 = 0 by decide), hM2.2.1.1, if_pos (m6.mpr (by omega))]
      exact ⟨rfl, KK.mk hA (hX.frP f) hM2⟩
/- hermit -/
def hmA (A : AS) (k m nd tt bt st : Nat) : AS := (va_up A.1 0 (A.1 0 + 1), va_up (va_up (va_up (va_up (va_up (va_up (va_up (va_up A.2 1 (va_up (A.2 1) (A.1 0) k)) 2 (va_up (A.2 2) (A.1 0) m)) 3 (va_up (A.2 3) (A.1 0) nd)) 4 (va_up (A.2 4) (A.1 0) tt)) 5 (va_up (A.2 5) (A.1 0) bt)) 6 (va_up (A.2 6) (A.1 0) (st + 1))) 7 (va_up (A.2 7) (A.1 0) (A.1 0))) 8 (va_up (A.2 8) (A.1 0) (A.1 0)))
theorem hmA_ok {A : AS} {k m nd tt bt st : Nat} (hA : WFA A) (h9 : A.1 0 ≤ 9) (hk : k ≤ 4) (hm : m ≤ 4) (hm1 : k = 1 ∨ k = 3 ∨ k = 4 → 1 ≤ m) (hnd : nd ≤ 99) (htt : tt ≤ 3) (hb1 : 1 ≤ bt) (hb : bt ≤ 9) (hst : st ≤ 99) : WFA (hmA A k m nd tt bt st) := by
  refine ⟨⟨?_, hA.1.2.1, hA.1.2.2.1, fun h hh => ?_, fun h hh => ?_, hA.1.2.2.2.2.2⟩, hA.2.1, hA.2.2.1, hA.2.2.2.1, fun q => ?_⟩
  · show A.1 0 + 1 ≤ 10; omega
  · have hh : h < A.1 0 + 1 := hh
    show va_up (A.2 1) (A.1 0) k h ≤ 4 ∧ va_up (A.2 2) (A.1 0) m h ≤ 4 ∧ (va_up (A.2 1) (A.1 0) k h = 1 ∨ va_up (A.2 1) (A.1 0) k h = 3 ∨ va_up (A.2 1) (A.1 0) k h = 4 → 1 ≤ va_up (A.2 2) (A.1 0) m h) ∧ va_up (A.2 3) (A.1 0) nd h ≤ 99 ∧ va_up (A.2 4) (A.1 0) tt h ≤ 3 ∧ 1 ≤ va_up (A.2 5) (A.1 0) bt h ∧ va_up (A.2 5) (A.1 0) bt h ≤ 9 ∧ va_up (A.2 7) (A.1 0) (A.1 0) h < A.1 0 + 1 ∧ va_up (A.2 8) (A.1 0) (A.1 0) h < A.1 0 + 1 ∧ va_up (A.2 8) (A.1 0) (A.1 0) (va_up (A.2 7) (A.1 0) (A.1 0) h) = h ∧ va_up (A.2 7) (A.1 0) (A.1 0) (va_up (A.2 8) (A.1 0) (A.1 0) h) = h
    by_cases e : h = A.1 0
    · rw [e]
      simp only [va_up_self]
      exact ⟨hk, hm, hm1, hnd, htt, hb1, hb, by omega, by omega, trivial, trivial⟩
    · have a := hA.1.2.2.2.1 h (by omega)
      obtain ⟨a1, a2, a3, a4, a5, a6, a7, a8, a9, a10, a11⟩ := a
      simp only [va_up_ne _ _ e]
      rw [va_up_ne _ _ (show A.2 7 h ≠ A.1 0 by omega), va_up_ne _ _ (show A.2 8 h ≠ A.1 0 by omega)]
      exact ⟨a1, a2, a3, a4, a5, a6, a7, by omega, by omega, a10, a11⟩
  · have hh : h < A.1 0 + 1 := hh
    show va_up (A.2 6) (A.1 0) (st + 1) h ≤ 100
    by_cases e : h = A.1 0
    · rw [e, va_up_self]; omega
    · rw [va_up_ne _ _ e]; exact hA.1.2.2.2.2.1 h (by omega)
  · have z := hA.2.2.2.2 q
    exact ⟨Nat.le_succ_of_le z.1, z.2⟩
theorem addH_G {em : Nat} {A : AS} {g : XG} {ed q m nd tt bt st : Nat} {kd : Fin 5} {h : nH g < 10} (hm : (if kd = 0 ∨ kd = 2 then 0 else nI m) = nI m) (hG : KXg em A g) : KXg em (hmA A kd.val m nd tt bt st) (addH g ed (hrec q kd (nI m) (nI nd) (nI tt) (nI bt)) h) := by
  have hn := hG.1
  refine ⟨?_, hG.2.1, fun j => ?_, hG.2.2.2.1, hG.2.2.2.2.1, fun z => ?_⟩
  · rw [nH_add, hn]; rfl
  · show (hK _ j).val = va_up (A.2 1) (A.1 0) kd.val j.val ∧ hF0 _ j = nI (va_up (A.2 2) (A.1 0) m j.val) ∧ hF1 _ j = nI (va_up (A.2 3) (A.1 0) nd j.val) ∧ hF2 _ j = nI (va_up (A.2 4) (A.1 0) tt j.val) ∧ hF3 _ j = nI (va_up (A.2 5) (A.1 0) bt j.val)
    rcases hR_add j with ⟨hv, e⟩ | ⟨hv, e⟩
    · have ne : j.val ≠ A.1 0 := by omega
      have r := hG.2.2.1 ⟨j.val, hv⟩
      rw [va_up_ne _ _ ne, va_up_ne _ _ ne, va_up_ne _ _ ne, va_up_ne _ _ ne, va_up_ne _ _ ne]
      unfold hK hF0 hF1 hF2 hF3
      rw [e]; exact r
    · have ee : j.val = A.1 0 := by omega
      rw [ee, va_up_self, va_up_self, va_up_self, va_up_self, va_up_self]
      unfold hK hF0 hF1 hF2 hF3
      rw [e]; exact ⟨rfl, hm, rfl, rfl, rfl⟩
  · rw [nH_add] at z; omega
theorem m_hermit_go {A : AS} {μ : MS} {k m nd tt bt st : Nat} {P : Int32 → MS → Prop} (hA : WFA A) (hM : KM A μ) (h9 : A.1 0 ≤ 9) (hP : ∀ τ', KM (hmA A k m nd tt bt st) τ' → P (nI (A.1 0)) τ') : (vp_in (μ.1 0) 10 ∧ (bnd (mseta μ 1 (μ.1 0) (nI k)) fun σ_14 => vp_in (σ_14.1 0) 10 ∧ (bnd (mseta σ_14 2 (σ_14.1 0) (nI m)) fun σ_16 => vp_in (σ_16.1 0) 10 ∧ (bnd (mseta σ_16 3 (σ_16.1 0) (nI nd)) fun σ_18 => vp_in (σ_18.1 0) 10 ∧ (bnd (mseta σ_18 4 (σ_18.1 0) (nI tt)) fun σ_20 => vp_in (σ_20.1 0) 10 ∧ (bnd (mseta σ_20 5 (σ_20.1 0) (nI bt)) fun σ_22 => vp_in (σ_22.1 0) 10 ∧ (bnd (mseta σ_22 6 (σ_22.1 0) (nI st)) fun σ_24 => vp_in (σ_24.1 0) 10 ∧ (bnd (mseta σ_24 7 (σ_24.1 0) (σ_24.1 0)) fun σ_26 => vp_in (σ_26.1 0) 10 ∧ (bnd (mseta σ_26 8 (σ_26.1 0) (σ_26.1 0)) fun σ_28 => bnd (mset σ_28 0 ((σ_28.1 0) + 1)) fun σ_29 => P ((σ_29.1 0) - 1) σ_29))))))))) := by
  have h0 := hM.1.1
  have hin : vp_in (nI (A.1 0)) 10 := vp_in_nI (by omega) (by decide)
  simp only [bnd_eq, mseta_1, h0]
  refine ⟨hin, hin, hin, hin, hin, hin, hin, hin, ?_⟩
  have e0 : ∀ s : MS, (mset s 0 (nI (A.1 0) + 1)).1 0 - 1 = nI (A.1 0) := fun s => by
    show upd s.1 0 (nI (A.1 0) + 1) 0 - 1 = _
    rw [pk_us, nI_1]; exact pk_sub (a := A.1 0 + 1) (b := 1) (by omega)
  rw [e0]
  have cl : (nI (A.1 0)).toNatClampNeg = A.1 0 := nI_clamp (by omega)
  have up : ∀ {f : Nat → Int32} {f' : Nat → Nat} {v h : Nat}, (h < A.1 0 → f h = nI (f' h)) → h < A.1 0 + 1 → upd f (nI (A.1 0)).toNatClampNeg (nI v) h = nI (va_up f' (A.1 0) v h) := fun {f f' v h} q hh => by
    rw [cl]
    by_cases e : h = A.1 0
    · rw [e, pk_us, va_up_self]
    · rw [pk_un e, va_up_ne _ _ e]; exact q (by omega)
  refine hP _ ⟨⟨?_, hM.1.2.1, hM.1.2.2.1, fun h hh => ?_, fun h hh => ?_, hM.1.2.2.2.2.2⟩, hM.2.1, hM.2.2.1, hM.2.2.2⟩
  · show nI (A.1 0) + 1 = nI (A.1 0 + 1); exact nI_1 _
  · have hh : h < A.1 0 + 1 := hh
    show upd (μ.2.1 1) (nI (A.1 0)).toNatClampNeg (nI k) h = nI (va_up (A.2 1) (A.1 0) k h) ∧ upd (μ.2.1 2) (nI (A.1 0)).toNatClampNeg (nI m) h = nI (va_up (A.2 2) (A.1 0) m h) ∧ upd (μ.2.1 3) (nI (A.1 0)).toNatClampNeg (nI nd) h = nI (va_up (A.2 3) (A.1 0) nd h) ∧ upd (μ.2.1 4) (nI (A.1 0)).toNatClampNeg (nI tt) h = nI (va_up (A.2 4) (A.1 0) tt h) ∧ upd (μ.2.1 5) (nI (A.1 0)).toNatClampNeg (nI bt) h = nI (va_up (A.2 5) (A.1 0) bt h) ∧ upd (μ.2.1 7) (nI (A.1 0)).toNatClampNeg (nI (A.1 0)) h = nI (va_up (A.2 7) (A.1 0) (A.1 0) h) ∧ upd (μ.2.1 8) (nI (A.1 0)).toNatClampNeg (nI (A.1 0)) h = nI (va_up (A.2 8) (A.1 0) (A.1 0) h)
    have r := hM.1.2.2.2.1 h
    exact ⟨up (fun q => (r q).1) hh, up (fun q => (r q).2.1) hh, up (fun q => (r q).2.2.1) hh, up (fun q => (r q).2.2.2.1) hh, up (fun q => (r q).2.2.2.2.1) hh, up (fun q => (r q).2.2.2.2.2.1) hh, up (fun q => (r q).2.2.2.2.2.2) hh⟩
  · have hh : h < A.1 0 + 1 := hh
    show upd (μ.2.1 6) (nI (A.1 0)).toNatClampNeg (nI st) h = sI (va_up (A.2 6) (A.1 0) (st + 1) h)
    rw [cl]
    by_cases e : h = A.1 0
    · rw [e, pk_us, va_up_self, sI_succ]
    · rw [pk_un e, va_up_ne _ _ e]; exact hM.1.2.2.2.2.1 h (by omega)
def lnum (k : Nat) : Nat := if k = 1 ∨ k = 4 then 2 else if k = 3 then 1 else 0
def mnum (k : Nat) : Nat := if k = 0 ∨ k = 2 then 0 else 4
theorem x_num {g : XG} {σ : XS} {k : Nat} {P : Int32 → XS → Prop} {Q : Int32 → Int32 → XS → Prop} (hk : k ≤ 4) (h : Q (nI (lnum k)) (nI (mnum k)) σ) : qX10_leastNumber g σ (nI k) fun r_4 σ_3 => qX10_mostNumber g σ_3 (nI k) fun r_6 σ_5 => Q r_4 r_6 σ_5 := by
  unfold qX10_leastNumber qX10_mostNumber qX10_mostNumber_J9
  rcases (by omega : k = 0 ∨ k = 1 ∨ k = 2 ∨ k = 3 ∨ k = 4) with rfl | rfl | rfl | rfl | rfl
  · rw [if_neg (by decide), if_neg (by decide), if_neg (by decide)]; dsimp only; rw [if_pos (by decide)]; exact h
  · rw [if_pos (by decide)]; dsimp only; rw [if_neg (by decide), if_neg (by decide)]; exact h
  · rw [if_neg (by decide), if_neg (by decide), if_neg (by decide)]; dsimp only; rw [if_neg (by decide), if_pos (by decide)]; exact h
  · rw [if_neg (by decide), if_pos (by decide)]; dsimp only; rw [if_neg (by decide), if_neg (by decide)]; exact h
  · rw [if_neg (by decide), if_neg (by decide), if_pos (by decide)]; dsimp only; rw [if_neg (by decide), if_neg (by decide)]; exact h
theorem m_numK {μ : MS} {k : Nat} {x : Int32} {Y N : MS → Prop} (hk : k ≤ 4) (h1 : Bt x (lnum k) (mnum k) → Y μ) (h0 : ¬ Bt x (lnum k) (mnum k) → N μ) : qX11_isNumber μ (nI k) x (fun r σ_1 => if r = 0 then N σ_1 else Y σ_1) := by
  have w : ∀ lo hi : Nat, lo < 2 ^ 31 → hi < 2 ^ 31 → lo = lnum k → hi = mnum k → qX11_within μ x (nI lo) (nI hi) (fun r_3 σ_2 => isB r_3 ∧ (if r_3 = 0 then N σ_2 else Y σ_2)) := fun lo hi hl hh e1 e2 =>
    m_within hl hh (fun q => ⟨isB_1, if1 (h1 (by rw [← e1, ← e2]; exact q))⟩) (fun q => ⟨isB_0, if0 (h0 (by rw [← e1, ← e2]; exact q))⟩)
  have z : mnum k = 0 → lnum k = 0 → (if x = 0 then (if (1 : Int32) = 0 then N μ else Y μ) else (if (0 : Int32) = 0 then N μ else Y μ)) := fun e1 e2 => by
    rw [e1, e2] at h1 h0
    by_cases q : x = 0
    · rw [if_pos q]; exact if1 (h1 ⟨0, Nat.le_refl _, Nat.le_refl _, q⟩)
    · rw [if_neg q]; exact if0 (h0 (fun ⟨j, _, hj, e⟩ => q (by rw [e, show j = 0 by omega]; rfl)))
  unfold qX11_isNumber
  rcases (by omega : k = 0 ∨ k = 1 ∨ k = 2 ∨ k = 3 ∨ k = 4) with rfl | rfl | rfl | rfl | rfl
  · rw [bnd_eq, if_pos (by decide), if_neg (by decide)]; exact z rfl rfl
  · rw [bnd_eq, if_neg (by decide)]; exact w 2 4 (by decide) (by decide) rfl rfl
  · rw [bnd_eq, if_pos (by decide), if_neg (by decide)]; exact z rfl rfl
  · rw [bnd_eq, if_pos (by decide), if_pos (by decide)]; exact w 1 4 (by decide) (by decide) rfl rfl
  · rw [bnd_eq, if_neg (by decide)]; exact w 2 4 (by decide) (by decide) rfl rfl
