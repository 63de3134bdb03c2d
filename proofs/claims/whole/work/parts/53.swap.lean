/-! bestSwap() -/
theorem swp2 {A : AS} (hA : Tok A) {i j : Nat} (hi : i < A.1 0) (hj : j < A.1 0) (hij : i ≠ j) : swp (swp A i j) i j = A := by
  have a := pq_of hA i hi
  have b := pq_of hA j hj
  refine Prod.ext rfl (funext fun k => ?_)
  by_cases e7 : k = 7
  · subst e7
    rw [swp_7, swp_7, swp_8]
    funext h
    rw [qswp_v, pswp_v, if_neg hij, if_pos rfl, pswp_v, if_pos rfl, qswp_v]
    by_cases e1 : h = A.2 8 j
    · rw [if_pos e1, e1, b.2.2.2]
    rw [if_neg e1]
    by_cases e2 : h = A.2 8 i
    · rw [if_pos e2, e2, a.2.2.2]
    rw [if_neg e2, if_neg e2, if_neg e1]
  by_cases e8 : k = 8
  · subst e8
    rw [swp_8, swp_8, pswp2 hij]
  rw [swp_12 e7 e8, swp_12 e7 e8]
theorem KXg.swp {em : Nat} {A : AS} {g : XG} {i j : Nat} (h : KXg em A g) : KXg em (swp A i j) g := by
  unfold KXg at *
  rw [swp_1, swp_12 (k := 1) (by decide) (by decide), swp_12 (k := 2) (by decide) (by decide), swp_12 (k := 3) (by decide) (by decide), swp_12 (k := 4) (by decide) (by decide), swp_12 (k := 5) (by decide) (by decide), swp_12 (k := 13) (by decide) (by decide), swp_12 (k := 14) (by decide) (by decide), swp_12 (k := 15) (by decide) (by decide), swp_12 (k := 16) (by decide) (by decide)]
  exact h
/-- least, if i and j change seats -/
def sg (A : AS) (v seat i j : Nat) : Int32 := zlst (swp A i j) v (A.2 14 v) seat
def sstep (A : AS) (v seat : Nat) (a : Int32 × Int32) (i j : Nat) : Int32 × Int32 := if sg A v seat i j ≤ a.2 then a else (nI (16 * i + j), sg A v seat i j)
def swJ (A : AS) (v seat : Nat) (a : Int32 × Int32) (i : Nat) : Nat → Int32 × Int32
  | 0 => a
  | j + 1 => if i < j then sstep A v seat (swJ A v seat a i j) i j else swJ A v seat a i j
theorem swJ_s (A : AS) (v seat : Nat) (a : Int32 × Int32) (i j : Nat) : swJ A v seat a i (j + 1) = if i < j then sstep A v seat (swJ A v seat a i j) i j else swJ A v seat a i j := rfl
theorem swJ_0 {A : AS} {v seat : Nat} {a : Int32 × Int32} {i : Nat} : ∀ j, j ≤ i + 1 → swJ A v seat a i j = a
  | 0, _ => rfl
  | j + 1, h => by rw [swJ_s, if_neg (by omega)]; exact swJ_0 j (by omega)
def swO (A : AS) (v seat : Nat) : Nat → Int32 × Int32
  | 0 => (-1, zlst A v (A.2 14 v) seat)
  | i + 1 => swJ A v seat (swO A v seat i) i (A.1 0)
theorem swO_s (A : AS) (v seat i : Nat) : swO A v seat (i + 1) = swJ A v seat (swO A v seat i) i (A.1 0) := rfl
section
variable {g : XG} {em : Nat} {A : AS}
theorem x_swJ {P : Int32 → XS → Prop} {e129 : XS → Fin (nV g) → Int32 → Int32 → Int32 → Int32 → Int32 → Prop} (hA : WFA A) (hG : KXg em A g) {v : Fin (nV g)} (hv : v.val < A.1 12) {seat : Nat} (hs : seat < A.1 0) {a : Int32 × Int32} {i : Nat} (hi : i < A.1 0) (hP : ∀ τ, KX em A g τ → TabA A (A.2 6) (A.2 8) τ 2 → e129 τ v (nI seat) (nI (A.1 0)) (swJ A v.val seat a i (A.1 0)).1 (swJ A v.val seat a i (A.1 0)).2 (nI i)) : ∀ (m j : Nat) (τ : XS), j + m = A.1 0 → i < j → KX em A g τ → TabA A (A.2 6) (A.2 8) τ 2 → qX0_swapAdvised_L54 g e129 P (m + 1) τ v (nI seat) (nI (A.1 0)) (swJ A v.val seat a i j).1 (swJ A v.val seat a i j).2 (nI i) (nI j)
  | 0, j, τ, e, hij, h, hT => by
    have h10 := hA.1.1
    have ej : j = A.1 0 := by omega
    subst ej
    rw [qX0_swapAdvised_L54, if_pos (Int32.le_refl _)]; exact hP τ h hT
  | m + 1, j, τ, e, hij, h, hT => by
    have h10 := hA.1.1
    have hj : j < A.1 0 := by omega
    have w := hA.2.1.2 _ hv
    have ne : i ≠ j := by omega
    have hA' := swp_WFA hA hi hj ne
    rw [qX0_swapAdvised_L54, if_neg (nI_ge hj (by omega)), show vF1 g v = nI (A.2 14 v.val) from (hG.2.2.2.1 v).2.1]
    refine x_exchange hT h10 hi hj ne (fun τ1 f1 hT1 => ?_)
    have hT1' : TabA (swp A i j) ((swp A i j).2 6) ((swp A i j).2 8) τ1 2 := by
      unfold TabA
      rw [swp_8, swp_12 (k := 6) (by decide) (by decide), swp_12 (k := 9) (by decide) (by decide), swp_1]
      exact hT1
    refine x_leastOf (A := swp A i j) hA'.1 (hA'.2.1.2 _ hv) w.2.1 hG.swp hT1' hs (fun D => ?_)
    have hT2 : Tab (A.1 0) (A.2 6) (pswp (A.2 8) i j) (A.2 9) (A.1 10) (A.1 11) (xov D (D.1 41) (zleft D) 601 (xbeg τ1 2)) 2 := hT1
    refine x_exchange hT2 h10 hi hj ne (fun τ2 f2 hT3 => ?_)
    rw [pswp2 ne] at hT3
    have hX2 : KX em A g τ2 := h.frT (f1.trans (FrT.ov.trans f2))
    have ih := x_swJ (P := P) hA hG hv hs hi hP m (j + 1) τ2 (by omega) (by omega) hX2 hT3
    rw [swJ_s, if_pos hij] at ih
    unfold qX0_swapAdvised_J123
    have eg : zlst (swp A i j) v.val (A.2 14 v.val) seat = sg A v.val seat i j := rfl
    rw [eg]
    unfold sstep at ih
    by_cases q : sg A v.val seat i j ≤ (swJ A v.val seat a i j).2
    · rw [if_pos q, bnd_eq, nI_1]
      rw [if_pos q] at ih; exact ih
    · rw [if_neg q, bnd_eq, bnd_eq, nI_1, show (16 : Int32) * nI i + nI j = nI (16 * i + j) from by rw [show (16 : Int32) * nI i = nI (16 * i) from pk_mul 16 i, nI_add]]
      rw [if_neg q] at ih; exact ih
theorem x_swO {P : Int32 → XS → Prop} (hA : WFA A) (hG : KXg em A g) {v : Fin (nV g)} (hv : v.val < A.1 12) {seat : Nat} (hs : seat < A.1 0) (hP : ∀ τ, KX em A g τ → P (swO A v.val seat (A.1 0)).1 τ) : ∀ (m i : Nat) (τ : XS), i + m = A.1 0 → KX em A g τ → TabA A (A.2 6) (A.2 8) τ 2 → qX0_swapAdvised_L41 g P (m + 1) τ v (nI seat) (nI (A.1 0)) (swO A v.val seat i).1 (swO A v.val seat i).2 (nI i)
  | 0, i, τ, e, h, hT => by
    have ei : i = A.1 0 := by omega
    subst ei
    rw [qX0_swapAdvised_L41, if_pos (Int32.le_refl _)]; exact hP τ h
  | m + 1, i, τ, e, h, hT => by
    have h10 := hA.1.1
    rw [qX0_swapAdvised_L41, if_neg (nI_ge (by omega) (by omega)), bnd_eq, nI_1]
    have go := x_swJ (P := P) (e129 := fun σ_8 x2_2 x3_3 x4_4 x5_5 x6_6 x7_7 => bnd (x7_7 + 1) fun x7_9 => qX0_swapAdvised_L41 g P (m + 1) σ_8 x2_2 x3_3 x4_4 x5_5 x6_6 x7_9) hA hG hv hs (a := swO A v.val seat i) (i := i) (by omega) (fun τ1 h1 hT1 => ?_) (A.1 0 - (i + 1)) (i + 1) τ (by omega) (by omega) h hT
    · rw [swJ_0 (i + 1) (Nat.le_refl _)] at go
      exact ⟨_, go⟩
    · rw [bnd_eq, nI_1]
      have ih := x_swO hA hG hv hs hP m (i + 1) τ1 (by omega) h1 hT1
      rw [swO_s] at ih; exact ih
theorem m_swJ {P : Int32 → MS → Prop} {e115 : MS → Int32 → Int32 → Int32 → Int32 → Int32 → Prop} (hA : WFA A) {v : Nat} (hv : v < A.1 12) {seat : Nat} (hs : seat < A.1 0) {a : Int32 × Int32} {i : Nat} (hi : i < A.1 0) (hP : ∀ τ, KM A τ → e115 τ (nI v) (nI seat) (swJ A v seat a i (A.1 0)).1 (swJ A v seat a i (A.1 0)).2 (nI i)) : ∀ (m j : Nat) (τ : MS), j + m = A.1 0 → i < j → KM A τ → qX11_bestSwap_L40 e115 P (m + 1) τ (nI v) (nI seat) (swJ A v seat a i j).1 (swJ A v seat a i j).2 (nI i) (nI j)
  | 0, j, τ, e, hij, h => by
    have ej : j = A.1 0 := by omega
    subst ej
    rw [qX11_bestSwap_L40, h.1.1, if_pos (Int32.le_refl _)]; exact hP τ h
  | m + 1, j, τ, e, hij, h => by
    have h10 := hA.1.1
    have hj : j < A.1 0 := by omega
    have ne : i ≠ j := by omega
    have hA' := swp_WFA hA hi hj ne
    rw [qX11_bestSwap_L40, h.1.1, if_neg (nI_ge hj (by omega))]
    refine m_exchange hA h hi hj ne (fun τ1 h1 => ?_)
    refine m_leastOf hA' h1 hv hs (fun τ2 f2 => ?_)
    refine m_exchange hA' (h1.fr f2) hi hj ne (fun τ3 h3 => ?_)
    rw [swp2 hA.1 hi hj ne] at h3
    have ih := m_swJ (P := P) hA hv hs hi hP m (j + 1) τ3 (by omega) (by omega) h3
    rw [swJ_s, if_pos hij] at ih
    have e14 : (swp A i j).2 14 = A.2 14 := swp_12 (by decide) (by decide)
    rw [e14]
    have eg : zlst (swp A i j) v (A.2 14 v) seat = sg A v seat i j := rfl
    rw [eg, bnd_eq, bnd_eq, bnd_eq, nI_1, show (16 : Int32) * nI i + nI j = nI (16 * i + j) from by rw [show (16 : Int32) * nI i = nI (16 * i) from pk_mul 16 i, nI_add]]
    unfold sstep at ih
    by_cases q : sg A v seat i j ≤ (swJ A v seat a i j).2
    · rw [if_pos q, if_pos q]
      rw [if_pos q] at ih; exact ih
    · rw [if_neg q, if_neg q]
      rw [if_neg q] at ih; exact ih
theorem m_swO {P : Int32 → MS → Prop} (hA : WFA A) {v : Nat} (hv : v < A.1 12) {seat : Nat} (hs : seat < A.1 0) (hP : ∀ τ, KM A τ → P (swO A v seat (A.1 0)).1 τ) : ∀ (m i : Nat) (τ : MS), i + m = A.1 0 → KM A τ → qX11_bestSwap_L25 P (m + 1) τ (nI v) (nI seat) (swO A v seat i).1 (swO A v seat i).2 (nI i)
  | 0, i, τ, e, h => by
    have ei : i = A.1 0 := by omega
    subst ei
    rw [qX11_bestSwap_L25, h.1.1, if_pos (Int32.le_refl _)]; exact hP τ h
  | m + 1, i, τ, e, h => by
    have h10 := hA.1.1
    rw [qX11_bestSwap_L25, h.1.1, if_neg (nI_ge (by omega) (by omega)), bnd_eq, nI_1]
    have go := m_swJ (P := P) (e115 := fun σ_7 x1_2 x2_3 x3_4 x4_5 x5_6 => bnd (x5_6 + 1) fun x5_8 => qX11_bestSwap_L25 P (m + 1) σ_7 x1_2 x2_3 x3_4 x4_5 x5_8) hA hv hs (a := swO A v seat i) (i := i) (by omega) (fun τ1 h1 => ?_) (A.1 0 - (i + 1)) (i + 1) τ (by omega) (by omega) h
    · rw [swJ_0 (i + 1) (Nat.le_refl _)] at go
      exact ⟨_, go⟩
    · rw [bnd_eq, nI_1]
      have ih := m_swO hA hv hs hP m (i + 1) τ1 (by omega) h1
      rw [swO_s] at ih; exact ih
theorem x_trial {σ : XS} {P : XS → Prop} (hA : WFA A) (hX : KX em A g σ) (hP : ∀ τ, KX em A g τ → xR τ = xR σ → TabA A (A.2 6) (A.2 8) τ 2 → P τ) : qX8_becomeLike g σ 2 0 (nI (A.1 0)) P := by
  have h10 := hA.1.1
  refine x_like (x0 := 2) (x1 := 0) (by decide) h10 ?_ (fun τ f hr h1 h2 h4 h5 => ?_)
  · rw [hX.2.1.2.2.2.2]; exact bI_B hA.1.2.2.1
  · refine hP τ (hX.frT f) hr ⟨fun h hh => ?_, fun k hk => ?_, fun k hk => ?_, ?_, ?_⟩
    · rw [(h1 h (by omega)).1, if_pos hh]; exact hX.2.1.1 h hh
    · rw [(h1 k hk).2]
      by_cases c : k < A.1 0
      · rw [if_pos c, if_pos c]; exact x_sitters hX h10 k c
      · rw [if_neg c, if_neg c]
    · rw [h2 k hk]; exact hX.2.1.2.2.1 k hk
    · rw [h4]; exact hX.2.1.2.2.2.1
    · rw [h5]; exact hX.2.1.2.2.2.2
theorem ok_bestSwap {σ : XS} {μ : MS} {a0 a1 : Int32} (hK : KK em g σ μ) : qX10_bestSwap g σ a0 a1 (fun r σ1 => qX11_bestSwap μ a0 a1 (fun r2 μ1 => r = r2 ∧ KK em g σ1 μ1)) := by
  obtain ⟨A, hA, hX, hM⟩ := hK
  have fin := KK.mk hA hX hM
  have eH : nI (nH g) = nI (A.1 0) := congrArg nI hX.1.1
  unfold qX10_bestSwap
  refine x_vowK hA hX.1 (fun v hv e => ?_) (fun h => ?_)
  · subst e
    refine x_seatK hA.1 hX.1 (fun s => ?_) (fun s => ?_)
    · obtain ⟨seat, hs, rfl⟩ := s
      have w := hA.2.1.2 _ hv
      unfold qX0_swapAdvised
      rw [bnd_eq, eH, show vF1 g v = nI (A.2 14 v.val) from (hX.1.2.2.2.1 v).2.1]
      refine x_leastOf hA.1 w w.2.1 hX.1 hX.2.1 hs (fun D => ?_)
      refine x_trial hA hX.ov (fun τ hτ _ hT => ?_)
      refine ⟨_, x_swO hA hX.1 hv hs (fun τ1 h1 => ?_) (A.1 0) 0 τ (by omega) hτ hT⟩
      refine m_dayK hA hM (fun _ _ => ?_) (fun z => absurd ⟨⟨_, hv, rfl⟩, ⟨_, hs, rfl⟩⟩ z)
      refine m_leastOf hA hM hv hs (fun μ1 f1 => ?_)
      exact ⟨_, m_swO hA hv hs (fun τ2 h2 => ⟨rfl, KK.mk hA h1 h2⟩) (A.1 0) 0 μ1 (by omega) (hM.fr f1)⟩
    · exact m_dayK hA hM (fun _ z => absurd z s) (fun _ => ⟨rfl, fin⟩)
  · exact m_dayK hA hM (fun z _ => absurd z h) (fun _ => ⟨rfl, fin⟩)
end
