/-! image(), restore() -/
def imA (A : AS) : AS := (va_up (va_up (va_up (va_up A.1 19 1) 20 (A.1 0)) 21 (A.1 10)) 22 (A.1 11), va_up (va_up (va_up (va_up A.2 23 (A.2 6)) 24 (A.2 7)) 25 (A.2 9)) 26 (A.2 8))
theorem imA_ok {A : AS} (hA : WFA A) : WFA (imA A) := by
  refine ⟨hA.1, hA.2.1, hA.2.2.1, Nat.le_refl _, fun _ => ⟨Nat.le_refl _, hA.1.2.1, hA.1.2.2.1, fun h hh => ?_, hA.1.2.2.2.2.2⟩⟩
  have hh : h < A.1 0 := hh
  have a := pq_of hA.1 h hh
  exact ⟨hA.1.2.2.2.2.1 h hh, a.1, a.2.1, a.2.2.1, a.2.2.2⟩
def ImI (μ : MS) (k : Nat) (τ : MS) : Prop := τ.1 = μ.1 ∧ (∀ j, j ≠ 23 → j ≠ 24 → τ.2.1 j = μ.2.1 j) ∧ ∀ i, i < k → τ.2.1 23 i = μ.2.1 6 i ∧ τ.2.1 24 i = μ.2.1 7 i
theorem mst_at {s : MS} {k x : Nat} {v : Int32} (hx : x < 2 ^ 31) : (mseta s k (nI x) v).2.1 k = upd (s.2.1 k) x v := by
  show va_up s.2.1 k (upd (s.2.1 k) (nI x).toNatClampNeg v) k = _
  rw [va_up_self, nI_clamp hx]
theorem mst_ne {s : MS} {k j : Nat} {x v : Int32} (h : j ≠ k) : (mseta s k x v).2.1 j = s.2.1 j := by
  show va_up s.2.1 k (upd (s.2.1 k) x.toNatClampNeg v) j = _
  rw [va_up_ne _ _ h]
theorem m_im_L31 {μ : MS} {P : Int32 → MS → Prop} {e67 : MS → Prop} (hP : ∀ τ, ImI μ 10 τ → e67 τ) : ∀ (j k : Nat) (τ : MS), k + j = 10 → ImI μ k τ → qX11_image_L31 e67 P (j + 1) τ (nI k)
  | 0, k, τ, e, h => by
    have e0 : k = 10 := by omega
    subst e0
    rw [qX11_image_L31, if_pos (by decide)]; exact hP τ h
  | j + 1, k, τ, e, h => by
    rw [qX11_image_L31, if_neg (nge10 (by omega))]
    refine ⟨vp_in_nI (by omega) (by decide), ?_⟩
    rw [bnd_eq, bnd_eq, bnd_eq, nI_1]
    refine m_im_L31 hP j (k + 1) _ (by omega) ⟨h.1, fun i a b => ?_, fun i hi => ?_⟩
    · rw [mst_ne b, mst_ne a]; exact h.2.1 i a b
    · rw [mst_ne (by decide), mst_at (by omega), mst_at (by omega), mst_ne (by decide), mgN (by omega), mgN (by omega), mst_ne (by decide)]
      by_cases c : i = k
      · rw [c, pk_us, pk_us, h.2.1 6 (by decide) (by decide), h.2.1 7 (by decide) (by decide)]; exact ⟨rfl, rfl⟩
      · rw [pk_un c, pk_un c]; exact h.2.2 i (by omega)
def CpI (a b : Nat) (μ : MS) (k : Nat) (τ : MS) : Prop := τ.1 = μ.1 ∧ (∀ j, j ≠ a → τ.2.1 j = μ.2.1 j) ∧ ∀ i, i < k → τ.2.1 a i = μ.2.1 b i
theorem cp_step {a b : Nat} (hab : b ≠ a) {μ τ : MS} {k : Nat} (hk : k < 2 ^ 31) (h : CpI a b μ k τ) : CpI a b μ (k + 1) (mseta τ a (nI k) (mgeta τ b (nI k))) := by
  refine ⟨h.1, fun i q => ?_, fun i hi => ?_⟩
  · rw [mst_ne q]; exact h.2.1 i q
  · rw [mst_at hk, mgN hk]
    by_cases c : i = k
    · rw [c, pk_us, h.2.1 b hab]
    · rw [pk_un c]; exact h.2.2 i (by omega)
theorem m_im_L69 {μ : MS} {P : Int32 → MS → Prop} (hP : ∀ τ, CpI 25 9 μ 5 τ → P (τ.1 0) τ) : ∀ (j k : Nat) (τ : MS), k + j = 5 → CpI 25 9 μ k τ → qX11_image_L69 P (j + 1) τ (nI k)
  | 0, k, τ, e, h => by
    have e0 : k = 5 := by omega
    subst e0
    rw [qX11_image_L69, if_pos (by decide)]; exact hP τ h
  | j + 1, k, τ, e, h => by
    rw [qX11_image_L69, if_neg (nge5 (by omega))]
    refine ⟨vp_in_nI (by omega) (by decide), ?_⟩
    rw [bnd_eq, bnd_eq, nI_1]
    exact m_im_L69 hP j (k + 1) _ (by omega) (cp_step (by decide) (by omega) h)
theorem m_image {A : AS} {μ : MS} {P : Int32 → MS → Prop} (hA : WFA A) (hM : KM A μ) (hP : ∀ τ, KM (imA A) τ → P (nI (A.1 0)) τ) : qX11_image μ P := by
  have h10 := hA.1.1
  unfold qX11_image
  rw [bnd_eq, bnd_eq, bnd_eq]
  have e0 : (mset μ 19 1).1 0 = nI (A.1 0) := hM.1.1
  have e10 : (mset (mset μ 19 1) 20 (nI (A.1 0))).1 10 = nI (A.1 10) := hM.1.2.1
  have e11 : (mset (mset (mset μ 19 1) 20 (nI (A.1 0))) 21 (nI (A.1 10))).1 11 = nI (A.1 11) := hM.1.2.2.1
  rw [e0, e10, e11, bnd_eq]
  refine ⟨bI_B hA.1.2.2.1, ?_⟩
  generalize hB : mset (mset (mset (mset μ 19 1) 20 (nI (A.1 0))) 21 (nI (A.1 10))) 22 (nI (A.1 11)) = B
  have b1 : ∀ k, k ≠ 19 → k ≠ 20 → k ≠ 21 → k ≠ 22 → B.1 k = μ.1 k := fun k a b c d => by
    rw [← hB]
    show upd (upd (upd (upd μ.1 19 1) 20 (nI (A.1 0))) 21 (nI (A.1 10))) 22 (nI (A.1 11)) k = _
    rw [pk_un d, pk_un c, pk_un b, pk_un a]
  have b19 : B.1 19 = nI 1 := by rw [← hB]; rfl
  have b20 : B.1 20 = nI (A.1 0) := by rw [← hB]; rfl
  have b21 : B.1 21 = nI (A.1 10) := by rw [← hB]; rfl
  have b22 : B.1 22 = nI (A.1 11) := by rw [← hB]; rfl
  have b2 : B.2.1 = μ.2.1 := by rw [← hB]; rfl
  refine ⟨_, m_im_L31 (μ := B) (fun τ hτ => ⟨_, m_im_L69 (μ := τ) (fun τ2 h2 => ?_) 5 0 τ rfl ⟨rfl, fun _ _ => rfl, fun i hi => absurd hi (Nat.not_lt_zero _)⟩⟩) 10 0 B rfl ⟨rfl, fun _ _ _ => rfl, fun i hi => absurd hi (Nat.not_lt_zero _)⟩⟩
  have t1 : τ2.1 = B.1 := h2.1.trans hτ.1
  have tk : ∀ k, k ≠ 23 → k ≠ 24 → k ≠ 25 → τ2.2.1 k = μ.2.1 k := fun k a b c => by
    rw [h2.2.1 k c, hτ.2.1 k a b, b2]
  have e0 : τ2.1 0 = nI (A.1 0) := by rw [t1, b1 0 (by decide) (by decide) (by decide) (by decide)]; exact hM.1.1
  rw [e0]
  refine hP _ ⟨?_, ?_, ?_, ?_⟩
  · have := hM.1
    unfold KMt at this ⊢
    show τ2.1 0 = nI (A.1 0) ∧ τ2.1 10 = nI (A.1 10) ∧ τ2.1 11 = nI (A.1 11) ∧ (∀ h, h < A.1 0 → τ2.2.1 1 h = nI (A.2 1 h) ∧ τ2.2.1 2 h = nI (A.2 2 h) ∧ τ2.2.1 3 h = nI (A.2 3 h) ∧ τ2.2.1 4 h = nI (A.2 4 h) ∧ τ2.2.1 5 h = nI (A.2 5 h) ∧ τ2.2.1 7 h = nI (A.2 7 h) ∧ τ2.2.1 8 h = nI (A.2 8 h)) ∧ (∀ h, h < A.1 0 → τ2.2.1 6 h = sI (A.2 6 h)) ∧ ∀ k, k < 5 → τ2.2.1 9 k = nI (A.2 9 k)
    rw [t1, b1 0 (by decide) (by decide) (by decide) (by decide), b1 10 (by decide) (by decide) (by decide) (by decide), b1 11 (by decide) (by decide) (by decide) (by decide), tk 1 (by decide) (by decide) (by decide), tk 2 (by decide) (by decide) (by decide), tk 3 (by decide) (by decide) (by decide), tk 4 (by decide) (by decide) (by decide), tk 5 (by decide) (by decide) (by decide), tk 6 (by decide) (by decide) (by decide), tk 7 (by decide) (by decide) (by decide), tk 8 (by decide) (by decide) (by decide), tk 9 (by decide) (by decide) (by decide)]
    exact this
  · have := hM.2.1
    unfold KMv at this ⊢
    show τ2.1 12 = nI (A.1 12) ∧ ∀ v, v < A.1 12 → τ2.2.1 13 v = nI (A.2 13 v) ∧ τ2.2.1 14 v = nI (A.2 14 v) ∧ τ2.2.1 15 v = nI (A.2 15 v) ∧ τ2.2.1 16 v = nI (A.2 16 v)
    rw [t1, b1 12 (by decide) (by decide) (by decide) (by decide), tk 13 (by decide) (by decide) (by decide), tk 14 (by decide) (by decide) (by decide), tk 15 (by decide) (by decide) (by decide), tk 16 (by decide) (by decide) (by decide)]
    exact this
  · have := hM.2.2.1
    unfold KMp at this ⊢
    show τ2.1 17 = nI (A.1 17) ∧ ∀ i, i < A.1 17 → τ2.2.1 18 i = nI (A.2 18 i)
    rw [t1, b1 17 (by decide) (by decide) (by decide) (by decide), tk 18 (by decide) (by decide) (by decide)]
    exact this
  · refine ⟨?_, fun _ => ⟨?_, ?_, ?_, fun h hh => ?_, fun k hk => ?_⟩⟩
    · rw [t1, b19]; rfl
    · rw [t1, b20]; rfl
    · rw [t1, b21]; rfl
    · rw [t1, b22]; rfl
    · have hh : h < A.1 0 := hh
      have r := hτ.2.2 h (by omega)
      rw [h2.2.1 23 (by decide), h2.2.1 24 (by decide), r.1, r.2, b2]
      exact ⟨hM.1.2.2.2.2.1 h hh, (hM.1.2.2.2.1 h hh).2.2.2.2.2.1⟩
    · rw [h2.2.2 k hk, hτ.2.1 9 (by decide) (by decide), b2]
      exact hM.1.2.2.2.2.2 k hk
theorem ok_image {em : Nat} {g : XG} {σ : XS} {μ : MS} (hK : KK em g σ μ) : qX10_image g σ (fun r σ1 => qX11_image μ (fun r2 μ1 => r = r2 ∧ KK em g σ1 μ1)) := by
  obtain ⟨A, hA, hX, hM⟩ := hK
  have h10 := hA.1.1
  have hn := hX.1.1
  unfold qX10_image
  rw [bnd_eq]
  have eK : xK (xsK σ (nI (nH g))) = nI (A.1 0) := by show nI (nH g) = _; rw [hn]
  rw [eK]
  refine x_like (x0 := 1) (x1 := 0) (by decide) h10 ?_ (fun τ f hr h1 h2 h4 h5 => ?_)
  · show isB (xTI σ 0 5); rw [hX.2.1.2.2.2.2]; exact bI_B hA.1.2.2.1
  have fK : xK τ = nI (A.1 0) := f.1.trans eK
  have f0 := f.2.2.2 0 (by decide)
  refine m_image hA hM (fun μ' hM' => ⟨fK, KK.mk (imA_ok hA) ⟨hX.1, hX.2.1.fr f0.1 f0.2, hX.2.2.1.fr f.2.1 f.2.2.1, fun z => ?_, fun _ => ⟨fK, ?_⟩⟩ hM'⟩)
  · have z : 1 = 0 := z
    omega
  · refine ⟨fun h hh => ?_, fun k hk => ?_, fun k hk => ?_, ?_, ?_⟩
    · have hh : h < A.1 0 := hh
      rw [(h1 h (by omega)).1, if_pos hh]; exact hX.2.1.1 h hh
    · show xTB τ 1 1 k = nI (if k < A.1 0 then A.2 8 k else k)
      rw [(h1 k hk).2]
      by_cases c : k < A.1 0
      · rw [if_pos c, if_pos c]; exact x_sitters hX h10 k c
      · rw [if_neg c, if_neg c]
    · rw [h2 k hk]; exact hX.2.1.2.2.1 k hk
    · rw [h4]; exact hX.2.1.2.2.2.1
    · rw [h5]; exact hX.2.1.2.2.2.2
