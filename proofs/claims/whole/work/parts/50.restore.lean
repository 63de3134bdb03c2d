/-! restore() -/
def rsS (A : AS) : Nat → Nat := fun h => if h < A.1 20 then A.2 23 h else A.2 6 h
def rsQ (A : AS) : Nat → Nat := fun h => if h < A.1 20 then A.2 24 h else h
def rsP (A : AS) : Nat → Nat := fun h => if h < A.1 20 then A.2 26 h else h
def rsA (A : AS) : AS := (va_up (va_up A.1 10 (A.1 21)) 11 (A.1 22), va_up (va_up (va_up (va_up A.2 6 (rsS A)) 7 (rsQ A)) 8 (rsP A)) 9 (A.2 25))
theorem rs_pq {A : AS} (hA : WFA A) (h1 : A.1 19 = 1) (h : Nat) (hh : h < A.1 0) : rsQ A h < A.1 0 ∧ rsP A h < A.1 0 ∧ rsP A (rsQ A h) = h ∧ rsQ A (rsP A h) = h := by
  have z := hA.2.2.2.2 h1
  unfold rsQ rsP
  by_cases c : h < A.1 20
  · have r := z.2.2.2.1 h c
    simp only [if_pos c]
    rw [if_pos r.2.1, if_pos r.2.2.1]
    exact ⟨by omega, by omega, r.2.2.2.1, r.2.2.2.2⟩
  · simp only [if_neg c]
    exact ⟨hh, hh, trivial, trivial⟩
theorem rsA_ok {A : AS} (hA : WFA A) (h1 : A.1 19 = 1) : WFA (rsA A) := by
  have z := hA.2.2.2.2 h1
  refine ⟨⟨hA.1.1, z.2.1, z.2.2.1, fun h hh => ?_, fun h hh => ?_, z.2.2.2.2⟩, hA.2⟩
  · have hh : h < A.1 0 := hh
    have a := hA.1.2.2.2.1 h hh
    have b := rs_pq hA h1 h hh
    exact ⟨a.1, a.2.1, a.2.2.1, a.2.2.2.1, a.2.2.2.2.1, a.2.2.2.2.2.1, a.2.2.2.2.2.2.1, b.1, b.2.1, b.2.2.1, b.2.2.2⟩
  · have hh : h < A.1 0 := hh
    show rsS A h ≤ 100
    unfold rsS
    split
    · rename_i c; exact (z.2.2.2.1 h c).1
    · exact hA.1.2.2.2.2.1 h hh
def RsI (A : AS) (μ : MS) (k : Nat) (τ : MS) : Prop := τ.1 = μ.1 ∧ (∀ j, j ≠ 6 → j ≠ 7 → τ.2.1 j = μ.2.1 j) ∧ (∀ i, i < k → τ.2.1 6 i = sI (rsS A i) ∧ τ.2.1 7 i = nI (rsQ A i)) ∧ ∀ i, k ≤ i → i < A.1 0 → τ.2.1 6 i = sI (A.2 6 i)
theorem rs_step {A : AS} {μ τ : MS} {k : Nat} (hk : k < 10) (h : RsI A μ k τ) {a b : Int32} (ea : a = sI (rsS A k)) (eb : b = nI (rsQ A k)) : RsI A μ (k + 1) (mseta (mseta τ 6 (nI k) a) 7 (nI k) b) := by
  refine ⟨h.1, fun i a b => ?_, fun i hi => ?_, fun i hi hn => ?_⟩
  · rw [mst_ne b, mst_ne a]; exact h.2.1 i a b
  · rw [mst_ne (by decide), mst_at (by omega), mst_at (by omega), mst_ne (by decide)]
    by_cases c : i = k
    · rw [c, pk_us, pk_us]; exact ⟨ea, eb⟩
    · rw [pk_un c, pk_un c]; exact h.2.2.1 i (by omega)
  · rw [mst_ne (by decide), mst_at (by omega), pk_un (by omega)]; exact h.2.2.2 i (by omega) hn
theorem m_rs_L28 {A : AS} {μ : MS} {P : Int32 → MS → Prop} {e95 : MS → Prop} (hA : WFA A) (h0 : μ.1 0 = nI (A.1 0)) (h20 : μ.1 20 = nI (A.1 20)) (hm : A.1 20 ≤ A.1 0) (h23 : ∀ h, h < A.1 20 → μ.2.1 23 h = sI (A.2 23 h) ∧ μ.2.1 24 h = nI (A.2 24 h)) (hP : ∀ τ, RsI A μ (A.1 0) τ → e95 τ) : ∀ (j k : Nat) (τ : MS), k + j = A.1 0 → RsI A μ k τ → qX11_restore_L28 e95 P (j + 1) τ (nI k)
  | 0, k, τ, e, h => by
    have e0 : k = A.1 0 := by omega
    subst e0
    rw [qX11_restore_L28, h.1, h0, if_pos (Int32.le_refl _)]; exact hP τ h
  | j + 1, k, τ, e, h => by
    have h10 := hA.1.1
    have hin : vp_in (nI k) 10 := vp_in_nI (by omega) (by decide)
    rw [qX11_restore_L28, h.1, h0, if_neg (nI_ge (by omega) (by omega)), h20]
    unfold qX11_restore_J64 qX11_restore_J88
    simp only [bnd_eq, nI_1, mseta_1, h.1, h20]
    have nxt := fun (a b : Int32) (ea : a = sI (rsS A k)) (eb : b = nI (rsQ A k)) => m_rs_L28 (P := P) hA h0 h20 hm h23 hP j (k + 1) _ (by omega) (rs_step (by omega) h ea eb)
    by_cases c : k < A.1 20
    · have r := h23 k c
      rw [if_neg (nI_ge c (by omega))]
      refine ⟨hin, hin, ?_⟩
      rw [if_neg (nI_ge c (by omega))]
      refine ⟨hin, hin, nxt _ _ ?_ ?_⟩
      · rw [mgN (by omega), h.2.1 23 (by decide) (by decide), r.1]
        unfold rsS; rw [if_pos c]
      · rw [mgN (by omega), mst_ne (by decide), h.2.1 24 (by decide) (by decide), r.2]
        unfold rsQ; rw [if_pos c]
    · rw [if_pos (nI_le (by omega) (by omega))]
      refine ⟨hin, hin, ?_⟩
      rw [if_pos (nI_le (by omega) (by omega))]
      refine ⟨hin, nxt _ _ ?_ ?_⟩
      · rw [mgN (by omega), h.2.2.2 k (Nat.le_refl _) (by omega)]
        unfold rsS; rw [if_neg c]
      · unfold rsQ; rw [if_neg c]
def RtI (A : AS) (μ : MS) (k : Nat) (τ : MS) : Prop := τ.1 = μ.1 ∧ (∀ j, j ≠ 8 → τ.2.1 j = μ.2.1 j) ∧ ∀ s, s < A.1 0 → rsP A s < k → τ.2.1 8 s = nI (rsP A s)
theorem m_rs_L97 {A : AS} {μ : MS} {P : Int32 → MS → Prop} {e123 : MS → Prop} (hA : WFA A) (h19 : A.1 19 = 1) (h0 : μ.1 0 = nI (A.1 0)) (h7 : ∀ i, i < A.1 0 → μ.2.1 7 i = nI (rsQ A i)) (hP : ∀ τ, RtI A μ (A.1 0) τ → e123 τ) : ∀ (j k : Nat) (τ : MS), k + j = A.1 0 → RtI A μ k τ → qX11_restore_L97 e123 P (j + 1) τ (nI k)
  | 0, k, τ, e, h => by
    have e0 : k = A.1 0 := by omega
    subst e0
    rw [qX11_restore_L97, h.1, h0, if_pos (Int32.le_refl _)]; exact hP τ h
  | j + 1, k, τ, e, h => by
    have h10 := hA.1.1
    have r := rs_pq hA h19 k (by omega)
    have e7 : mgeta τ 7 (nI k) = nI (rsQ A k) := by rw [mgN (by omega), h.2.1 7 (by decide)]; exact h7 k (by omega)
    rw [qX11_restore_L97, h.1, h0, if_neg (nI_ge (by omega) (by omega)), e7]
    refine ⟨vp_in_nI (by omega) (by decide), vp_in_nI (by omega) (by decide), ?_⟩
    rw [bnd_eq, bnd_eq, nI_1]
    refine m_rs_L97 hA h19 h0 h7 hP j (k + 1) _ (by omega) ⟨h.1, fun i q => ?_, fun s hs hk => ?_⟩
    · rw [mst_ne q]; exact h.2.1 i q
    · rw [mst_at (by omega)]
      have rs := rs_pq hA h19 s hs
      by_cases c : s = rsQ A k
      · rw [c, pk_us, r.2.2.1]
      · rw [pk_un c]
        refine h.2.2 s hs ?_
        have : rsP A s ≠ k := fun z => c (by rw [← z]; exact rs.2.2.2.symm)
        omega
theorem m_rs_L125 {μ : MS} {P : Int32 → MS → Prop} (hP : ∀ τ, CpI 9 25 μ 5 τ → P (τ.1 0) τ) : ∀ (j k : Nat) (τ : MS), k + j = 5 → CpI 9 25 μ k τ → qX11_restore_L125 P (j + 1) τ (nI k)
  | 0, k, τ, e, h => by
    have e0 : k = 5 := by omega
    subst e0
    rw [qX11_restore_L125, if_pos (by decide)]; exact hP τ h
  | j + 1, k, τ, e, h => by
    rw [qX11_restore_L125, if_neg (nge5 (by omega))]
    refine ⟨vp_in_nI (by omega) (by decide), ?_⟩
    rw [bnd_eq, bnd_eq, nI_1]
    exact m_rs_L125 hP j (k + 1) _ (by omega) (cp_step (by decide) (by omega) h)
theorem m_restore {A : AS} {μ : MS} {P : Int32 → MS → Prop} (hA : WFA A) (hM : KM A μ) (h19 : A.1 19 = 1) (hP : ∀ τ, KM (rsA A) τ → P (nI (A.1 0)) τ) : qX11_restore μ P := by
  have h10 := hA.1.1
  have z := hA.2.2.2.2 h19
  have k := hM.2.2.2.2 h19
  have e19 : μ.1 19 = nI 1 := by rw [hM.2.2.2.1, h19]
  unfold qX11_restore
  rw [e19, if_neg (by decide), bnd_eq]
  have e22 : (mset μ 10 (μ.1 21)).1 22 = nI (A.1 22) := k.2.2.1
  rw [e22, k.2.1, bnd_eq]
  refine ⟨bI_B z.2.2.1, ?_⟩
  generalize hB : mset (mset μ 10 (nI (A.1 21))) 11 (nI (A.1 22)) = B
  have b1 : ∀ k, k ≠ 10 → k ≠ 11 → B.1 k = μ.1 k := fun k a b => by
    rw [← hB]
    show upd (upd μ.1 10 (nI (A.1 21))) 11 (nI (A.1 22)) k = _
    rw [pk_un b, pk_un a]
  have b10 : B.1 10 = nI (A.1 21) := by rw [← hB]; rfl
  have b11 : B.1 11 = nI (A.1 22) := by rw [← hB]; rfl
  have b2 : B.2.1 = μ.2.1 := by rw [← hB]; rfl
  have B0 : B.1 0 = nI (A.1 0) := by rw [b1 0 (by decide) (by decide)]; exact hM.1.1
  have B20 : B.1 20 = nI (A.1 20) := by rw [b1 20 (by decide) (by decide)]; exact k.1
  refine ⟨_, m_rs_L28 (μ := B) hA B0 B20 z.1 (by rw [b2]; exact k.2.2.2.1) (fun τ hτ => ⟨_, m_rs_L97 (μ := τ) hA h19 (by rw [hτ.1]; exact B0) (fun i hi => (hτ.2.2.1 i hi).2) (fun τ2 h2 => ⟨_, m_rs_L125 (μ := τ2) (fun τ3 h3 => ?_) 5 0 τ2 rfl ⟨rfl, fun _ _ => rfl, fun i hi => absurd hi (Nat.not_lt_zero _)⟩⟩) (A.1 0) 0 τ (by omega) ⟨rfl, fun _ _ => rfl, fun s _ hi => absurd hi (Nat.not_lt_zero _)⟩⟩) (A.1 0) 0 B (by omega) ⟨rfl, fun _ _ _ => rfl, fun i hi => absurd hi (Nat.not_lt_zero _), fun i _ hi => by rw [b2]; exact hM.1.2.2.2.2.1 i hi⟩⟩
  have t1 : τ3.1 = B.1 := h3.1.trans (h2.1.trans hτ.1)
  have tk : ∀ k, k ≠ 6 → k ≠ 7 → k ≠ 8 → k ≠ 9 → τ3.2.1 k = μ.2.1 k := fun k a b c d => by
    rw [h3.2.1 k d, h2.2.1 k c, hτ.2.1 k a b, b2]
  have t0 : τ3.1 0 = nI (A.1 0) := by rw [t1]; exact B0
  rw [t0]
  refine hP _ ⟨⟨t0, ?_, ?_, fun h hh => ?_, fun h hh => ?_, fun i hi => ?_⟩, ?_, ?_, ?_⟩
  · rw [t1, b10]; rfl
  · rw [t1, b11]; rfl
  · have hh : h < A.1 0 := hh
    have r := hM.1.2.2.2.1 h hh
    rw [tk 1 (by decide) (by decide) (by decide) (by decide), tk 2 (by decide) (by decide) (by decide) (by decide), tk 3 (by decide) (by decide) (by decide) (by decide), tk 4 (by decide) (by decide) (by decide) (by decide), tk 5 (by decide) (by decide) (by decide) (by decide)]
    refine ⟨r.1, r.2.1, r.2.2.1, r.2.2.2.1, r.2.2.2.2.1, ?_, ?_⟩
    · rw [h3.2.1 7 (by decide), h2.2.1 7 (by decide)]; exact (hτ.2.2.1 h hh).2
    · rw [h3.2.1 8 (by decide)]; exact h2.2.2 h hh (rs_pq hA h19 h hh).2.1
  · have hh : h < A.1 0 := hh
    rw [h3.2.1 6 (by decide), h2.2.1 6 (by decide)]; exact (hτ.2.2.1 h hh).1
  · rw [h3.2.2 i hi, h2.2.1 25 (by decide), hτ.2.1 25 (by decide) (by decide), b2]; exact k.2.2.2.2 i hi
  · have := hM.2.1
    unfold KMv at this ⊢
    show τ3.1 12 = nI (A.1 12) ∧ ∀ v, v < A.1 12 → τ3.2.1 13 v = nI (A.2 13 v) ∧ τ3.2.1 14 v = nI (A.2 14 v) ∧ τ3.2.1 15 v = nI (A.2 15 v) ∧ τ3.2.1 16 v = nI (A.2 16 v)
    rw [t1, b1 12 (by decide) (by decide), tk 13 (by decide) (by decide) (by decide) (by decide), tk 14 (by decide) (by decide) (by decide) (by decide), tk 15 (by decide) (by decide) (by decide) (by decide), tk 16 (by decide) (by decide) (by decide) (by decide)]
    exact this
  · have := hM.2.2.1
    unfold KMp at this ⊢
    show τ3.1 17 = nI (A.1 17) ∧ ∀ i, i < A.1 17 → τ3.2.1 18 i = nI (A.2 18 i)
    rw [t1, b1 17 (by decide) (by decide), tk 18 (by decide) (by decide) (by decide) (by decide)]
    exact this
  · have := hM.2.2.2
    unfold KMi at this ⊢
    show τ3.1 19 = nI (A.1 19) ∧ (A.1 19 = 1 → τ3.1 20 = nI (A.1 20) ∧ τ3.1 21 = nI (A.1 21) ∧ τ3.1 22 = nI (A.1 22) ∧ (∀ h, h < A.1 20 → τ3.2.1 23 h = sI (A.2 23 h) ∧ τ3.2.1 24 h = nI (A.2 24 h)) ∧ ∀ k, k < 5 → τ3.2.1 25 k = nI (A.2 25 k))
    rw [t1, b1 19 (by decide) (by decide), b1 20 (by decide) (by decide), b1 21 (by decide) (by decide), b1 22 (by decide) (by decide), tk 23 (by decide) (by decide) (by decide) (by decide), tk 24 (by decide) (by decide) (by decide) (by decide), tk 25 (by decide) (by decide) (by decide) (by decide)]
    exact this
theorem ok_restore {em : Nat} {g : XG} {σ : XS} {μ : MS} (hK : KK em g σ μ) : qX10_restore g σ (fun r σ1 => qX11_restore μ (fun r2 μ1 => r = r2 ∧ KK em g σ1 μ1)) := by
  obtain ⟨A, hA, hX, hM⟩ := hK
  have h10 := hA.1.1
  have hn := hX.1.1
  have h191 := hA.2.2.2.1
  unfold qX10_restore
  rcases (by omega : A.1 19 = 0 ∨ A.1 19 = 1) with h19 | h19
  · rw [hX.2.2.2.1 h19, if_neg (by decide)]
    unfold qX11_restore
    dsimp only
    rw [hM.2.2.2.1, h19, if_pos (show nI 0 = 0 from rfl)]
    exact ⟨rfl, KK.mk hA hX hM⟩
  · have z := hA.2.2.2.2 h19
    obtain ⟨eK, hT⟩ := hX.2.2.2.2 h19
    rw [eK, if_pos (nI_pos' (by omega))]
    refine x_like (x0 := 0) (x1 := 1) (by decide) (by omega) ?_ (fun τ f hr h1 h2 h4 h5 => ?_)
    · rw [hT.2.2.2.2]; exact bI_B z.2.2.1
    have f1 := f.2.2.2 1 (by decide)
    refine m_restore hA hM h19 (fun μ' hM' => ⟨congrArg nI hn, KK.mk (rsA_ok hA h19) ⟨hX.1, ⟨fun h hh => ?_, fun k hk => ?_, fun k hk => ?_, ?_, ?_⟩, hX.2.2.1.fr f.2.1 f.2.2.1, hX.2.2.2.fr f.1 f1.1 f1.2⟩ hM'⟩)
    · have hh : h < A.1 0 := hh
      rw [(h1 h (by omega)).1]
      show _ = sI (rsS A h)
      unfold rsS
      by_cases c : h < A.1 20
      · rw [if_pos c, if_pos c]; exact hT.1 h c
      · rw [if_neg c, if_neg c]; exact hX.2.1.1 h hh
    · show xTB τ 0 1 k = nI (if k < A.1 0 then rsP A k else k)
      rw [(h1 k hk).2]
      unfold rsP
      by_cases c : k < A.1 20
      · rw [if_pos c, if_pos (by omega), if_pos c]
        have := hT.2.1 k hk
        rw [if_pos c] at this; exact this
      · rw [if_neg c, if_neg c]
        split <;> rfl
    · rw [h2 k hk]; exact hT.2.2.1 k hk
    · rw [h4]; exact hT.2.2.2.1
    · rw [h5]; exact hT.2.2.2.2
