/-! letters (wb_: rows of the kit's BITS page) -/
theorem wb_tb (n : Nat) : (lN n).toBitVec = BitVec.ofNat 64 n := rfl
theorem wb_inj {a b : Int64} (h : a.toBitVec = b.toBitVec) : a = b := Int64.toBitVec_inj.mp h
theorem wb_tn {n : Nat} (h : n < 2 ^ 64) : (lN n).toBitVec.toNat = n := by rw [wb_tb, BitVec.toNat_ofNat, Nat.mod_eq_of_lt h]
theorem wb_of (x : Int64) : ∃ n, n < 2 ^ 64 ∧ x = lN n := ⟨x.toBitVec.toNat, x.toBitVec.isLt, wb_inj (by rw [wb_tb]; simp)⟩
theorem wb_c : ∀ k, k < 64 → ((nI k).toInt64 &&& 63) = lN k := by decide +kernel
theorem wb_cu : ∀ k, k < 64 → ((nI k).toInt64.toUInt64 &&& Int64.toUInt64 63) = UInt64.ofNat k := by decide +kernel
theorem wb_sm : ∀ k, k < 64 → (BitVec.ofNat 64 k).smod 64 = BitVec.ofNat 64 k := by decide +kernel
theorem wb_lt2 {a b : Nat} (h : a < b) : 2 ^ a < 2 ^ b := Nat.pow_lt_pow_right (by decide) h
theorem wb_shr {n k : Nat} (hn : n < 2 ^ 64) (hk : k < 64) : ((lN n).toUInt64 >>> ((nI k).toInt64.toUInt64 &&& Int64.toUInt64 63)).toInt64 = lN (n / 2 ^ k) := by
  rw [wb_cu k hk]
  apply wb_inj
  apply BitVec.eq_of_toNat_eq
  show ((lN n).toUInt64 >>> UInt64.ofNat k).toNat = (BitVec.ofNat 64 _).toNat
  have h1 : (UInt64.ofNat k).toNat = k := by
    show (BitVec.ofNat 64 k).toNat = k
    rw [BitVec.toNat_ofNat, Nat.mod_eq_of_lt (by omega)]
  have h2 : (lN n).toUInt64.toNat = n := wb_tn hn
  rw [UInt64.toNat_shiftRight, h1, h2, Nat.mod_eq_of_lt hk, Nat.shiftRight_eq_div_pow, BitVec.toNat_ofNat, Nat.mod_eq_of_lt (Nat.lt_of_le_of_lt (Nat.div_le_self _ _) hn)]
theorem wb_and {a b : Nat} (ha : a < 2 ^ 64) (hb : b < 2 ^ 64) : lN a &&& lN b = lN (a &&& b) := by
  apply wb_inj
  rw [Int64.toBitVec_and, wb_tb, wb_tb, wb_tb]
  apply BitVec.eq_of_toNat_eq
  rw [BitVec.toNat_and, BitVec.toNat_ofNat, BitVec.toNat_ofNat, BitVec.toNat_ofNat, Nat.mod_eq_of_lt ha, Nat.mod_eq_of_lt hb, Nat.mod_eq_of_lt (Nat.and_lt_two_pow _ hb)]
theorem wb_mask {n k : Nat} (hn : n < 2 ^ 64) (hk : k < 64) : lN n &&& lN (2 ^ k - 1) = lN (n % 2 ^ k) := by
  rw [wb_and hn (by have := wb_lt2 hk; omega), Nat.and_two_pow_sub_one_eq_mod]
theorem nge8 {k : Nat} (h : k < 8) : ¬ (8 : Int32) ≤ nI k := nI_ge (b := 8) h (by decide)
theorem nge16 {k : Nat} (h : k < 16) : ¬ (16 : Int32) ≤ nI k := nI_ge (b := 16) h (by decide)
theorem ngt126 {k : Nat} (h : 126 < k) (h2 : k < 2 ^ 31) : (126 : Int32) < nI k := nI_lt (a := 126) h h2
theorem nle126 {k : Nat} (h : k ≤ 126) : ¬ (126 : Int32) < nI k := nI_nlt (b := k) (a := 126) h (by decide)
def lb (W k : Nat) : Nat := W / 2 ^ (8 * k) % 256
theorem lb_lt (W k : Nat) : lb W k < 256 := Nat.mod_lt _ (by decide)
theorem l2i : ∀ b, b < 256 → Int64.toInt32 (lN b) = nI b := by decide +kernel
theorem and255 {n : Nat} (hn : n < 2 ^ 64) : lN n &&& 255 = lN (n % 256) := wb_mask (k := 8) hn (by decide)
theorem jlu {W k : Nat} (hW : W < 2 ^ 64) (hk : k < 8) : jlushr (lN W) (nI (8 * k)) = lN (W / 2 ^ (8 * k)) := wb_shr hW (by omega)
theorem div_lt64 {W : Nat} (hW : W < 2 ^ 64) (k : Nat) : W / 2 ^ k < 2 ^ 64 := Nat.lt_of_le_of_lt (Nat.div_le_self _ _) hW
theorem jlu255 {W k : Nat} (hW : W < 2 ^ 64) (hk : k < 8) : jlushr (lN W) (nI (8 * k)) &&& 255 = lN (lb W k) := by
  rw [jlu hW hk, and255 (div_lt64 hW _)]; rfl
theorem b255 : ∀ i, i < 64 → ¬ i < 8 → (255 : Int64).toBitVec.getLsbD i = false := by decide +kernel
theorem jsh255 {W k : Nat} (hW : W < 2 ^ 64) (hk : k < 8) : jlshr (lN W) (nI (8 * k)) &&& 255 = lN (lb W k) := by
  rw [← jlu255 hW hk]
  rw [jlu hW hk]
  apply wb_inj
  rw [Int64.toBitVec_and, Int64.toBitVec_and]
  unfold jlshr
  rw [wb_c _ (by omega), Int64.toBitVec_shiftRight, wb_tb, wb_tb, wb_tb, wb_sm _ (by omega)]
  apply BitVec.eq_of_getLsbD_eq
  intro i hi
  rw [BitVec.getLsbD_and, BitVec.getLsbD_and]
  by_cases q : i < 8
  · congr 1
    rw [BitVec.sshiftRight_eq', BitVec.getLsbD_sshiftRight, BitVec.toNat_ofNat, Nat.mod_eq_of_lt (by omega), if_pos (by omega), BitVec.getLsbD_ofNat, BitVec.getLsbD_ofNat, Nat.testBit_div_two_pow]
    simp [show ¬ 64 ≤ i by omega, show i < 64 by omega, show 8 * k + i < 64 by omega, Nat.add_comm]
    intro _; omega
  · rw [b255 i hi q, Bool.and_false, Bool.and_false]
theorem low8 (z : Int64) : Int32.toInt8 (Int64.toInt32 z) = Int32.toInt8 (Int64.toInt32 (z &&& 255)) := by
  apply Int8.toBitVec_inj.mp
  rw [Int32.toBitVec_toInt8, Int32.toBitVec_toInt8, Int64.toBitVec_toInt32, Int64.toBitVec_toInt32, Int64.toBitVec_and]
  apply BitVec.eq_of_getLsbD_eq
  intro i hi
  have h255 : (255 : Int64).toBitVec.getLsbD i = true := by
    have : ∀ i, i < 8 → (255 : Int64).toBitVec.getLsbD i = true := by decide +kernel
    exact this i hi
  rw [BitVec.getLsbD_signExtend, BitVec.getLsbD_signExtend, if_pos (by omega), if_pos (by omega), BitVec.getLsbD_signExtend, BitVec.getLsbD_signExtend, if_pos (by omega), if_pos (by omega), BitVec.getLsbD_and, h255, Bool.and_true]
theorem n8 : ∀ b, b < 127 → Int8.toInt32 (Int32.toInt8 (nI b)) = nI b := by decide +kernel
theorem mbyte {W k : Nat} (hW : W < 2 ^ 64) (hk : k < 8) (hb : lb W k ≤ 126) : vp_nar .byte (Int8.toInt32 (Int32.toInt8 (Int64.toInt32 (jlshr (lN W) (nI (8 * k)))))) = nI (lb W k) := by
  rw [pk_vb, low8, jsh255 hW hk, l2i _ (lb_lt _ _), n8 _ (by omega)]
theorem w8 (k : Nat) : (8 : Int32) * nI k = nI (8 * k) := pk_mul 8 k
/- the letters that there are -/
def Pre (W m : Nat) : Prop := ∀ k, k < m → 1 ≤ lb W k ∧ lb W k ≤ 126
def Good (W m : Nat) : Prop := m ≤ 8 ∧ Pre W m ∧ ∀ k, m ≤ k → k < 8 → lb W k = 0
theorem lb_step (W k : Nat) : W / 2 ^ (8 * k) = 256 * (W / 2 ^ (8 * (k + 1))) + lb W k := by
  unfold lb
  have e : W / 2 ^ (8 * (k + 1)) = W / 2 ^ (8 * k) / 256 := by
    rw [Nat.div_div_eq_div_mul, show 8 * (k + 1) = 8 * k + 8 by omega, Nat.pow_add]
  rw [e]; omega
theorem lb_zero {W : Nat} (hW : W < 2 ^ 64) : ∀ (j k : Nat), k + j = 8 → (∀ i, k ≤ i → i < 8 → lb W i = 0) → W / 2 ^ (8 * k) = 0
  | 0, k, e, _ => by
    have : k = 8 := by omega
    subst this
    exact Nat.div_eq_of_lt hW
  | j + 1, k, e, h => by
    have ih := lb_zero hW j (k + 1) (by omega) (fun i hi h8 => h i (by omega) h8)
    have := lb_step W k
    rw [ih, h k (Nat.le_refl _) (by omega)] at this
    omega
theorem lb_zero' {W k : Nat} (h : W / 2 ^ (8 * k) = 0) : ∀ i, k ≤ i → lb W i = 0 := by
  intro i hi
  have a : W < 2 ^ (8 * k) := by
    rcases Nat.lt_or_ge W (2 ^ (8 * k)) with q | q
    · exact q
    · have := Nat.div_pos q (Nat.two_pow_pos _); omega
  have b : 2 ^ (8 * k) ≤ 2 ^ (8 * i) := Nat.pow_le_pow_right (by decide) (by omega)
  unfold lb
  rw [Nat.div_eq_of_lt (by omega)]
theorem good_uniq {W k m : Nat} (hk : k < 8) (hp : Pre W k) (hm : Good W m) : k ≤ m := by
  rcases Nat.lt_or_ge m k with q | q
  · have a := hp m q
    have b := hm.2.2 m (Nat.le_refl _) (by omega)
    omega
  · exact q
theorem x_lin {g : XG} {σ : XS} {W : Nat} (hW : W < 2 ^ 64) {P : Int32 → XS → Prop} (h1 : ∀ m, Good W m → P (nI m) σ) (h0 : (∀ m, ¬ Good W m) → P (-1) σ) : ∀ (j k : Nat), k + j = 8 → Pre W k → qX5_lettersIn_L4 g (fun σ_3 x2_1 x3_2 => qX5_lettersIn_J45 g P σ_3 x2_1 x3_2) P (j + 1) σ (nI k) (lN (W / 2 ^ (8 * k)))
  | 0, k, e, hp => by
    have e8 : k = 8 := by omega
    subst e8
    rw [qX5_lettersIn_L4, if_pos (by decide)]
    unfold qX5_lettersIn_J45
    rw [show W / 2 ^ (8 * 8) = 0 from Nat.div_eq_of_lt hW, if_pos (by decide)]
    exact h1 8 ⟨by decide, hp, fun k a b => by omega⟩
  | j + 1, k, e, hp => by
    have hb := lb_lt W k
    have d64 := div_lt64 hW (8 * k)
    rw [qX5_lettersIn_L4, if_neg (nge8 (by omega)), and255 d64]
    have eb : W / 2 ^ (8 * k) % 256 = lb W k := rfl
    rw [eb]
    have c0 : (lg_cmp (lN (lb W k)) 0 = 0) ↔ lb W k = 0 := by
      have : ∀ b, b < 256 → (lg_cmp (lN b) 0 = 0 ↔ b = 0) := by decide +kernel
      exact this _ hb
    have c1 : (lg_cmp (lN (lb W k)) 126 ≤ 0) ↔ lb W k ≤ 126 := by
      have : ∀ b, b < 256 → (lg_cmp (lN b) 126 ≤ 0 ↔ b ≤ 126) := by decide +kernel
      exact this _ hb
    by_cases q0 : lb W k = 0
    · rw [if_pos (c0.mpr q0)]
      unfold qX5_lettersIn_J45
      by_cases z : W / 2 ^ (8 * k) = 0
      · rw [z, if_pos (by decide)]
        exact h1 k ⟨by omega, hp, fun i hi _ => lb_zero' z i hi⟩
      · rw [if_neg (fun c => z (by
          have c' : lN (W / 2 ^ (8 * k)) = 0 := by
            unfold lg_cmp at c
            split at c
            · exact absurd c (by decide)
            · split at c
              · assumption
              · exact absurd c (by decide)
          have := congrArg (fun v => v.toBitVec.toNat) c'
          simp only [wb_tn d64] at this
          exact this))]
        refine h0 (fun m hm => z ?_)
        have hkm := good_uniq (by omega) hp hm
        have : m = k := by
          rcases Nat.lt_or_ge k m with a | a
          · have := (hm.2.1 k a).1; omega
          · omega
        subst this
        exact lb_zero hW _ _ e hm.2.2
    rw [if_neg (fun c => q0 (c0.mp c))]
    by_cases q1 : lb W k ≤ 126
    · rw [if_pos (c1.mpr q1), bnd_eq, bnd_eq, nI_1]
      have er : jlushr (lN (W / 2 ^ (8 * k))) 8 = lN (W / 2 ^ (8 * (k + 1))) := by
        have := wb_shr (k := 8) d64 (by decide)
        rw [Nat.div_div_eq_div_mul, ← Nat.pow_add, show 8 * k + 8 = 8 * (k + 1) by omega] at this
        exact this
      rw [er]
      refine x_lin hW h1 h0 j (k + 1) (by omega) (fun i hi => ?_)
      by_cases c : i = k
      · subst c; exact ⟨by omega, q1⟩
      · exact hp i (by omega)
    · rw [if_neg (fun c => q1 (c1.mp c))]
      refine h0 (fun m hm => ?_)
      have hkm := good_uniq (by omega) hp hm
      rcases Nat.lt_or_ge k m with a | a
      · exact q1 (hm.2.1 k a).2
      · exact q0 (hm.2.2 k (by omega) (by omega))
theorem m_lin {μ : MS} {W : Nat} (hW : W < 2 ^ 64) {P : Int32 → MS → Prop} {e85 : MS → Int64 → Int32 → Prop} (h1 : ∀ m, Good W m → e85 μ (lN W) (nI m)) (h0 : (∀ m, ¬ Good W m) → P (-102) μ) : ∀ (j k m en : Nat), k + j = 8 → en ≤ 1 → m ≤ k → (en = 0 → m = k) → (en = 1 → ∀ i, m ≤ i → i < k → lb W i = 0) → (en = 1 → m < k) → Pre W m → qX11_letters_L8 e85 P (j + 1) μ (lN W) (nI m) (nI en) (nI k)
  | 0, k, m, en, e, he, hm, h2, h3, h4, hp => by
    have e8 : k = 8 := by omega
    subst e8
    rw [qX11_letters_L8, if_pos (by decide)]
    refine h1 m ⟨hm, hp, fun i a b => ?_⟩
    rcases (by omega : en = 0 ∨ en = 1) with r | r
    · have := h2 r; omega
    · exact h3 r i a b
  | j + 1, k, m, en, e, he, hm, h2, h3, h4, hp => by
    have hb := lb_lt W k
    have no : ∀ m', Good W m' → m ≤ m' := fun m' g' => by
      rcases Nat.lt_or_ge m' m with q | q
      · have a := hp m' q
        have b := g'.2.2 m' (Nat.le_refl _) (by omega)
        omega
      · exact q
    rw [qX11_letters_L8, if_neg (nge8 (by omega)), w8, jsh255 hW (by omega), l2i _ hb, bnd_eq]
    by_cases q1 : 126 < lb W k
    · rw [if_pos (ngt126 q1 (by omega))]
      refine h0 (fun m' g' => ?_)
      rcases Nat.lt_or_ge k m' with a | a
      · have := (g'.2.1 k a).2; omega
      · have := g'.2.2 k a (by omega); omega
    rw [if_neg (nle126 (by omega))]
    have l0 : (nI (lb W k) = 0) ↔ lb W k = 0 := nI_eq (b := 0) (by omega) (by decide)
    rcases (by omega : en = 0 ∨ en = 1) with rfl | rfl
    · rw [if_pos (by decide)]
      unfold qX11_letters_J49
      rw [bnd_eq, bnd_eq, bnd_eq, bnd_eq, nI_1, if_pos (show nI 0 = 0 from rfl)]
      have ek := h2 rfl
      by_cases q0 : lb W k = 0
      · rw [if_pos (l0.mpr q0), if_pos (l0.mpr q0), show nI m + 0 = nI (m + 0) from nI_add m 0]
        refine m_lin hW h1 h0 j (k + 1) m 1 (by omega) (by omega) (by omega) (by omega) (fun _ i a b => ?_) (by omega) hp
        have : i = k := by omega
        rw [this]; exact q0
      · rw [if_neg (fun c => q0 (l0.mp c)), if_neg (fun c => q0 (l0.mp c)), nI_1]
        refine m_lin hW h1 h0 j (k + 1) (m + 1) 0 (by omega) (by omega) (by omega) (by omega) (by omega) (by omega) (fun i hi => ?_)
        by_cases c : i = k
        · subst c; exact ⟨by omega, by omega⟩
        · exact hp i (by omega)
    · rw [if_neg (by decide)]
      by_cases q0 : lb W k = 0
      · rw [if_pos (l0.mpr q0)]
        unfold qX11_letters_J49
        rw [bnd_eq, bnd_eq, bnd_eq, bnd_eq, nI_1, if_neg (show ¬ nI 1 = 0 by decide), if_pos (l0.mpr q0), show nI m + 0 = nI (m + 0) from nI_add m 0]
        refine m_lin hW h1 h0 j (k + 1) m 1 (by omega) (by omega) (by omega) (by omega) (fun _ i a b => ?_) (fun _ => by have := h4 rfl; omega) hp
        by_cases c : i = k
        · subst c; exact q0
        · exact h3 rfl i a (by omega)
      · rw [if_neg (fun c => q0 (l0.mp c))]
        refine h0 (fun m' g' => ?_)
        have a := h4 rfl
        rcases Nat.lt_or_ge k m' with b | b
        · have := (g'.2.1 m (by omega)).1
          have := h3 rfl m (Nat.le_refl _) a
          omega
        · exact q0 (g'.2.2 k b (by omega))
/- they are written -/
def lpg (A : AS) (W m : Nat) : Nat → Nat := fun i => if A.1 17 ≤ i ∧ i < A.1 17 + m then lb W (i - A.1 17) else A.2 18 i
def lpA (A : AS) (W m : Nat) : AS := (va_up A.1 17 (A.1 17 + m), va_up A.2 18 (lpg A W m))
theorem lpA_ok {A : AS} {W m : Nat} (hA : WFA A) (hm : Good W m) (h16 : A.1 17 + m ≤ 16) : WFA (lpA A W m) := by
  refine ⟨hA.1, hA.2.1, ⟨h16, fun i hi => ?_⟩, hA.2.2.2⟩
  have hi : i < A.1 17 + m := hi
  show lpg A W m i ≤ 126
  unfold lpg
  split
  · rename_i q; exact (hm.2.1 _ (by omega)).2
  · exact hA.2.2.1.2 i (by omega)
def WrX (A : AS) (W : Nat) (σ : XS) (k : Nat) (τ : XS) : Prop := xK τ = xK σ ∧ xP τ 1 = nI (A.1 17 + k) ∧ (∀ i, i < A.1 17 + k → xS τ i = nI (lpg A W k i)) ∧ xTB τ = xTB σ ∧ xTI τ = xTI σ
theorem lpg_s {A : AS} {W k i : Nat} : lpg A W (k + 1) i = if i = A.1 17 + k then lb W k else lpg A W k i := by
  unfold lpg
  by_cases e : i = A.1 17 + k
  · rw [if_pos e, if_pos (by omega)]; congr 1; omega
  · rw [if_neg e]
    by_cases q : A.1 17 ≤ i ∧ i < A.1 17 + k
    · rw [if_pos q, if_pos (by omega)]
    · rw [if_neg q, if_neg (by omega)]
theorem x_write_L {A : AS} {g : XG} {σ : XS} {W m : Nat} (hW : W < 2 ^ 64) (hm8 : m ≤ 8) (h16 : A.1 17 + m ≤ 16) {P : XS → Prop} (hP : ∀ τ, WrX A W σ m τ → P τ) : ∀ (j k : Nat) (τ : XS), k + j = m → WrX A W σ k τ → qX5_write_L3 g P (j + 1) τ (lN W) (nI m) (nI k)
  | 0, k, τ, e, h => by
    have : k = m := by omega
    subst this
    rw [qX5_write_L3, if_pos (Int32.le_refl _)]; exact hP τ h
  | j + 1, k, τ, e, h => by
    have hb := lb_lt W k
    rw [qX5_write_L3, if_neg (nI_ge (by omega) (by omega)), h.2.1, if_neg (nge16 (by omega)), w8, jlu255 hW (by omega), l2i _ hb, bnd_eq, bnd_eq, bnd_eq, nI_1]
    refine ⟨vp_in_nI (by omega) (by decide), ?_⟩
    refine x_write_L hW hm8 h16 hP j (k + 1) _ (by omega) ⟨h.1, ?_, fun i hi => ?_, h.2.2.2.1, h.2.2.2.2⟩
    · show upd (xP τ) 1 (xP τ 1 + 1) 1 = _
      rw [pk_us, h.2.1, nI_1]; rfl
    · show upd (xS τ) (nI (A.1 17 + k)).toNatClampNeg (nI (lb W k)) i = _
      rw [nI_clamp (by omega), lpg_s]
      by_cases c : i = A.1 17 + k
      · rw [c, pk_us, if_pos rfl]
      · rw [pk_un c, if_neg c]; exact h.2.2.1 i (by omega)
def WrM (A : AS) (W : Nat) (μ : MS) (k : Nat) (τ : MS) : Prop := τ.1 = μ.1 ∧ (∀ j, j ≠ 18 → τ.2.1 j = μ.2.1 j) ∧ ∀ i, i < A.1 17 + k → τ.2.1 18 i = nI (lpg A W k i)
theorem m_write_L {A : AS} {μ : MS} {W m : Nat} (hW : W < 2 ^ 64) (hg : Good W m) (h17 : μ.1 17 = nI (A.1 17)) (h16 : A.1 17 + m ≤ 16) {P : Int32 → MS → Prop} {e135 : MS → Int32 → Prop} (hP : ∀ τ, WrM A W μ m τ → e135 τ (nI m)) : ∀ (j k : Nat) (τ : MS), k + j = m → WrM A W μ k τ → qX11_letters_L102 e135 P (j + 1) τ (lN W) (nI m) (nI k)
  | 0, k, τ, e, h => by
    have : k = m := by omega
    subst this
    rw [qX11_letters_L102, if_pos (Int32.le_refl _)]; exact hP τ h
  | j + 1, k, τ, e, h => by
    have hb := lb_lt W k
    have hm8 := hg.1
    have t17 : τ.1 17 = nI (A.1 17) := by rw [h.1]; exact h17
    rw [qX11_letters_L102, if_neg (nI_ge (by omega) (by omega)), t17, nI_add, w8, mbyte hW (by omega) (hg.2.1 k (by omega)).2, bnd_eq, bnd_eq, nI_1]
    refine ⟨vp_in_nI (by omega) (by decide), ?_⟩
    refine m_write_L hW hg h17 h16 hP j (k + 1) _ (by omega) ⟨h.1, fun i hi => ?_, fun i hi => ?_⟩
    · show va_up τ.2.1 18 _ i = _
      rw [va_up_ne _ _ hi]; exact h.2.1 i hi
    · show upd (τ.2.1 18) (nI (A.1 17 + k)).toNatClampNeg (nI (lb W k)) i = _
      rw [nI_clamp (by omega), lpg_s]
      by_cases c : i = A.1 17 + k
      · rw [c, pk_us, if_pos rfl]
      · rw [pk_un c, if_neg c]; exact h.2.2 i (by omega)
theorem lpg_0 {A : AS} {W i : Nat} : lpg A W 0 i = A.2 18 i := by
  unfold lpg; rw [if_neg (by omega)]
theorem ok_letters {em : Nat} {g : XG} {σ : XS} {μ : MS} {a0 : Int64} (hK : KK em g σ μ) : qX10_letters g σ a0 (fun r σ1 => qX11_letters μ a0 (fun r2 μ1 => r = r2 ∧ KK em g σ1 μ1)) := by
  obtain ⟨A, hA, hX, hM⟩ := hK
  have fin := KK.mk hA hX hM
  obtain ⟨W, hW, rfl⟩ := wb_of a0
  have h16 := hA.2.2.1.1
  have ini : ∀ {P : Int32 → XS → Prop}, (∀ m, Good W m → P (nI m) σ) → ((∀ m, ¬ Good W m) → P (-1) σ) → qX5_lettersIn g σ (lN W) P := fun {P} p1 p0 => by
    have := x_lin (g := g) (σ := σ) hW p1 p0 8 0 rfl (fun k hk => absurd hk (Nat.not_lt_zero _))
    rw [show W / 2 ^ (8 * 0) = W from Nat.div_one W] at this
    exact ⟨_, this⟩
  have inm : ∀ {P : Int32 → MS → Prop} {e85 : MS → Int64 → Int32 → Prop}, (∀ m, Good W m → e85 μ (lN W) (nI m)) → ((∀ m, ¬ Good W m) → P (-102) μ) → ∃ f8, qX11_letters_L8 e85 P f8 μ (lN W) 0 0 0 := fun {P e85} p1 p0 =>
    ⟨_, m_lin (μ := μ) hW p1 p0 8 0 0 0 rfl (by decide) (by decide) (fun _ => rfl) (by omega) (by omega) (fun k hk => absurd hk (Nat.not_lt_zero _))⟩
  unfold qX10_letters
  refine ini (fun m hm => ?_) (fun hn => ?_)
  · have hm8 := hm.1
    have g1 : ∀ m', Good W m' → m' = m := fun m' h' => by
      rcases Nat.lt_trichotomy m m' with q | q | q
      · have a := (h'.2.1 m q).1
        have b := hm.2.2 m (Nat.le_refl _) (by have := h'.1; omega)
        omega
      · exact q.symm
      · have a := (hm.2.1 m' q).1
        have b := h'.2.2 m' (Nat.le_refl _) (by omega)
        omega
    rw [if_pos (nI_pos' (by omega)), hX.2.2.1.1, nI_add]
    have l16 : (nI (A.1 17 + m) ≤ 16) ↔ A.1 17 + m ≤ 16 := nI_leI (b := 16) (by omega) (by decide)
    by_cases q : A.1 17 + m ≤ 16
    · rw [if_pos (l16.mpr q)]
      refine ⟨_, x_write_L (A := A) hW hm8 q (fun τ hτ => ?_) m 0 σ (by omega) ⟨rfl, hX.2.2.1.1, fun i hi => ?_, rfl, rfl⟩⟩
      · refine inm (fun m' h' => ?_) (fun z => absurd hm (z m))
        rw [g1 m' h', hM.2.2.1.1, nI_add, if_pos (l16.mpr q)]
        refine ⟨_, m_write_L (A := A) hW hm hM.2.2.1.1 q (fun τ2 h2 => ?_) m 0 μ (by omega) ⟨rfl, fun _ _ => rfl, fun i hi => ?_⟩⟩
        · rw [bnd_eq]
          have e17 : τ2.1 17 = nI (A.1 17) := by rw [h2.1]; exact hM.2.2.1.1
          rw [e17, nI_add]
          refine ⟨?_, KK.mk (lpA_ok hA hm q) ⟨hX.1, ?_, ⟨hτ.2.1, hτ.2.2.1⟩, ?_⟩ ?_⟩
          · show xP τ 1 = nI (A.1 17 + m); exact hτ.2.1
          · exact hX.2.1.fr (by rw [hτ.2.2.2.1]) (by rw [hτ.2.2.2.2])
          · exact hX.2.2.2.fr hτ.1 (by rw [hτ.2.2.2.1]) (by rw [hτ.2.2.2.2])
          · have n17 : ∀ j, j ≠ 17 → (mset τ2 17 (nI (A.1 17 + m))).1 j = μ.1 j := fun j hj => by
              show upd τ2.1 17 _ j = _; rw [pk_un hj, h2.1]
            have n18 : ∀ j, j ≠ 18 → (mset τ2 17 (nI (A.1 17 + m))).2.1 j = μ.2.1 j := fun j hj => h2.2.1 j hj
            refine ⟨?_, ?_, ⟨rfl, h2.2.2⟩, ?_⟩
            · have := hM.1
              unfold KMt at *
              rw [n17 0 (by decide), n17 10 (by decide), n17 11 (by decide), n18 1 (by decide), n18 2 (by decide), n18 3 (by decide), n18 4 (by decide), n18 5 (by decide), n18 6 (by decide), n18 7 (by decide), n18 8 (by decide), n18 9 (by decide)]
              exact this
            · have := hM.2.1
              unfold KMv at *
              rw [n17 12 (by decide), n18 13 (by decide), n18 14 (by decide), n18 15 (by decide), n18 16 (by decide)]
              exact this
            · have := hM.2.2.2
              unfold KMi at *
              rw [n17 19 (by decide), n17 20 (by decide), n17 21 (by decide), n17 22 (by decide), n18 23 (by decide), n18 24 (by decide), n18 25 (by decide)]
              exact this
        · rw [lpg_0]; exact hM.2.2.1.2 i (by omega)
      · rw [lpg_0]; exact hX.2.2.1.2 i (by omega)
    · rw [if_neg (fun c => q (l16.mp c))]
      refine inm (fun m' h' => ?_) (fun z => absurd hm (z m))
      rw [g1 m' h', hM.2.2.1.1, nI_add, if_neg (fun c => q (l16.mp c))]
      exact ⟨rfl, fin⟩
  · rw [if_neg (by decide)]
    exact inm (fun m' h' => absurd h' (hn m')) (fun _ => ⟨rfl, fin⟩)
