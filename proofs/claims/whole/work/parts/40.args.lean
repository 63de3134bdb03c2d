/-! arguments, on both sides -/
theorem if0 {N Y : Prop} (h : N) : (if (0 : Int32) = 0 then N else Y) := by rw [if_pos rfl]; exact h
theorem if1 {N Y : Prop} (h : Y) : (if (1 : Int32) = 0 then N else Y) := by rw [if_neg (by decide)]; exact h
section
variable {g : XG} {σ : XS} {μ : MS} {A : AS} {em : Nat} {x : Int32}
theorem x_withinK {lo hi : Nat} {Y N : XS → Prop} (hl : lo < 2 ^ 31) (hh : hi < 2 ^ 31) (h1 : Bt x lo hi → Y σ) (h0 : ¬ Bt x lo hi → N σ) : qX10_isWithin g σ x (nI lo) (nI hi) (fun r σ_1 => if r = 0 then N σ_1 else Y σ_1) := by
  unfold qX10_isWithin
  rw [bt_iff hl hh] at h1 h0
  by_cases a : x < nI lo
  · rw [if_pos a]; exact if0 (h0 (fun q => q.1 a))
  rw [if_neg a]
  by_cases b : nI hi < x
  · rw [if_pos b]; exact if0 (h0 (fun q => q.2 b))
  rw [if_neg b]; exact if1 (h1 ⟨a, b⟩)
theorem x_hermK {Y N : XS → Prop} (hA : Tok A) (hG : KXg em A g) (h1 : In x (A.1 0) → Y σ) (h0 : ¬ In x (A.1 0) → N σ) : qX10_isHermit g σ x (fun r σ_1 => if r = 0 then N σ_1 else Y σ_1) := by
  have h10 := hA.1
  unfold qX10_isHermit
  rw [hG.1]
  rw [in_iff (by omega)] at h1 h0
  by_cases a : x < 0
  · rw [if_pos a]; exact if0 (h0 (fun q => q.1 a))
  rw [if_neg a]
  by_cases b : nI (A.1 0) ≤ x
  · rw [if_pos b]; exact if0 (h0 (fun q => q.2 b))
  rw [if_neg b]; exact if1 (h1 ⟨a, b⟩)
theorem x_seatK {Y N : XS → Prop} (hA : Tok A) (hG : KXg em A g) (h1 : In x (A.1 0) → Y σ) (h0 : ¬ In x (A.1 0) → N σ) : qX10_isSeat g σ x (fun r σ_1 => if r = 0 then N σ_1 else Y σ_1) :=
  x_hermK hA hG h1 h0
theorem x_fastsK {Y N : XS → Prop} (hA : Tok A) (hG : KXg em A g) (h1 : In x (2 ^ A.1 0) → Y σ) (h0 : ¬ In x (2 ^ A.1 0) → N σ) : qX10_areFasts g σ x (fun r σ_1 => if r = 0 then N σ_1 else Y σ_1) := by
  have h10 := hA.1
  have hp : 2 ^ A.1 0 ≤ 2 ^ 10 := Nat.pow_le_pow_right (by decide) h10
  unfold qX10_areFasts
  rw [hG.1, shl1 _ (by omega)]
  rw [in_iff (by omega)] at h1 h0
  by_cases a : x < 0
  · rw [if_pos a]; exact if0 (h0 (fun q => q.1 a))
  rw [if_neg a]
  by_cases b : nI (2 ^ A.1 0) ≤ x
  · rw [if_pos b]; exact if0 (h0 (fun q => q.2 b))
  rw [if_neg b]; exact if1 (h1 ⟨a, b⟩)
theorem x_vowK {S : Fin (nV g) → XS → Prop} {N : XS → Prop} (hA : WFA A) (hG : KXg em A g) (h1 : ∀ v : Fin (nV g), v.val < A.1 12 → x = nI v.val → S v σ) (h0 : ¬ In x (A.1 12) → N σ) : qX10_vowNumbered g σ x (fun r_2 σ_1 => (r_2 = none → N σ_1) ∧ (∀ v_3, r_2 = some v_3 → S v_3 σ_1)) := by
  have h6 := hA.2.1.1
  have hn := hG.2.1
  have eV : nI (nV g) = nI (A.1 12) := congrArg nI hn
  have none_ : ¬ In x (A.1 12) → ((none : Option (Fin (nV g))) = none → N σ) ∧ (∀ v_3, (none : Option (Fin (nV g))) = some v_3 → S v_3 σ) := fun q => ⟨fun _ => h0 q, fun v e => by cases e⟩
  unfold qX10_vowNumbered
  rw [eV]
  by_cases a : x < 0
  · rw [if_pos a]; exact none_ (fun q => ((in_iff (by omega)).mp q).1 a)
  rw [if_neg a]
  by_cases b : nI (A.1 12) ≤ x
  · rw [if_pos b]; exact none_ (fun q => ((in_iff (by omega)).mp q).2 b)
  rw [if_neg b]
  obtain ⟨j, hj, rfl⟩ := (in_iff (by omega)).mpr ⟨a, b⟩
  refine ⟨vp_in_nI (by omega) (by omega), fun v hv => ⟨fun e => (by cases e), fun w e => ?_⟩⟩
  injection e with e
  subst e
  have ev : v.val = j := by rw [hv, nI_clamp (by omega)]
  exact h1 v (by omega) (by rw [ev])
theorem m_withinK {lo hi : Nat} {Y N : MS → Prop} (hl : lo < 2 ^ 31) (hh : hi < 2 ^ 31) (h1 : Bt x lo hi → Y μ) (h0 : ¬ Bt x lo hi → N μ) : qX11_within μ x (nI lo) (nI hi) (fun r σ_1 => if r = 0 then N σ_1 else Y σ_1) :=
  m_within hl hh (fun q => by show (if (1 : Int32) = 0 then N μ else Y μ); exact if1 (h1 q)) (fun q => by show (if (0 : Int32) = 0 then N μ else Y μ); exact if0 (h0 q))
theorem m_belowB {n : Nat} {P : Int32 → MS → Prop} (hn : n < 2 ^ 30) (h1 : In x n → P 1 μ) (h0 : ¬ In x n → P 0 μ) : qX11_within μ x 0 (nI n - 1) (fun r σ_1 => isB r ∧ P r σ_1) :=
  m_below hn (fun q => ⟨isB_1, h1 q⟩) (fun q => ⟨isB_0, h0 q⟩)
theorem m_vowK {Y N : MS → Prop} (hA : WFA A) (hK : KM A μ) (h1 : In x (A.1 12) → Y μ) (h0 : ¬ In x (A.1 12) → N μ) : qX11_isVow μ x (fun r σ_1 => if r = 0 then N σ_1 else Y σ_1) := by
  have h6 := hA.2.1.1
  unfold qX11_isVow
  rw [hK.2.1.1]
  refine m_belowB (by omega) (fun q => ?_) (fun q => ?_)
  · exact if1 (h1 q)
  · exact if0 (h0 q)
theorem m_hermK {Y N : MS → Prop} (hA : Tok A) (hK : KMt A μ) (h1 : In x (A.1 0) → Y μ) (h0 : ¬ In x (A.1 0) → N μ) : qX11_isHermit μ x (fun r σ_1 => if r = 0 then N σ_1 else Y σ_1) := by
  have h6 := hA.1
  unfold qX11_isHermit
  rw [hK.1]
  refine m_belowB (by omega) (fun q => ?_) (fun q => ?_)
  · exact if1 (h1 q)
  · exact if0 (h0 q)
theorem m_seatK {Y N : MS → Prop} (hA : Tok A) (hK : KMt A μ) (h1 : In x (A.1 0) → Y μ) (h0 : ¬ In x (A.1 0) → N μ) : qX11_isSeat μ x (fun r σ_1 => if r = 0 then N σ_1 else Y σ_1) :=
  m_hermK hA hK h1 h0
theorem m_fastsK {Y N : MS → Prop} (hA : Tok A) (hK : KMt A μ) (h1 : In x (2 ^ A.1 0) → Y μ) (h0 : ¬ In x (2 ^ A.1 0) → N μ) : qX11_areFasts μ x (fun r σ_1 => if r = 0 then N σ_1 else Y σ_1) := by
  have h10 := hA.1
  have hp : 2 ^ A.1 0 ≤ 2 ^ 10 := Nat.pow_le_pow_right (by decide) h10
  unfold qX11_areFasts
  rw [hK.1, shl1 _ (by omega)]
  refine m_belowB (by omega) (fun q => ?_) (fun q => ?_)
  · exact if1 (h1 q)
  · exact if0 (h0 q)
theorem m_dayK {y : Int32} {Y N : MS → Prop} (hA : WFA A) (hK : KM A μ) (h1 : In x (A.1 12) → In y (A.1 0) → Y μ) (h0 : ¬ (In x (A.1 12) ∧ In y (A.1 0)) → N μ) : qX11_isDay μ x y (fun r σ_1 => if r = 0 then N σ_1 else Y σ_1) := by
  unfold qX11_isDay
  refine m_vowK hA hK (fun q => ?_) (fun q => ?_)
  · refine m_seatK hA.1 hK.1 (fun s => ?_) (fun s => ?_)
    · exact if1 (h1 q s)
    · exact if0 (h0 (fun z => s z.2))
  · exact if0 (h0 (fun z => q z.1))
theorem KK.mk {A : AS} (hA : WFA A) (hX : KX em A g σ) (hM : KM A μ) : KK em g σ μ := ⟨A, hA, hX, hM⟩
end
/- a half, met with the other half -/
theorem sI_succ (v : Nat) : sI (v + 1) = nI v := by rw [sI_pos (by omega)]; rfl
theorem bI_asN {g : XG} {σ : XS} {b : Nat} {P : Int32 → XS → Prop} (hb : b ≤ 1) (hP : P (nI b) σ) : qX10_asNumber g σ (nI b) P := by
  unfold qX10_asNumber
  rcases (by omega : b = 0 ∨ b = 1) with rfl | rfl
  · rw [if_pos (by decide)]; exact hP
  · rw [if_neg (by decide)]; exact hP
theorem nI_asB {b : Nat} (hb : b ≤ 1) : (if nI b = 0 then 0 else 1 : Int32) = nI b := by
  rcases (by omega : b = 0 ∨ b = 1) with rfl | rfl
  · rfl
  · rfl
