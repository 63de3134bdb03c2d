/-! the page read as a vow -/
def nx (s c : Nat) : Nat := if s = 0 then (if c = 108 ∨ c = 114 then 1 else 0) else if s = 1 then (if c = 116 then 2 else if c = 100 then 4 else if c = 120 then 5 else 0) else if s = 2 then (if 49 ≤ c ∧ c ≤ 57 then 3 else 0) else if s = 3 then (if c = 100 then 4 else if c = 120 then 5 else 0) else if s = 4 then (if c = 120 then 5 else 0) else if s = 5 then (if 49 ≤ c ∧ c ≤ 57 then 6 else 0) else 0
theorem m_fig {τ : MS} {c : Nat} {P : Int32 → MS → Prop} (hc : c ≤ 126) (h : P (nI (if 49 ≤ c ∧ c ≤ 57 then 1 else 0)) τ) : qX11_within τ (nI c) 49 57 P := by
  refine m_within (lo := 49) (hi := 57) (by decide) (by decide) (fun b => ?_) (fun b => ?_)
  · obtain ⟨j, a1, a2, e⟩ := b
    rw [nI_eq (by omega) (by omega)] at e
    subst e
    rw [if_pos ⟨a1, a2⟩] at h; exact h
  · rw [if_neg (fun q => b ⟨c, q.1, q.2, rfl⟩)] at h; exact h
theorem m_after {τ : MS} {c : Nat} {P : Int32 → MS → Prop} (hc : c ≤ 126) (h : ∀ τ', τ' = mset τ 30 (if c = 100 then 1 else 0) → P (if c = 100 then 4 else if c = 120 then 5 else -1) τ') : qX11_afterTurns τ (nI c) P := by
  have l100 : (nI c = 100) ↔ c = 100 := nI_eq (b := 100) (by omega) (by decide)
  have l120 : (nI c = 120) ↔ c = 120 := nI_eq (b := 120) (by omega) (by decide)
  have q := h _ rfl
  unfold qX11_afterTurns
  simp only [bnd_eq, l100, l120]
  by_cases e : c = 100
  · rw [if_pos e, if_pos e]; rw [if_pos e, if_pos e] at q; exact q
  rw [if_neg e, if_neg e]; rw [if_neg e, if_neg e] at q
  by_cases e2 : c = 120
  · rw [if_pos e2]; rw [if_pos e2] at q; exact q
  · rw [if_neg e2]; rw [if_neg e2] at q; exact q
theorem m_nx {τ : MS} {s c : Nat} {P : Int32 → MS → Prop} (hs : s ≤ 6) (hc : c ≤ 126) (h : ∀ τ', FrM τ τ' → τ'.1 28 = (if s = 0 then (if c = 108 then 1 else 0) else τ.1 28) → τ'.1 29 = (if s = 2 ∧ 49 ≤ c ∧ c ≤ 57 then nI (c - 48) else τ.1 29) → τ'.1 30 = (if s = 3 ∨ (s = 1 ∧ ¬ c = 116) then (if c = 100 then 1 else 0) else τ.1 30) → τ'.1 31 = (if s = 5 ∧ 49 ≤ c ∧ c ≤ 57 then nI (c - 48) else τ.1 31) → P (if nx s c = 0 then -1 else nI (nx s c)) τ') : qX11_nextState τ (nI s) (nI c) P := by
  have l108 : (nI c = 108) ↔ c = 108 := nI_eq (b := 108) (by omega) (by decide)
  have l114 : (nI c = 114) ↔ c = 114 := nI_eq (b := 114) (by omega) (by decide)
  have l116 : (nI c = 116) ↔ c = 116 := nI_eq (b := 116) (by omega) (by decide)
  have l120 : (nI c = 120) ↔ c = 120 := nI_eq (b := 120) (by omega) (by decide)
  unfold qX11_nextState qX11_nextState_J75
  refine m_fig hc ?_
  rcases (by omega : s = 0 ∨ s = 1 ∨ s = 2 ∨ s = 3 ∨ s = 4 ∨ s = 5 ∨ s = 6) with rfl | rfl | rfl | rfl | rfl | rfl | rfl
  · rw [if_pos (by decide), bnd_eq, bnd_eq]
    simp only [l108, l114]
    have q := h (mset τ 28 (if c = 108 then 1 else 0)) (mset_fr (by decide)) rfl rfl rfl rfl
    have en : nx 0 c = if c = 108 ∨ c = 114 then 1 else 0 := rfl
    rw [en] at q
    by_cases e : c = 108
    · rw [if_pos (Or.inl e)] at q; rw [if_pos e]; exact q
    rw [if_neg e]
    by_cases e2 : c = 114
    · rw [if_pos (Or.inr e2)] at q; rw [if_pos e2]; exact q
    · rw [if_neg (show ¬ (c = 108 ∨ c = 114) from fun z => z.elim e e2)] at q; rw [if_neg e2]; exact q
  · rw [if_neg (by decide), if_pos (by decide)]
    simp only [l116]
    have en : nx 1 c = if c = 116 then 2 else if c = 100 then 4 else if c = 120 then 5 else 0 := rfl
    by_cases e : c = 116
    · rw [if_pos e]
      have q := h τ (FrM.refl τ) rfl rfl (by simp [e]) rfl
      rw [en, if_pos e] at q; exact q
    rw [if_neg e]
    refine m_after hc (fun τ' e' => ?_)
    have q := h τ' (by rw [e']; exact mset_fr (by decide)) (by rw [e']; rfl) (by rw [e']; rfl) (by rw [e', if_pos (Or.inr ⟨rfl, e⟩)]; rfl) (by rw [e']; rfl)
    rw [en, if_neg e] at q
    by_cases e1 : c = 100
    · rw [if_pos e1]; rw [if_pos e1] at q; exact q
    rw [if_neg e1]; rw [if_neg e1] at q
    by_cases e2 : c = 120
    · rw [if_pos e2]; rw [if_pos e2] at q; exact q
    · rw [if_neg e2]; rw [if_neg e2] at q; exact q
  · rw [if_neg (by decide), if_neg (by decide), if_pos (by decide)]
    have en : nx 2 c = if 49 ≤ c ∧ c ≤ 57 then 3 else 0 := rfl
    by_cases e : 49 ≤ c ∧ c ≤ 57
    · have e48 : nI c - 48 = nI (c - 48) := pk_sub (b := 48) (by omega)
      rw [if_pos e, if_neg (by decide), bnd_eq, bnd_eq, if_neg (by decide), e48]
      have q := h (mset τ 29 (nI (c - 48))) (mset_fr (by decide)) rfl (by rw [if_pos ⟨rfl, e⟩]; rfl) rfl rfl
      rw [en, if_pos e] at q; exact q
    · rw [if_neg e, if_pos (by decide), bnd_eq, bnd_eq, if_pos (by decide)]
      have q := h (mset τ 29 (τ.1 29)) (mset_fr (by decide)) rfl (by rw [if_neg (fun z => e z.2)]; rfl) rfl rfl
      rw [en, if_neg e] at q; exact q
  · rw [if_neg (by decide), if_neg (by decide), if_neg (by decide), if_pos (by decide)]
    have en : nx 3 c = if c = 100 then 4 else if c = 120 then 5 else 0 := rfl
    refine m_after hc (fun τ' e' => ?_)
    have q := h τ' (by rw [e']; exact mset_fr (by decide)) (by rw [e']; rfl) (by rw [e']; rfl) (by rw [e', if_pos (Or.inl rfl)]; rfl) (by rw [e']; rfl)
    rw [en] at q
    by_cases e1 : c = 100
    · rw [if_pos e1]; rw [if_pos e1] at q; exact q
    rw [if_neg e1]; rw [if_neg e1] at q
    by_cases e2 : c = 120
    · rw [if_pos e2]; rw [if_pos e2] at q; exact q
    · rw [if_neg e2]; rw [if_neg e2] at q; exact q
  · rw [if_neg (by decide), if_neg (by decide), if_neg (by decide), if_neg (by decide), if_pos (by decide)]
    have en : nx 4 c = if c = 120 then 5 else 0 := rfl
    simp only [l120]
    have q := h τ (FrM.refl τ) rfl rfl rfl rfl
    rw [en] at q
    by_cases e2 : c = 120
    · rw [if_pos e2]; rw [if_pos e2] at q; exact q
    · rw [if_neg e2]; rw [if_neg e2] at q; exact q
  · rw [if_neg (by decide), if_neg (by decide), if_neg (by decide), if_neg (by decide), if_neg (by decide), if_pos (by decide)]
    have en : nx 5 c = if 49 ≤ c ∧ c ≤ 57 then 6 else 0 := rfl
    by_cases e : 49 ≤ c ∧ c ≤ 57
    · have e48 : nI c - 48 = nI (c - 48) := pk_sub (b := 48) (by omega)
      rw [if_pos e, if_neg (by decide), bnd_eq, bnd_eq, if_neg (by decide), e48]
      have q := h (mset τ 31 (nI (c - 48))) (mset_fr (by decide)) rfl rfl rfl (by rw [if_pos ⟨rfl, e⟩]; rfl)
      rw [en, if_pos e] at q; exact q
    · rw [if_neg e, if_pos (by decide), bnd_eq, bnd_eq, if_pos (by decide)]
      have q := h (mset τ 31 (τ.1 31)) (mset_fr (by decide)) rfl rfl rfl (by rw [if_neg (fun z => e z.2)]; rfl)
      rw [en, if_neg e] at q; exact q
  · rw [if_neg (by decide), if_neg (by decide), if_neg (by decide), if_neg (by decide), if_neg (by decide), if_neg (by decide)]
    exact h τ (FrM.refl τ) rfl rfl rfl rfl
/-- the page: n letters -/
def PgM (n : Nat) (p : Nat → Nat) (τ : MS) : Prop := n ≤ 16 ∧ (∀ i, i < n → p i ≤ 126) ∧ τ.1 17 = nI n ∧ ∀ i, i < n → τ.2.1 18 i = nI (p i)
theorem PgM.fr {n : Nat} {p : Nat → Nat} {τ τ' : MS} (h : PgM n p τ) (f : FrM τ τ') : PgM n p τ' := ⟨h.1, h.2.1, (f.1 17 (by decide)).trans h.2.2.1, fun i hi => by rw [f.2.1 18 (by decide)]; exact h.2.2.2 i hi⟩
def RM (b c d : Nat) (τ : MS) : Prop := τ.1 29 = nI b ∧ τ.1 30 = nI c ∧ τ.1 31 = nI d
theorem nx_le {s c : Nat} : nx s c ≤ 6 := by unfold nx; (repeat' split) <;> omega
theorem nx_fig {s c : Nat} (hs : s = 2 ∨ s = 5) (h0 : ¬ nx s c = 0) : 49 ≤ c ∧ c ≤ 57 := by
  rcases hs with rfl | rfl
  · have en : nx 2 c = if 49 ≤ c ∧ c ≤ 57 then 3 else 0 := rfl
    rw [en] at h0
    by_cases z : 49 ≤ c ∧ c ≤ 57
    · exact z
    · rw [if_neg z] at h0; exact absurd rfl h0
  · have en : nx 5 c = if 49 ≤ c ∧ c ≤ 57 then 6 else 0 := rfl
    rw [en] at h0
    by_cases z : 49 ≤ c ∧ c ≤ 57
    · exact z
    · rw [if_neg z] at h0; exact absurd rfl h0
theorem m_rd_go {n : Nat} {p : Nat → Nat} {τ : MS} {e120 : MS → Int32 → Int32 → Prop} {P : MS → Prop} {s k b c d f : Nat} (hp : PgM n p τ) (hk : k < n) (hs : s ≤ 6) (hc : c ≤ 1) (hr : RM b c d τ) (h0 : ¬ nx s (p k) = 0) (hP : ∀ τ', FrM τ τ' → τ'.1 28 = (if s = 0 then (if p k = 108 then 1 else 0) else τ.1 28) → RM (if s = 2 then p k - 48 else b) (if (s = 1 ∨ s = 3) ∧ p k = 100 then 1 else c) (if s = 5 then p k - 48 else d) τ' → qX11_readVow_L21 e120 P f τ' (nI (nx s (p k))) (nI (k + 1)) 1) : qX11_readVow_L21 e120 P (f + 1) τ (nI s) (nI k) 1 := by
  have h16 := hp.1
  have hc126 := hp.2.1 k hk
  have hn6 := nx_le (s := s) (c := p k)
  rw [qX11_readVow_L21, hp.2.2.1, if_neg (nI_ge hk (by omega)), if_neg (by decide), bnd_eq, hr.2.1, mgN (by omega), hp.2.2.2 k hk]
  refine ⟨vp_in_nI (by omega) (by decide), ?_⟩
  refine m_nx hs hc126 (fun τ' fr e28 e29 e30 e31 => ?_)
  rw [if_neg h0, if_neg (nI_nm1 (by omega)), bnd_eq, bnd_eq, if_neg (by decide)]
  have ev : (if τ'.1 30 = 0 then (if nI c = 0 then 0 else 1) else 1 : Int32) = nI (if (s = 1 ∨ s = 3) ∧ p k = 100 then 1 else c) := by
    rw [nI_asB hc, e30, hr.2.1]
    by_cases q1 : s = 3 ∨ (s = 1 ∧ ¬ p k = 116)
    · rw [if_pos q1]
      by_cases q2 : p k = 100
      · rw [if_pos q2, if_neg (by decide), if_pos ⟨by omega, q2⟩]; rfl
      · rw [if_neg q2, if_pos rfl, if_neg (fun z => q2 z.2)]
    · rw [if_neg q1]
      have q3 : ¬ ((s = 1 ∨ s = 3) ∧ p k = 100) := by omega
      rw [if_neg q3]
      rcases (by omega : c = 0 ∨ c = 1) with rfl | rfl <;> rfl
  rw [ev, bnd_eq, bnd_eq, bnd_eq, bnd_eq, if_neg (show ¬ (1 : Int32) = 0 by decide), if_neg (show ¬ (1 : Int32) = 0 by decide), nI_1]
  refine ⟨bI_B (by split <;> omega), hP _ (fr.trans (mset_fr (by decide))) ?_ ⟨?_, rfl, ?_⟩⟩
  · exact e28
  · show τ'.1 29 = _
    rw [e29, hr.1]
    by_cases q1 : s = 2
    · rw [if_pos ⟨q1, nx_fig (Or.inl q1) h0⟩, if_pos q1]
    · rw [if_neg (fun z => q1 z.1), if_neg q1]
  · show τ'.1 31 = _
    rw [e31, hr.2.2]
    by_cases q1 : s = 5
    · rw [if_pos ⟨q1, nx_fig (Or.inr q1) h0⟩, if_pos q1]
    · rw [if_neg (fun z => q1 z.1), if_neg q1]
def dn (s : Nat) : Nat := if s = 1 ∨ s = 3 ∨ s = 4 ∨ s = 6 then 1 else 0
/-- the end of the reading -/
def MF (μ : MS) (k fl a b c d : Nat) (P : MS → Prop) : Prop := ∀ τ, FrM μ τ → τ.1 26 = nI k → τ.1 27 = nI fl → (fl = 1 → τ.1 28 = nI a ∧ τ.1 29 = nI b ∧ τ.1 30 = nI c ∧ τ.1 31 = nI d) → P τ
theorem m_J120 {n : Nat} {p : Nat → Nat} {τ : MS} {P : MS → Prop} {s k a b c d : Nat} (hp : PgM n p τ) (hk : k ≤ n) (hs : s ≤ 6) (h28 : s ≠ 0 → τ.1 28 = nI a) (hr : RM b c d τ) (hP : MF τ k (if k = n then dn s else 0) a b c d P) : qX11_readVow_J120 P τ (nI s) (nI k) := by
  have h16 := hp.1
  unfold qX11_readVow_J120
  rw [bnd_eq, bnd_eq, bnd_eq]
  have e17 : (mset τ 26 (nI k)).1 17 = nI n := hp.2.2.1
  rw [e17]
  have lk : (nI k = nI n) ↔ k = n := nI_eq (by omega) (by omega)
  have l1 : (nI s = 1) ↔ s = 1 := nI_eq (b := 1) (by omega) (by decide)
  have l3 : (nI s = 3) ↔ s = 3 := nI_eq (b := 3) (by omega) (by decide)
  have l4 : (nI s = 4) ↔ s = 4 := nI_eq (b := 4) (by omega) (by decide)
  have l6 : (nI s = 6) ↔ s = 6 := nI_eq (b := 6) (by omega) (by decide)
  have ev : (if nI k = nI n then (if nI s = 1 then 1 else (if nI s = 3 then 1 else (if nI s = 4 then 1 else (if nI s = 6 then 1 else 0)))) else 0 : Int32) = nI (if k = n then dn s else 0) := by
    simp only [lk, l1, l3, l4, l6]
    unfold dn
    rcases (by omega : s = 0 ∨ s = 1 ∨ s = 2 ∨ s = 3 ∨ s = 4 ∨ s = 5 ∨ s = 6) with rfl | rfl | rfl | rfl | rfl | rfl | rfl <;> (by_cases q : k = n <;> simp [q] <;> rfl)
  rw [ev]
  refine hP _ ((mset_fr (by decide)).trans (mset_fr (by decide))) rfl rfl (fun q => ⟨?_, hr.1, hr.2.1, hr.2.2⟩)
  refine h28 (fun z => ?_)
  subst z
  rw [show dn 0 = 0 from rfl] at q
  split at q <;> omega
theorem m_rd_stop {n : Nat} {p : Nat → Nat} {τ : MS} {P : MS → Prop} {s k a b c d f : Nat} (hp : PgM n p τ) (hk : k ≤ n) (hs : s ≤ 6) (hc : c ≤ 1) (h28 : s ≠ 0 → τ.1 28 = nI a) (hr : RM b c d τ) (h0 : k < n → nx s (p k) = 0) (hP : MF τ k (if k = n then dn s else 0) a b c d P) : qX11_readVow_L21 (fun σ_6 x1_4 x2_5 => qX11_readVow_J120 P σ_6 x1_4 x2_5) P (f + 2) τ (nI s) (nI k) 1 := by
  have h16 := hp.1
  rw [qX11_readVow_L21, hp.2.2.1]
  by_cases q : k = n
  · rw [if_pos (nI_le (by omega) (by omega))]
    exact m_J120 hp hk hs h28 hr hP
  have hc126 := hp.2.1 k (by omega)
  rw [if_neg (nI_ge (by omega) (by omega)), if_neg (by decide), bnd_eq, hr.2.1, mgN (by omega), hp.2.2.2 k (by omega)]
  refine ⟨vp_in_nI (by omega) (by decide), ?_⟩
  refine m_nx hs hc126 (fun τ' fr e28 e29 e30 e31 => ?_)
  rw [if_pos (h0 (by omega)), if_pos rfl, bnd_eq, bnd_eq, if_pos rfl, bnd_eq, bnd_eq, bnd_eq, bnd_eq, if_pos rfl, if_pos rfl, show nI k + 0 = nI (k + 0) from nI_add k 0]
  have f1 : FrM τ (mset τ' 30 (nI c)) := fr.trans (mset_fr (by decide))
  have hp' := hp.fr f1
  refine ⟨bI_B hc, ?_⟩
  rw [qX11_readVow_L21, hp'.2.2.1, if_neg (nI_ge (by omega) (by omega)), if_pos rfl]
  refine m_J120 (b := b) (c := c) (d := d) (a := a) hp' (by omega) hs (fun z => ?_) ⟨?_, rfl, ?_⟩ (fun τ2 f2 => hP τ2 (f1.trans f2))
  · show τ'.1 28 = _
    rw [e28, if_neg z]; exact h28 z
  · show τ'.1 29 = _
    rw [e29, hr.1]
    by_cases q1 : s = 2 ∧ 49 ≤ p k ∧ p k ≤ 57
    · have en : nx 2 (p k) = if 49 ≤ p k ∧ p k ≤ 57 then 3 else 0 := rfl
      have z := h0 (by omega)
      rw [q1.1, en, if_pos q1.2] at z
      omega
    · rw [if_neg q1]
  · show τ'.1 31 = _
    rw [e31, hr.2.2]
    by_cases q1 : s = 5 ∧ 49 ≤ p k ∧ p k ≤ 57
    · have en : nx 5 (p k) = if 49 ≤ p k ∧ p k ≤ 57 then 6 else 0 := rfl
      have z := h0 (by omega)
      rw [q1.1, en, if_pos q1.2] at z
      omega
    · rw [if_neg q1]
/- the component -/
def FrP (σ τ : XS) : Prop := xK τ = xK σ ∧ xP τ 1 = xP σ 1 ∧ xS τ = xS σ ∧ xTB τ = xTB σ ∧ xTI τ = xTI σ
theorem FrP.refl (σ : XS) : FrP σ σ := ⟨rfl, rfl, rfl, rfl, rfl⟩
theorem FrP.set {σ τ : XS} (h : FrP σ τ) {k : Nat} {v : Int32} (hk : k ≠ 1) : FrP σ (xsP τ k v) := ⟨h.1, (pk_un (fun e => hk e.symm)).trans h.2.1, h.2.2.1, h.2.2.2.1, h.2.2.2.2⟩
def PgX (n : Nat) (p : Nat → Nat) (τ : XS) : Prop := n ≤ 16 ∧ (∀ i, i < n → p i ≤ 126) ∧ xP τ 1 = nI n ∧ ∀ i, i < n → xS τ i = nI (p i)
theorem PgX.fr {n : Nat} {p : Nat → Nat} {τ τ' : XS} (h : PgX n p τ) (f : FrP τ τ') : PgX n p τ' := ⟨h.1, h.2.1, f.2.1.trans h.2.2.1, fun i hi => by rw [f.2.2.1]; exact h.2.2.2 i hi⟩
theorem xgSN {τ : XS} {i : Nat} (h : i < 2 ^ 31) : xgS τ (nI i) = xS τ i := by show xS τ (nI i).toNatClampNeg = _; rw [nI_clamp h]
theorem x_comes {g : XG} {n : Nat} {p : Nat → Nat} {τ : XS} {k ch : Nat} {P : Int32 → XS → Prop} (hp : PgX n p τ) (h2 : xP τ 2 = nI k) (hk : k ≤ n) (hc : ch ≤ 126) (h1 : k < n → p k = ch → P 1 (xsP τ 2 (nI (k + 1)))) (h0 : ¬ (k < n ∧ p k = ch) → P 0 τ) : qX5_comes g τ (nI ch) P := by
  have h16 := hp.1
  unfold qX5_comes
  rw [hp.2.2.1, h2]
  by_cases q : k = n
  · rw [if_pos (nI_le (by omega) (by omega))]; exact h0 (by omega)
  have h126 := hp.2.1 k (by omega)
  rw [if_neg (nI_ge (by omega) (by omega)), xgSN (by omega), hp.2.2.2 k (by omega), bnd_eq, nI_1]
  refine ⟨vp_in_nI (by omega) (by decide), ?_⟩
  by_cases e : p k = ch
  · rw [if_pos (by rw [e])]; exact h1 (by omega) e
  · rw [if_neg (fun z => e ((nI_eq (by omega) (by omega)).mp z))]; exact h0 (fun z => e z.2)
theorem x_digit {g : XG} {n : Nat} {p : Nat → Nat} {τ : XS} {k : Nat} {P : Int32 → XS → Prop} (hp : PgX n p τ) (h2 : xP τ 2 = nI k) (hk : k ≤ n) (h1 : k < n → 49 ≤ p k ∧ p k ≤ 57 → P (nI (p k - 48)) (xsP τ 2 (nI (k + 1)))) (h0 : ¬ (k < n ∧ 49 ≤ p k ∧ p k ≤ 57) → P 0 τ) : qX5_digit g τ P := by
  have h16 := hp.1
  unfold qX5_digit
  rw [hp.2.2.1, h2]
  by_cases q : k = n
  · rw [if_pos (nI_le (by omega) (by omega))]; exact h0 (by omega)
  have h126 := hp.2.1 k (by omega)
  rw [if_neg (nI_ge (by omega) (by omega)), xgSN (by omega), hp.2.2.2 k (by omega), bnd_eq, nI_1]
  refine ⟨vp_in_nI (by omega) (by decide), ?_⟩
  have l49 : (nI (p k) < 49) ↔ p k < 49 := nI_ltI (b := 49) (by omega) (by decide)
  have l57 : (nI (p k) ≤ 57) ↔ p k ≤ 57 := nI_leI (b := 57) (by omega) (by decide)
  by_cases a : p k < 49
  · rw [if_pos (l49.mpr a)]; exact h0 (by omega)
  rw [if_neg (fun z => a (l49.mp z))]
  by_cases b : p k ≤ 57
  · rw [if_pos (l57.mpr b)]
    have e2 : xP (xsP τ 2 (nI (k + 1))) 2 - 1 = nI k := by
      show upd (xP τ) 2 (nI (k + 1)) 2 - 1 = _
      rw [pk_us]; exact pk_sub (a := k + 1) (b := 1) (by omega)
    rw [e2, xgSN (by omega)]
    show vp_in (nI k) 16 ∧ P (xS τ k - 48) _
    rw [hp.2.2.2 k (by omega), show nI (p k) - 48 = nI (p k - 48) from pk_sub (b := 48) (by omega)]
    exact ⟨vp_in_nI (by omega) (by decide), h1 (by omega) ⟨by omega, b⟩⟩
  · rw [if_neg (fun z => b (l57.mp z))]; exact h0 (by omega)
def XF (σ : XS) (k fl a b c d : Nat) (P : XS → Prop) : Prop := ∀ τ, FrP σ τ → xP τ 2 = nI k → xP τ 3 = nI fl → (fl = 1 → xP τ 4 = nI a ∧ xP τ 5 = nI b ∧ xP τ 6 = nI c ∧ xP τ 7 = nI d) → P τ
def XR (σ : XS) (k a b c : Nat) (τ : XS) : Prop := FrP σ τ ∧ xP τ 2 = nI k ∧ xP τ 3 = 0 ∧ xP τ 4 = nI a ∧ xP τ 5 = nI b ∧ xP τ 6 = nI c
theorem x_J102 {g : XG} {n : Nat} {p : Nat → Nat} {σ τ : XS} {k a b c d x : Nat} {P : XS → Prop} (hp : PgX n p τ) (hk : k ≤ n) (hx : x ≤ 1) (hd : d ≤ 9) (hd0 : x = 0 → d = 0) (hr : XR σ k a b c τ) (hP : XF σ k (if k = n ∧ (x = 0 ∨ d ≠ 0) then 1 else 0) a b c d P) : qX5_read_J102 g P τ (nI x) (nI d) := by
  have h16 := hp.1
  unfold qX5_read_J102
  rw [bnd_eq, bnd_eq, bnd_eq]
  have e2 : xP (xsP τ 7 (nI d)) 2 = nI k := hr.2.1
  have e1 : xP (xsP τ 7 (nI d)) 1 = nI n := hp.2.2.1
  have e7 : xP (xsP τ 7 (nI d)) 7 = nI d := rfl
  rw [e2, e1, e7]
  have lk : (nI k = nI n) ↔ k = n := nI_eq (by omega) (by omega)
  have lx : (nI x = 0) ↔ x = 0 := nI_eq (b := 0) (by omega) (by decide)
  have ld : (nI d = 0) ↔ d = 0 := nI_eq (b := 0) (by omega) (by decide)
  have ev : (if nI k = nI n then (if nI x = 0 then 1 else (if nI d = 0 then 0 else 1)) else 0 : Int32) = nI (if k = n ∧ (x = 0 ∨ d ≠ 0) then 1 else 0) := by
    simp only [lk, lx, ld]
    by_cases q1 : k = n
    · by_cases q2 : x = 0
      · simp [q1, q2]; rfl
      · by_cases q3 : d = 0
        · simp [q1, q2, q3]; rfl
        · simp [q1, q2, q3]; rfl
    · simp [q1]; rfl
  rw [ev]
  exact hP _ ((hr.1.set (by decide)).set (by decide)) hr.2.1 rfl (fun _ => ⟨hr.2.2.2.1, hr.2.2.2.2.1, hr.2.2.2.2.2, rfl⟩)
