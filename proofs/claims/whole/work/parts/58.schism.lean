/-! schism(): two spoons -/
def dcS (A : AS) : DC := (fun k => if k = 32 then 0 else if k = 33 then 0 else if k = 35 then 0 else if k = 37 then 99 else A.1 k, A.2, fun h => decide (A.2 6 h = 0))
theorem dcS_WF {A : AS} (hA : Tok A) (h1 : 1 ≤ A.1 0) : WFc (dcS A) := ⟨h1, hA.1, hA.2.2.1, Nat.zero_le _, Nat.zero_le _, Nat.zero_le _, hA.2.2.2.1⟩
theorem dcS_skip {A : AS} {d : DS} {h : Nat} : zskip (dcS A) d h = decide (A.2 6 h = 0) := by
  show (decide (A.2 6 h = 0) || (decide (0 < 0) && decide (0 ≤ d.2 46 h))) = _
  simp
def zstp (c : DC) (d : DS) (q b : Nat) : DS := if q = b then zpass d 1 else zserve c d q
def zsch (c : DC) : Nat → DS → Nat → Nat → Nat → DS
  | 0, d, _, _, _ => d
  | f + 1, d, a, b, x => if zleft d = 0 ∨ 300 ≤ d.1 42 then d else match zseek c d x (c.1 0) a with
    | none => d
    | some q => zsch c f (zstp c d q b) b (zonw c x q) (1 - x)
theorem zstp_ZJ {c : DC} (hc : WFc c) {d : DS} (hd : ZJ d) (hb : d.1 42 < 300) {q b : Nat} (hq : q < c.1 0) : ZJ (zstp c d q b) ∧ d.1 42 < (zstp c d q b).1 42 := by
  unfold zstp
  split
  · have e := zpass_ZJ hd.1 rfl rfl hb (fun h => by have := hd.2.2 h; omega) (b := 1) (by omega) (by omega)
    exact ⟨e.1, by omega⟩
  · exact zserve_ZJ hc hd hb hq
theorem zstp_41 {c : DC} (hc : WFc c) {d : DS} (hd : ZJ d) {q b : Nat} (hq : q < c.1 0) : (zstp c d q b).1 41 = d.1 41 + 1 := by
  unfold zstp
  split
  · rfl
  · show (zact c d q).1 41 + 1 = _
    rw [(zact_ZI hc hd hq).2.1]
theorem zsch_ZJ {c : DC} (hc : WFc c) : ∀ (f : Nat) (d : DS) (a b x : Nat), ZJ d → a < c.1 0 → b < c.1 0 → ZJ (zsch c f d a b x)
  | 0, _, _, _, _, hd, _, _ => hd
  | f + 1, d, a, b, x, hd, ha, hb => by
    unfold zsch
    split
    · exact hd
    · split
      · exact hd
      · rename_i q hq
        have hq' := zseek_lt hc _ _ q ha hq
        exact zsch_ZJ hc f _ _ _ _ (zstp_ZJ hc hd (by omega) hq').1 hb (zonw_lt hc _ _)
theorem zseek_some {c : DC} (hc : WFc c) {d : DS} {x a : Nat} (hx : x ≤ 1) (ha : a < c.1 0) (hn : zallN c d (c.1 0) = false) : ∃ q, zseek c d x (c.1 0) a = some q := by
  cases e : zseek c d x (c.1 0) a with
  | some q => exact ⟨q, rfl⟩
  | none => rw [zseek_all hc hx ha e] at hn; exact absurd hn (by decide)
theorem zallN_const {A : AS} {d d' : DS} : ∀ n, zallN (dcS A) d n = zallN (dcS A) d' n
  | 0 => rfl
  | n + 1 => by
    show (zallN (dcS A) d n && zskip (dcS A) d n) = (zallN (dcS A) d' n && zskip (dcS A) d' n)
    rw [zallN_const n, dcS_skip, dcS_skip]
section
variable {c : DC} {d : DS} {μ : MS}
theorem m_pass2 {P : Int32 → MS → Prop} (hM : MC c μ) (hd : ZI d) {x q : Nat} (hx : x ≤ 1) (hP : P (nI q) (ov d μ)) : ∀ (m a : Nat), a < c.1 0 → zseek c d x m a = some q → qX11_passSkipped_L2 P m (ov d μ) (nI x) (nI a)
  | 0, _, _, h => by simp [zseek] at h
  | m + 1, a, ha, h => by
    have hc := hM.1
    have h10 := hc.2.1
    have e8 : mgeta (ov d μ) 8 (nI a) = nI (c.2.1 8 a) := by rw [mgN (by omega)]; exact (hM.2.2.2.2.2.2.2.2 a ha).2.2.2.2.2.2
    have hh := (hc.2.2.2.2.2.2 a ha).2.2.2.2.2.2.2.2.1
    rw [qX11_passSkipped_L2, e8]
    refine ⟨vp_in_nI (by omega) (by decide), ?_⟩
    refine m_skip hM hd hh ?_
    unfold zseek at h
    cases hs : zskip c d (c.2.1 8 a)
    · rw [hs] at h
      simp at h
      subst h
      rw [if_pos (show bI false = 0 from rfl)]; exact hP
    · rw [hs] at h
      rw [if_neg (show ¬ bI true = 0 by decide)]
      refine m_onw hM hx ha ?_
      exact m_pass2 hM hd hx hP m _ (zonw_lt hc _ _) h
theorem m_sch_L {P : MS → Prop} (hM : MC c μ) (h33 : c.1 33 = 0) (hall : ∀ d, zallN c d (c.1 0) = false) : ∀ (f : Nat) (d : DS) (a b x : Nat), ZJ d → a < c.1 0 → b < c.1 0 → x ≤ 1 → d.1 41 % 2 = 1 - x → 300 - d.1 42 < f → P (ov (zsch c f d a b x) μ) → ∃ fm, qX11_goSchism_L49 P fm (ov d μ) (nI (if x = 1 then a else b)) (nI (if x = 1 then b else a))
  | 0, _, _, _, _, _, _, _, _, _, h, _ => by omega
  | f + 1, d, a, b, x, hd, ha, hb, hx, hpar, hf, hP => by
    have hc := hM.1
    have h10 := hc.2.1
    have h41 : d.1 41 ≤ d.1 42 := hd.1.2.2.2.2.1
    have h42 := hd.2.1
    unfold zsch at hP
    by_cases o : zleft d = 0 ∨ 300 ≤ d.1 42
    · rw [if_pos o] at hP
      refine ⟨1, ?_⟩
      rw [qX11_goSchism_L49]
      refine m_over hM hd.1 ?_
      have e : zover c d = true := by unfold zover; rcases o with o | o <;> simp [o]
      rw [e, if_neg (show ¬ bI true = 0 by decide)]; exact hP
    rw [if_neg o] at hP
    obtain ⟨q, hq⟩ := zseek_some hc hx ha (hall d)
    simp only [hq] at hP
    have hq' := zseek_lt hc _ _ q ha hq
    have st := zstp_ZJ hc hd (by omega) (q := q) (b := b) hq'
    have e41 := zstp_41 hc hd (q := q) (b := b) hq'
    obtain ⟨fm, ih⟩ := m_sch_L hM h33 hall f (zstp c d q b) b (zonw c x q) (1 - x) st.1 hb (zonw_lt hc _ _) (by omega) (by omega) (by omega) hP
    refine ⟨fm + 1, ?_⟩
    rw [qX11_goSchism_L49]
    refine m_over hM hd.1 ?_
    rw [zover_no (by omega) (by omega) (hall d), if_pos (show bI false = 0 from rfl), ov_41, show jrem (nI (d.1 41)) 2 = nI (d.1 41 % 2) from jremN (b := 2) (by omega) (by decide) (by decide), hpar]
    have ev : (if nI (1 - x) = 0 then 1 else 0 : Int32) = nI x := by
      rcases (by omega : x = 0 ∨ x = 1) with rfl | rfl <;> rfl
    rw [ev, bnd_eq, bnd_eq]
    have lx : (nI x = 0) ↔ x = 0 := nI_eq (b := 0) (by omega) (by decide)
    have e4 : (if nI x = 0 then nI (if x = 1 then b else a) else nI (if x = 1 then a else b)) = nI a := by
      rcases (by omega : x = 0 ∨ x = 1) with rfl | rfl <;> rfl
    have e7 : (if nI x = 0 then nI (if x = 1 then a else b) else nI (if x = 1 then b else a)) = nI b := by
      rcases (by omega : x = 0 ∨ x = 1) with rfl | rfl <;> rfl
    rw [e4]
    refine ⟨_, m_pass2 hM hd.1 hx ?_ (c.1 0) a ha hq⟩
    rw [bnd_eq, e7]
    have lq : (nI q = nI b) ↔ q = b := nI_eq (by omega) (by omega)
    have J : ∀ d', d' = zstp c d q b → qX11_goSchism_J138 (fun z0 z1 z2 => qX11_goSchism_L49 P fm z0 z1 z2) P (ov d' μ) (nI (if x = 1 then a else b)) (nI (if x = 1 then b else a)) (nI x) (nI q) := by
      intro d' ed
      unfold qX11_goSchism_J138
      refine m_onw hM hx hq' ?_
      rw [bnd_eq, bnd_eq, ed]
      rcases (by omega : x = 0 ∨ x = 1) with rfl | rfl
      · exact ih
      · exact ih
    by_cases eq : q = b
    · rw [if_pos (lq.mpr eq)]
      refine m_take (b := 1) (by omega) hd.1.2.2.2.2.2.2.1 ?_
      exact J _ (by unfold zstp; rw [if_pos eq])
    · rw [if_neg (fun z => eq (lq.mp z))]
      have e8 : mgeta (ov d μ) 8 (nI q) = nI (c.2.1 8 q) := by rw [mgN (by omega)]; exact (hM.2.2.2.2.2.2.2.2 q hq').2.2.2.2.2.2
      have hh := (hc.2.2.2.2.2.2 q hq').2.2.2.2.2.2.2.2.1
      refine ⟨vp_in_nI (by omega) (by decide), ?_⟩
      rw [e8, bnd_eq]
      have ea : zact c d q = zeat c d (c.2.1 8 q) := by unfold zact; rw [if_neg (by omega)]
      have hz := zact_ZI hc hd hq'
      refine m_eat hM hd.1 hd.2.2 hh ?_
      rw [← ea]
      refine m_beats hM hh ?_
      refine m_take (zbeats_le hc hh).2 (by rw [hz.2.2.2.1]; exact hd.1.2.2.2.2.2.2.1) ?_
      exact J _ (by unfold zstp zserve; rw [if_neg eq])
end
/- the component -/
section
variable {c : DC} {d : DS} {t l w : Nat} {g : XG} {σ : XS}
theorem x_alive {P : Int32 → XS → Prop} (hB : XB c g σ) (hsk : ∀ h, h < c.1 0 → (xTB σ (xC σ) 0 h = -1 ↔ zskip c d h = true)) {x q : Nat} (hx : x ≤ 1) (hP : P (nI q) (xov d t l w σ)) : ∀ (m i a : Nat), i + m = c.1 0 → a < c.1 0 → zseek c d x m a = some q → qX6_seatAlive_L5 g P (m + 1) (xov d t l w σ) (nI x) (nI a) (nI i)
  | 0, i, a, e, ha, h => by simp [zseek] at h
  | m + 1, i, a, e, ha, h => by
    have hc := hB.1
    have h10 := hc.2.1
    have hg := hB.2.1
    have hh := (hc.2.2.2.2.2.2 a ha).2.2.2.2.2.2.2.2.1
    have e8 : xgT (xov d t l w σ) (xC (xov d t l w σ)) 1 (nI a) = nI (c.2.1 8 a) := by
      rw [xgTN (by omega)]; exact (hB.2.2.2.2 ⟨a, by omega⟩).2.2.2.2.2
    rw [qX6_seatAlive_L5, hg, if_neg (nI_ge (by omega) (by omega)), e8]
    refine ⟨vp_in_nI (by omega) (by decide), vp_in_nI (by omega) (by decide), ?_⟩
    rw [show xgT (xov d t l w σ) (xC (xov d t l w σ)) 0 (nI (c.2.1 8 a)) = xTB σ (xC σ) 0 (c.2.1 8 a) from xgTN (τ := xov d t l w σ) (by omega)]
    have ls := hsk _ hh
    unfold zseek at h
    cases hs : zskip c d (c.2.1 8 a)
    · rw [hs] at h ls
      simp at h
      subst h
      rw [if_neg (fun z => absurd (ls.mp z) (by decide))]
      dsimp only
      rw [if_pos (by decide)]; exact hP
    · rw [hs] at h ls
      rw [if_pos (ls.mpr rfl)]
      dsimp only
      rw [if_neg (by decide)]
      refine x_onw hc hg hx ha ?_
      rw [bnd_eq, nI_1]
      exact x_alive hB hsk hx hP m (i + 1) _ (by omega) (zonw_lt hc _ _) h
theorem x_sch_L {P : XS → Prop} (hB : XB c g σ) (hW : ∀ b, b ≤ 600 → (nI b = xSI σ 12 ↔ b = w)) (h33 : c.1 33 = 0) (hsk : ∀ d h, h < c.1 0 → (xTB σ (xC σ) 0 h = -1 ↔ zskip c d h = true)) (hall : ∀ d, zallN c d (c.1 0) = false) : ∀ (f : Nat) (d : DS) (a b x : Nat), ZJ d → a < c.1 0 → b < c.1 0 → x ≤ 1 → 300 - d.1 42 < f → (∀ d', d' = zsch c f d a b x → P (xov d' (d'.1 41) (zleft d') w σ)) → ∃ fm, qX6_goBothWays_L41 g P fm (xov d (d.1 41) (zleft d) w σ) (nI a) (nI b) (nI x)
  | 0, _, _, _, _, _, _, _, _, h, _ => by omega
  | f + 1, d, a, b, x, hd, ha, hb, hx, hf, hP => by
    have hc := hB.1
    have h10 := hc.2.1
    have h41 : d.1 41 ≤ d.1 42 := hd.1.2.2.2.2.1
    have h42 := hd.2.1
    have hl := hd.1.1
    unfold zsch at hP
    by_cases o : zleft d = 0 ∨ 300 ≤ d.1 42
    · simp only [if_pos o] at hP
      refine ⟨1, ?_⟩
      rw [qX6_goBothWays_L41, xo_4]
      have l300 : (300 ≤ nI (d.1 41)) ↔ 300 ≤ d.1 41 := nI_leI (a := 300) (by decide) (by omega)
      by_cases y : 300 ≤ d.1 41
      · rw [if_pos (l300.mpr y)]; exact hP d rfl
      rw [if_neg (fun z => y (l300.mp z))]
      refine x_over (by omega) (by omega) ?_
      have e : (decide (zleft d = 0) || decide (300 ≤ d.1 42)) = true := by rcases o with o | o <;> simp [o]
      rw [e, if_neg (show ¬ bI true = 0 by decide)]; exact hP d rfl
    simp only [if_neg o] at hP
    obtain ⟨q, hq⟩ := zseek_some hc hx ha (hall d)
    simp only [hq] at hP
    have hq' := zseek_lt hc _ _ q ha hq
    have hh := (hc.2.2.2.2.2.2 q hq').2.2.2.2.2.2.2.2.1
    have st := zstp_ZJ hc hd (by omega) (q := q) (b := b) hq'
    have e41 := zstp_41 hc hd (q := q) (b := b) hq'
    obtain ⟨fm, ih⟩ := x_sch_L hB hW h33 hsk hall f (zstp c d q b) b (zonw c x q) (1 - x) st.1 hb (zonw_lt hc _ _) (by omega) (by omega) hP
    rw [e41] at ih
    refine ⟨fm + 1, ?_⟩
    have l300 : (300 ≤ nI (d.1 41)) ↔ 300 ≤ d.1 41 := nI_leI (a := 300) (by decide) (by omega)
    rw [qX6_goBothWays_L41, xo_4, if_neg (fun z => by have := l300.mp z; omega)]
    refine x_over (by omega) (by omega) ?_
    have e : (decide (zleft d = 0) || decide (300 ≤ d.1 42)) = false := by simp; omega
    rw [e, if_pos (show bI false = 0 from rfl)]
    refine ⟨_, x_alive hB (hsk d) hx ?_ (c.1 0) 0 a (by omega) ha hq⟩
    rw [bnd_eq, xo_4, nI_1, xov_t]
    have lq : (nI q = nI b) ↔ q = b := nI_eq (by omega) (by omega)
    have lx : (if nI x = 0 then 1 else 0 : Int32) = nI (1 - x) := by
      rcases (by omega : x = 0 ∨ x = 1) with rfl | rfl <;> rfl
    have J : ∀ d' l', d' = zstp c d q b → l' = zleft d' → qX6_goBothWays_J110 g (fun z0 z1 z2 z3 => qX6_goBothWays_L41 g P fm z0 z1 z2 z3) P (xov d' (d.1 41 + 1) l' w σ) (nI q) (nI b) (nI x) := by
      intro d' l' ed el
      unfold qX6_goBothWays_J110
      refine x_onw hc hB.2.1 hx hq' ?_
      rw [bnd_eq, lx, el, ed]; exact ih
    by_cases eq : q = b
    · rw [if_pos (lq.mpr eq)]
      refine x_time (b := 1) (by omega) hd.1.2.2.2.2.2.2.1 ?_
      exact J _ _ (by unfold zstp; rw [if_pos eq]) rfl
    · rw [if_neg (fun z => eq (lq.mp z))]
      have ea : zact c d q = zeat c d (c.2.1 8 q) := by unfold zact; rw [if_neg (by omega)]
      have hz := zact_ZI hc hd hq'
      refine x_eat hB hW hd.1 hd.2.2 hq' ?_
      rw [← ea]
      refine x_hin hB hq' (fun j hj => ?_)
      refine x_beats hB hj ?_
      refine x_time (zbeats_le hc hh).2 (by rw [hz.2.2.2.1]; exact hd.1.2.2.2.2.2.2.1) ?_
      exact J _ _ (by unfold zstp zserve; rw [if_neg eq]) (zpass_left _ _).symm
end
/-- the day of two spoons -/
def zsd (A : AS) (seat : Nat) : DS := if zallN (dcS A) (d0 A) (A.1 0) = true then d0 A else zsch (dcS A) 301 (d0 A) seat ((seat + A.1 0 / 2) % A.1 0) 1
section
variable {A : AS} {em : Nat} {g : XG} {seat : Nat}
theorem zsd_ZJ (hA : Tok A) (hs : seat < A.1 0) : ZJ (zsd A seat) := by
  unfold zsd
  split
  · exact d0_ZJ hA
  · exact zsch_ZJ (dcS_WF hA (by omega)) _ _ _ _ _ (d0_ZJ hA) hs (Nat.mod_lt _ (by omega))
theorem zallN_zsv (A : AS) (d : DS) : ∀ n, zallN (dcS A) d n = true ↔ zsv (A.2 6) n = n
  | 0 => ⟨fun _ => rfl, fun _ => rfl⟩
  | n + 1 => by
    have ih := zallN_zsv A d n
    have le := zsv_le (A.2 6) n
    rw [zsv_s, show zallN (dcS A) d (n + 1) = (zallN (dcS A) d n && zskip (dcS A) d n) from rfl, dcS_skip, Bool.and_eq_true, decide_eq_true_eq, ih]
    constructor
    · rintro ⟨a, b⟩; rw [if_pos b, a]
    · intro e
      split at e
      · rename_i b; exact ⟨by omega, b⟩
      · omega
theorem x_both {σ : XS} {P : XS → Prop} (hA : WFA A) (hX : KX em A g σ) (hs : seat < A.1 0) (hP : ∀ D, D = zsd A seat → P (xov D (D.1 41) (zleft D) 601 (xbeg σ 0))) : qX6_goBothWays g (xov (d0 A) 0 (zleft (d0 A)) 601 (xbeg σ 0)) (nI seat) P := by
  have h10 := hA.1.1
  have eH : nI (nH g) = nI (A.1 0) := congrArg nI hX.1.1
  have hT : TabA A (A.2 6) (A.2 8) (xov (d0 A) 0 (zleft (d0 A)) 601 (xbeg σ 0)) 0 := hX.2.1
  unfold qX6_goBothWays
  rw [bnd_eq, eH, if_neg (nI_ne0 (by omega) (by omega))]
  refine ⟨_, x_starved_L hA.1 hX.1 hT.1 hA.1.2.2.2.2.1 ?_ (A.1 0) 0 (by omega)⟩
  have le := zsv_le (A.2 6) (A.1 0)
  have ln : (nI (zsv (A.2 6) (A.1 0)) = nI (A.1 0)) ↔ zsv (A.2 6) (A.1 0) = A.1 0 := nI_eq (by omega) (by omega)
  unfold zsd at hP
  by_cases al : zallN (dcS A) (d0 A) (A.1 0) = true
  · simp only [if_pos al] at hP
    rw [if_pos (ln.mpr ((zallN_zsv A _ _).mp al))]
    exact hP _ rfl
  · simp only [if_neg al] at hP
    rw [if_neg (fun z => al ((zallN_zsv A _ _).mpr (ln.mp z)))]
    refine ⟨nI_ne0 (by omega) (by omega), ?_⟩
    rw [show nI (A.1 0) / 2 = nI (A.1 0 / 2) from pk_div (d := 2) (by omega) (by decide) (by decide), nI_add, jremN (by omega) (by omega) (by omega), bnd_eq]
    have hU := ux_beg (A := A) hX.2.1
    have hB : XB (dcS A) g (xbeg σ 0) := by
      refine ⟨dcS_WF hA.1 (by omega), hX.1.1, hX.2.1.2.2.2.2, hU.2.1, fun j => ?_⟩
      have hj := j.isLt
      have a := hX.1.2.2.1 j
      refine ⟨a.1, a.2.1, a.2.2.1, a.2.2.2.1, a.2.2.2.2, ?_⟩
      exact x_sitters hX h10 j.val (by have := hX.1.1; omega)
    have na : ∀ d, zallN (dcS A) d ((dcS A).1 0) = false := fun d => by
      show zallN (dcS A) d (A.1 0) = false
      rw [zallN_const (d' := d0 A) (A.1 0)]
      cases e : zallN (dcS A) (d0 A) (A.1 0)
      · rfl
      · exact absurd e al
    have hsk : ∀ d h, h < (dcS A).1 0 → (xTB (xbeg σ 0) (xC (xbeg σ 0)) 0 h = -1 ↔ zskip (dcS A) d h = true) := fun d h hh => by
      have hh : h < A.1 0 := hh
      rw [dcS_skip, decide_eq_true_eq]
      show xTB σ 0 0 h = -1 ↔ _
      rw [hX.2.1.1 h hh]; exact sI_m1 (hA.1.2.2.2.2.1 h hh)
    exact x_sch_L (c := dcS A) hB hU.2.2 rfl hsk na 301 (d0 A) seat _ 1 (d0_ZJ hA.1) hs (Nat.mod_lt _ (by show 0 < A.1 0; omega)) (by omega) (by show 300 - 0 < 301; decide) hP
theorem m_both {μ : MS} {P : MS → Prop} (hA : WFA A) (hM : KM A μ) (hs : seat < A.1 0) (hP : ∀ τ, KM A τ → P (ov (zsd A seat) τ)) : qX11_goSchism μ (nI seat) P := by
  have h10 := hA.1.1
  unfold qX11_goSchism
  simp only [bnd_eq]
  generalize hB : mset (mset (mset (mset (mset μ 33 0) 34 0) 35 0) 36 0) 37 (-1) = B
  have fB : FrM μ B := by
    rw [← hB]
    exact (mset_fr (by decide)).trans ((mset_fr (by decide)).trans ((mset_fr (by decide)).trans ((mset_fr (by decide)).trans (mset_fr (by decide)))))
  have b33 : B.1 33 = 0 := by rw [← hB]; rfl
  have b34 : B.1 34 = 0 := by rw [← hB]; rfl
  have b35 : B.1 35 = 0 := by rw [← hB]; rfl
  have b36 : B.1 36 = 0 := by rw [← hB]; rfl
  have b37 : B.1 37 = -1 := by rw [← hB]; rfl
  refine m_useStores ?_
  have fr : FrM μ (usK B 10) := fB.trans usK_fr
  have hK := hM.fr fr
  have h38 : ∀ h, h < A.1 0 → (usK B 10).2.1 38 h = sI (A.2 6 h) := fun h hh => by
    show (if h < 10 then B.2.1 6 h else _) = _
    rw [if_pos (by omega), fB.2.1 6 (by decide)]; exact hM.1.2.2.2.2.1 h hh
  refine m_begin hK.1 ?_
  have e0 : (ov (d0 A) (usK B 10)).1 0 = nI (A.1 0) := hK.1.1
  rw [e0, show nI (A.1 0) / 2 = nI (A.1 0 / 2) from pk_div (d := 2) (by omega) (by decide) (by decide), nI_add, jremN (by omega) (by omega) (by omega)]
  refine ⟨nI_ne0 (by omega) (by omega), ?_⟩
  have hC : MC (dcS A) (usK B 10) := by
    refine ⟨dcS_WF hA.1 (by omega), hK.1.1, hK.1.2.2.1, trivial, b33, b35, fun h hh => ?_, fun h hh => ?_, hK.1.2.2.2.1⟩
    · show nI h = B.1 37 ↔ h = 99
      rw [b37]; exact tw_no h hh
    · have hh : h < A.1 0 := hh
      have e36 : (usK B 10).1 36 = 0 := b36
      have e34 : (usK B 10).1 34 = 0 := b34
      rw [h38 h hh, e36, e34, sI_neg (hA.1.2.2.2.2.1 h hh)]
      show decide (A.2 6 h = 0) = true ↔ _
      rw [decide_eq_true_eq]
      have b0 : ¬ (jshr 0 (nI h) &&& 1) = 1 := by
        rw [show (0 : Int32) = nI 0 from rfl, bit1 (by decide) (by omega), Nat.zero_testBit]; decide
      constructor
      · intro z; exact Or.inl z
      · rintro (z | z | z)
        · exact z
        · exact absurd z b0
        · exact absurd rfl z.1
  have h2 := hP _ hK
  unfold zsd at h2
  by_cases al : zallN (dcS A) (d0 A) (A.1 0) = true
  · rw [if_pos al] at h2
    refine ⟨1, ?_⟩
    rw [qX11_goSchism_L49]
    refine m_over hC (d0_ZJ hA.1).1 ?_
    have e : zover (dcS A) (d0 A) = true := by
      unfold zover
      rw [show zallN (dcS A) (d0 A) ((dcS A).1 0) = true from al]; simp
    rw [e, if_neg (show ¬ bI true = 0 by decide)]; exact h2
  · rw [if_neg al] at h2
    have na : ∀ d, zallN (dcS A) d ((dcS A).1 0) = false := fun d => by
      show zallN (dcS A) d (A.1 0) = false
      rw [zallN_const (d' := d0 A) (A.1 0)]
      cases e : zallN (dcS A) (d0 A) (A.1 0)
      · rfl
      · exact absurd e al
    exact m_sch_L (c := dcS A) hC rfl na 301 (d0 A) seat _ 1 (d0_ZJ hA.1) hs (Nat.mod_lt _ (by show 0 < A.1 0; omega)) (by omega) rfl (by show 300 - 0 < 301; decide) h2
theorem ok_schism {σ : XS} {μ : MS} {a0 a1 : Int32} (hK : KK em g σ μ) : qX10_schism g σ a0 a1 (fun r σ1 => qX11_schism μ a0 a1 (fun r2 μ1 => r = r2 ∧ KK em g σ1 μ1)) := by
  obtain ⟨A, hA, hX, hM⟩ := hK
  have fin := KK.mk hA hX hM
  have h10 := hA.1.1
  unfold qX10_schism
  refine x_seatK hA.1 hX.1 (fun s => ?_) (fun s => m_seatK hA.1 hM.1 (fun z => absurd z s) (fun _ => ⟨rfl, fin⟩))
  refine x_withinK (lo := 0) (hi := 11) (by decide) (by decide) (fun b => ?_) (fun b => m_seatK hA.1 hM.1 (fun _ => m_withinK (lo := 0) (hi := 11) (by decide) (by decide) (fun z => absurd z b) (fun _ => ⟨rfl, fin⟩)) (fun z => absurd s z))
  obtain ⟨seat, hs, rfl⟩ := s
  obtain ⟨j, _, hj, rfl⟩ := b
  have l10 : (10 ≤ nI j) ↔ 10 ≤ j := nI_leI (a := 10) (by decide) (by omega)
  have e10 : (nI j = 10) ↔ j = 10 := nI_eq (b := 10) (by omega) (by decide)
  have e11 : (nI j = 11) ↔ j = 11 := nI_eq (b := 11) (by omega) (by decide)
  have ln : (nI (A.1 0) ≤ nI j) ↔ A.1 0 ≤ j := nI_leI (by omega) (by omega)
  -- the model
  have mod : ∀ (Q : Int32 → Prop) (σ' : XS), KX em A g σ' → (j = 11 → Q (nI (zleft (zsd A seat)))) → (j = 10 → Q (nI ((zsd A seat).1 41))) → (j < 10 → A.1 0 ≤ j → Q (-1)) → (j < A.1 0 → Q (nI ((zsd A seat).2 45 j))) → qX11_schism μ (nI seat) (nI j) (fun r2 μ1 => Q r2 ∧ KK em g σ' μ1) := by
    intro Q σ' hX' q11 q10 qn qm
    refine m_seatK hA.1 hM.1 (fun _ => ?_) (fun z => absurd ⟨_, hs, rfl⟩ z)
    refine m_withinK (lo := 0) (hi := 11) (by decide) (by decide) (fun _ => ?_) (fun z => absurd ⟨j, Nat.zero_le _, hj, rfl⟩ z)
    refine m_both hA hM hs (fun τ hτ => ?_)
    have hKM : KM A (ov (zsd A seat) τ) := hτ.fr (FrM.ov _ _)
    have fin' := KK.mk hA hX' hKM
    by_cases c : j = 11
    · rw [if_pos (e11.mpr c)]
      exact m_left ⟨q11 c, fin'⟩
    rw [if_neg (fun z => c (e11.mp z))]
    by_cases c2 : j = 10
    · rw [if_pos (e10.mpr c2), ov_41]
      exact ⟨q10 c2, fin'⟩
    rw [if_neg (fun z => c2 (e10.mp z)), hKM.1.1]
    by_cases c3 : A.1 0 ≤ j
    · rw [if_pos (ln.mpr c3)]
      exact ⟨qn (by omega) c3, fin'⟩
    · rw [if_neg (fun z => c3 (ln.mp z)), mg45 (by omega)]
      exact ⟨vp_in_nI (by omega) (by decide), qm (by omega), fin'⟩
  have both : ∀ {P : XS → Prop}, (∀ D, D = zsd A seat → P (xov D (D.1 41) (zleft D) 601 (xbeg σ 0))) → (qX6_begin g σ 0 fun σ_1 => qX6_goBothWays g σ_1 (nI seat) P) := fun {P} hP =>
    x_begin (A := A) (w := 601) hX.2.1.2.2.1 hX.2.1.2.2.2.1 (x_both hA hX hs hP)
  by_cases c : 10 ≤ j
  · rw [if_pos (l10.mpr c)]
    unfold qX10_schism_J40
    refine both (fun D hD => ?_)
    rw [if_pos (l10.mpr c)]
    by_cases c2 : j = 10
    · rw [if_pos (e10.mpr c2), xo_4]
      exact mod (fun r2 => nI (D.1 41) = r2) _ hX.ov (fun z => by omega) (fun _ => by rw [hD]) (fun z => by omega) (fun z => by omega)
    · rw [if_neg (fun z => c2 (e10.mp z)), xo_3]
      exact mod (fun r2 => nI (zleft D) = r2) _ hX.ov (fun _ => by rw [hD]) (fun z => absurd z c2) (fun z => by omega) (fun z => by omega)
  · rw [if_neg (fun z => c (l10.mp z))]
    refine x_hermK hA.1 hX.1 (fun w => ?_) (fun w => ?_)
    · obtain ⟨j', hj', e⟩ := w
      have ej : j = j' := (nI_eq (by omega) (by omega)).mp e
      subst ej
      unfold qX10_schism_J40
      refine both (fun D hD => ?_)
      rw [if_neg (fun z => c (l10.mp z)), xg45 (by omega)]
      exact ⟨vp_in_nI (by omega) (by decide), mod (fun r2 => nI (D.2 45 j) = r2) _ hX.ov (fun z => by omega) (fun z => by omega) (fun _ z => by omega) (fun _ => by rw [hD])⟩
    · have hn : A.1 0 ≤ j := by
        rcases Nat.lt_or_ge j (A.1 0) with q | q
        · exact absurd ⟨j, q, rfl⟩ w
        · exact q
      exact mod (fun r2 => -1 = r2) σ hX (fun z => by omega) (fun z => by omega) (fun _ _ => rfl) (fun z => by omega)
end
