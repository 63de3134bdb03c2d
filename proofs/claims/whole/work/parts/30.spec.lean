/-! the day, in numbers -/
theorem bnd_eq {α : Type} (a : α) (f : α → Prop) : bnd a f = f a := propext ⟨fun h => h a rfl, fun h x e => e ▸ h⟩
abbrev DS : Type := (Nat → Nat) × (Nat → Nat → Nat)
abbrev DC : Type := (Nat → Nat) × (Nat → Nat → Nat) × (Nat → Bool)
def dset (d : DS) (k v : Nat) : DS := (va_up d.1 k v, d.2)
def dsta (d : DS) (k i v : Nat) : DS := (d.1, va_up d.2 k (va_up (d.2 k) i v))
def zleft (d : DS) : Nat := d.2 39 0 + d.2 39 1 + d.2 39 2 + d.2 39 3 + d.2 39 4
def zfirst (d : DS) : Nat := if d.2 39 0 ≠ 0 then 0 else if d.2 39 1 ≠ 0 then 1 else if d.2 39 2 ≠ 0 then 2 else if d.2 39 3 ≠ 0 then 3 else 4
def zmuch (c : DC) (d : DS) (h : Nat) : Nat := min (c.2.1 5 h) (d.2 39 (zfirst d))
def zwhom (c : DC) (d : DS) (h : Nat) : Nat := if c.2.1 1 h = 4 ∧ (d.2 46 h + 1) % c.2.1 2 h = 0 then c.2.1 8 ((c.2.1 7 h + 1) % c.1 0) else h
def zwarm (c : DC) (d : DS) (h : Nat) : Nat := if d.1 40 < 20 then zmuch c d h * (1 + zfirst d) / 2 else zmuch c d h * (1 + zfirst d)
def zworth (c : DC) (d : DS) (h : Nat) : Nat := if c.1 11 = 1 ∧ zfirst d = 4 ∧ c.2.1 4 (zwhom c d h) = 0 then 0 else zwarm c d h
def zrow (f : Nat → Nat) (b h wh la mu wo : Nat) : Nat → Nat := va_up (va_up (va_up (va_up (va_up f (5 * b) h) (5 * b + 1) wh) (5 * b + 2) la) (5 * b + 3) mu) (5 * b + 4) wo
def zlog (d : DS) (h wh la mu wo : Nat) : DS := (va_up (va_up d.1 43 (d.1 43 + 1)) 44 (d.1 44 + wo), va_up d.2 48 (zrow (d.2 48) (d.1 43) h wh la mu wo))
def zbit0 (c : DC) (d : DS) (h : Nat) : DS := dsta (dsta (dsta d 39 (zfirst d) (d.2 39 (zfirst d) - zmuch c d h)) 46 h (d.2 46 h + 1)) 45 (zwhom c d h) (d.2 45 (zwhom c d h) + zworth c d h)
def zbite (c : DC) (d : DS) (h : Nat) : DS := zlog (zbit0 c d h) h (zwhom c d h) (zfirst d) (zmuch c d h) (zworth c d h)
def zonce (c : DC) (d : DS) (h : Nat) : DS := if zleft d = 0 then d else zbite c d h
def ztimes (c : DC) : Nat → DS → Nat → DS
  | 0, d, _ => d
  | n + 1, d, h => ztimes c n (zonce c d h) h
def zmany (c : DC) (d : DS) (h : Nat) : Nat := 1 + (if c.2.1 1 h = 3 ∧ d.2 47 h % c.2.1 2 h = 0 then 1 else 0) + (if h = c.1 37 then 1 else 0)
def zeat0 (d : DS) (h : Nat) : DS := dsta d 47 h (d.2 47 h + 1)
def zeat (c : DC) (d : DS) (h : Nat) : DS := ztimes c (zmany c (zeat0 d h) h) (zeat0 d h) h
def zbeats (c : DC) (h : Nat) : Nat := if c.2.1 1 h = 1 ∨ c.2.1 1 h = 4 then c.2.1 2 h else 1
def zpass (d : DS) (b : Nat) : DS := (va_up (va_up (va_up d.1 41 (d.1 41 + 1)) 42 (d.1 42 + b)) 40 (d.1 40 - b), d.2)
def zlay (a k : Nat) : Nat := a / 5 + (if 4 - k < a % 5 then 1 else 0)
def zstir (d : DS) : DS := (d.1, va_up d.2 39 (fun k => zlay (zleft d) k))
def zskip (c : DC) (d : DS) (h : Nat) : Bool := c.2.2 h || (decide (0 < c.1 35) && decide (c.1 35 ≤ d.2 46 h))
def zonw (c : DC) (x k : Nat) : Nat := if x = 0 then (k + (c.1 0 - 1)) % c.1 0 else (k + 1) % c.1 0
def zact (c : DC) (d : DS) (k : Nat) : DS := if 0 < c.1 33 ∧ (d.1 41 + 1) % c.1 33 = 0 then zstir d else zeat c d (c.2.1 8 k)
def zserve (c : DC) (d : DS) (k : Nat) : DS := zpass (zact c d k) (zbeats c (c.2.1 8 k))
def zseek (c : DC) (d : DS) (x : Nat) : Nat → Nat → Option Nat
  | 0, _ => none
  | n + 1, k => if zskip c d (c.2.1 8 k) = false then some k else zseek c d x n (zonw c x k)
def zrun (c : DC) (T : Nat) : Nat → DS → Nat → DS
  | 0, d, _ => d
  | f + 1, d, k => if T ≤ d.1 41 then d else if zleft d = 0 ∨ 300 ≤ d.1 42 then d else match zseek c d (c.1 32) (c.1 0) k with
    | none => d
    | some q => zrun c T f (zserve c d q) (zonw c (c.1 32) q)
def WFc (c : DC) : Prop := 1 ≤ c.1 0 ∧ c.1 0 ≤ 10 ∧ c.1 11 ≤ 1 ∧ c.1 32 ≤ 1 ∧ c.1 33 ≤ 9 ∧ c.1 35 ≤ 9 ∧ ∀ h, h < c.1 0 → c.2.1 1 h ≤ 4 ∧ c.2.1 2 h ≤ 4 ∧ (c.2.1 1 h = 1 ∨ c.2.1 1 h = 3 ∨ c.2.1 1 h = 4 → 1 ≤ c.2.1 2 h) ∧ c.2.1 3 h ≤ 99 ∧ c.2.1 4 h ≤ 3 ∧ 1 ≤ c.2.1 5 h ∧ c.2.1 5 h ≤ 9 ∧ c.2.1 7 h < c.1 0 ∧ c.2.1 8 h < c.1 0 ∧ c.2.1 8 (c.2.1 7 h) = h ∧ c.2.1 7 (c.2.1 8 h) = h
def ZI (d : DS) : Prop := zleft d + d.1 43 ≤ 495 ∧ d.1 44 + 5 * zleft d ≤ 2475 ∧ (∀ h, d.2 45 h ≤ d.1 44) ∧ (∀ h, d.2 46 h ≤ d.1 43) ∧ d.1 41 ≤ d.1 42 ∧ d.1 42 ≤ 310 ∧ d.1 40 ≤ 300 ∧ ∀ h, d.2 47 h ≤ d.1 42 + 1
theorem zfirst_lt (d : DS) : zfirst d < 5 := by unfold zfirst; (repeat' split) <;> omega
theorem zfirst_pos {d : DS} (h : 0 < zleft d) : 0 < d.2 39 (zfirst d) := by
  unfold zleft at h; unfold zfirst
  by_cases h0 : d.2 39 0 = 0 <;> by_cases h1 : d.2 39 1 = 0 <;> by_cases h2 : d.2 39 2 = 0 <;> by_cases h3 : d.2 39 3 = 0 <;> simp [h0, h1, h2, h3] <;> omega
theorem zfirst_le (d : DS) : d.2 39 (zfirst d) ≤ zleft d := by
  unfold zleft zfirst; (repeat' split) <;> omega
theorem zleft_take (d : DS) (k v : Nat) (hk : k < 5) (hv : v ≤ d.2 39 k) : zleft (dsta d 39 k (d.2 39 k - v)) + v = zleft d := by
  unfold zleft dsta
  have e : k = 0 ∨ k = 1 ∨ k = 2 ∨ k = 3 ∨ k = 4 := by omega
  rcases e with rfl | rfl | rfl | rfl | rfl <;> simp [va_up] <;> omega
theorem zleft_ne (d : DS) (k i v : Nat) (hk : k ≠ 39) : zleft (dsta d k i v) = zleft d := by
  unfold zleft dsta; simp [va_up, Ne.symm hk]
theorem zbit0_left {c : DC} {d : DS} (h : Nat) : zleft (zbit0 c d h) + zmuch c d h = zleft d := by
  unfold zbit0
  rw [zleft_ne _ _ _ _ (by decide), zleft_ne _ _ _ _ (by decide)]
  exact zleft_take d _ _ (zfirst_lt d) (Nat.min_le_right _ _)
theorem zlog_left (d : DS) (a b x y z : Nat) : zleft (zlog d a b x y z) = zleft d := by
  unfold zleft zlog; simp [va_up]
theorem zbite_left {c : DC} {d : DS} (h : Nat) : zleft (zbite c d h) + zmuch c d h = zleft d := by
  unfold zbite; rw [zlog_left]; exact zbit0_left h
theorem zworth_le (c : DC) (d : DS) (h : Nat) : zworth c d h ≤ 5 * zmuch c d h := by
  have e : zmuch c d h * (1 + zfirst d) ≤ zmuch c d h * 5 := Nat.mul_le_mul_left _ (by have := zfirst_lt d; omega)
  unfold zworth zwarm
  repeat' split
  all_goals omega
theorem zwhom_lt {c : DC} (hc : WFc c) (d : DS) {h : Nat} (hh : h < c.1 0) : zwhom c d h < c.1 0 := by
  unfold zwhom; split
  · exact (hc.2.2.2.2.2.2 _ (Nat.mod_lt _ hc.1)).2.2.2.2.2.2.2.2.1
  · exact hh
theorem zmuch_pos {c : DC} (hc : WFc c) {d : DS} (hl : 0 < zleft d) {h : Nat} (hh : h < c.1 0) : 0 < zmuch c d h := by
  unfold zmuch
  have a := (hc.2.2.2.2.2.2 h hh).2.2.2.2.2.1
  have b := zfirst_pos hl
  omega
theorem va_upN (f : Nat → Nat) (k v j : Nat) : va_up f k v j = if j = k then v else f j := rfl
theorem zbite_1 (c : DC) (d : DS) (h : Nat) : (zbite c d h).1 = va_up (va_up d.1 43 (d.1 43 + 1)) 44 (d.1 44 + zworth c d h) := rfl
theorem zbite_ZI {c : DC} (hc : WFc c) {d : DS} (hd : ZI d) (hl : 0 < zleft d) {h : Nat} (hh : h < c.1 0) : ZI (zbite c d h) := by
  obtain ⟨a1, a2, a3, a4, a5, a6, a7, a8⟩ := hd
  have e := zbite_left (c := c) (d := d) h
  have w := zworth_le c d h
  have p := zmuch_pos hc hl hh
  refine ⟨?_, ?_, ?_, ?_, a5, a6, a7, ?_⟩
  · rw [zbite_1]; simp only [va_upN]; simp; omega
  · rw [zbite_1]; simp only [va_upN]; simp; omega
  · intro i
    have e1 : (zbite c d h).2 45 i = if i = zwhom c d h then d.2 45 (zwhom c d h) + zworth c d h else d.2 45 i := rfl
    have e2 : (zbite c d h).1 44 = d.1 44 + zworth c d h := rfl
    rw [e1, e2]; have := a3 i; have := a3 (zwhom c d h); split <;> omega
  · intro i
    have e1 : (zbite c d h).2 46 i = if i = h then d.2 46 h + 1 else d.2 46 i := rfl
    have e2 : (zbite c d h).1 43 = d.1 43 + 1 := rfl
    rw [e1, e2]; have := a4 i; have := a4 h; split <;> omega
  · exact a8
theorem zonce_ZI {c : DC} (hc : WFc c) {d : DS} (hd : ZI d) {h : Nat} (hh : h < c.1 0) : ZI (zonce c d h) := by
  unfold zonce; split
  · exact hd
  · exact zbite_ZI hc hd (by omega) hh
theorem ztimes_ZI {c : DC} (hc : WFc c) {h : Nat} (hh : h < c.1 0) : ∀ (n : Nat) {d : DS}, ZI d → ZI (ztimes c n d h)
  | 0, _, hd => hd
  | n + 1, _, hd => ztimes_ZI hc hh n (zonce_ZI hc hd hh)
theorem zonce_12 (c : DC) (d : DS) (h : Nat) : (zonce c d h).1 41 = d.1 41 ∧ (zonce c d h).1 42 = d.1 42 ∧ (zonce c d h).1 40 = d.1 40 ∧ (zonce c d h).2 47 = d.2 47 := by
  unfold zonce; split
  · exact ⟨rfl, rfl, rfl, rfl⟩
  · exact ⟨rfl, rfl, rfl, rfl⟩
theorem ztimes_12 (c : DC) (h : Nat) : ∀ (n : Nat) (d : DS), (ztimes c n d h).1 41 = d.1 41 ∧ (ztimes c n d h).1 42 = d.1 42 ∧ (ztimes c n d h).1 40 = d.1 40 ∧ (ztimes c n d h).2 47 = d.2 47
  | 0, _ => ⟨rfl, rfl, rfl, rfl⟩
  | n + 1, d => by
    have a := ztimes_12 c h n (zonce c d h)
    have b := zonce_12 c d h
    exact ⟨a.1.trans b.1, a.2.1.trans b.2.1, a.2.2.1.trans b.2.2.1, a.2.2.2.trans b.2.2.2⟩
theorem zlay_sum (a : Nat) : zlay a 0 + zlay a 1 + zlay a 2 + zlay a 3 + zlay a 4 = a := by
  unfold zlay; (repeat' split) <;> omega
theorem zstir_left (d : DS) : zleft (zstir d) = zleft d := zlay_sum (zleft d)
/- with beats below 300: a turn keeps the bounds, and beats go on -/
def ZJ (d : DS) : Prop := ZI d ∧ d.1 42 ≤ 304 ∧ ∀ h, d.2 47 h ≤ d.1 42
theorem zact_ZI {c : DC} (hc : WFc c) {d : DS} (hd : ZJ d) {k : Nat} (hk : k < c.1 0) : ZI (zact c d k) ∧ (zact c d k).1 41 = d.1 41 ∧ (zact c d k).1 42 = d.1 42 ∧ (zact c d k).1 40 = d.1 40 ∧ ∀ h, (zact c d k).2 47 h ≤ d.1 42 + 1 := by
  obtain ⟨⟨a1, a2, a3, a4, a5, a6, a7, a8⟩, b1, b2⟩ := hd
  unfold zact; split
  · have e := zstir_left d
    refine ⟨⟨?_, ?_, a3, a4, a5, a6, a7, a8⟩, rfl, rfl, rfl, a8⟩
    · rw [e]; exact a1
    · rw [e]; exact a2
  · have hh := (hc.2.2.2.2.2.2 k hk).2.2.2.2.2.2.2.2.1
    have hI : ZI (zeat0 d (c.2.1 8 k)) := by
      refine ⟨?_, ?_, a3, a4, a5, a6, a7, ?_⟩
      · unfold zeat0; rw [zleft_ne _ _ _ _ (by decide)]; exact a1
      · unfold zeat0; rw [zleft_ne _ _ _ _ (by decide)]; exact a2
      · intro i
        have e1 : (zeat0 d (c.2.1 8 k)).2 47 i = if i = c.2.1 8 k then d.2 47 (c.2.1 8 k) + 1 else d.2 47 i := rfl
        have e2 : (zeat0 d (c.2.1 8 k)).1 42 = d.1 42 := rfl
        rw [e1, e2]; have := b2 i; have := b2 (c.2.1 8 k); split <;> omega
    have t := ztimes_12 c (c.2.1 8 k) (zmany c (zeat0 d (c.2.1 8 k)) (c.2.1 8 k)) (zeat0 d (c.2.1 8 k))
    refine ⟨ztimes_ZI hc hh _ hI, t.1, t.2.1, t.2.2.1, fun i => ?_⟩
    unfold zeat; rw [t.2.2.2]; exact hI.2.2.2.2.2.2.2 i
theorem zbeats_le {c : DC} (hc : WFc c) {h : Nat} (hh : h < c.1 0) : 1 ≤ zbeats c h ∧ zbeats c h ≤ 4 := by
  have a := hc.2.2.2.2.2.2 h hh
  unfold zbeats; split
  · rename_i e; exact ⟨a.2.2.1 (by omega), a.2.1⟩
  · omega
theorem zpass_left (d : DS) (b : Nat) : zleft (zpass d b) = zleft d := rfl
theorem zpass_ZJ {d d' : DS} (h : ZI d') (e1 : d'.1 41 = d.1 41) (e2 : d'.1 42 = d.1 42) (hb : d.1 42 < 300) (hh : ∀ h, d'.2 47 h ≤ d.1 42 + 1) {b : Nat} (b1 : 1 ≤ b) (b4 : b ≤ 4) : ZJ (zpass d' b) ∧ (zpass d' b).1 42 = d.1 42 + b ∧ (zpass d' b).1 41 = d.1 41 + 1 := by
  obtain ⟨a1, a2, a3, a4, a5, a6, a7, a8⟩ := h
  have f1 : (zpass d' b).1 41 = d'.1 41 + 1 := rfl
  have f2 : (zpass d' b).1 42 = d'.1 42 + b := rfl
  have f3 : (zpass d' b).1 40 = d'.1 40 - b := rfl
  refine ⟨⟨⟨a1, a2, a3, a4, ?_, ?_, ?_, ?_⟩, ?_, ?_⟩, ?_, ?_⟩
  · omega
  · omega
  · omega
  · intro i; have := hh i; show d'.2 47 i ≤ _; omega
  · omega
  · intro i; have := hh i; show d'.2 47 i ≤ _; omega
  · omega
  · omega
theorem zserve_ZJ {c : DC} (hc : WFc c) {d : DS} (hd : ZJ d) (hb : d.1 42 < 300) {k : Nat} (hk : k < c.1 0) : ZJ (zserve c d k) ∧ d.1 42 < (zserve c d k).1 42 := by
  have a := zact_ZI hc hd hk
  have hh := (hc.2.2.2.2.2.2 k hk).2.2.2.2.2.2.2.2.1
  have b := zbeats_le hc hh
  have e := zpass_ZJ a.1 a.2.1 a.2.2.1 hb a.2.2.2.2 b.1 b.2
  exact ⟨e.1, by unfold zserve; omega⟩
theorem zonw_lt {c : DC} (hc : WFc c) (x k : Nat) : zonw c x k < c.1 0 := by
  unfold zonw; split <;> exact Nat.mod_lt _ hc.1
theorem zseek_lt {c : DC} (hc : WFc c) {d : DS} {x : Nat} : ∀ (n k q : Nat), k < c.1 0 → zseek c d x n k = some q → q < c.1 0
  | 0, _, _, _, h => by simp [zseek] at h
  | n + 1, k, q, hk, h => by
    unfold zseek at h; split at h
    · injection h with h; omega
    · exact zseek_lt hc n _ q (zonw_lt hc _ _) h
/- turns are never more than beats: 300 turns at most, or far more, is the same -/
theorem zrun_far {c : DC} (hc : WFc c) {T : Nat} (hT : 300 ≤ T) : ∀ (f : Nat) (d : DS) (k : Nat), ZJ d → k < c.1 0 → zrun c T f d k = zrun c 300 f d k
  | 0, _, _, _, _ => rfl
  | f + 1, d, k, hd, hk => by
    unfold zrun
    have a5 := hd.1.2.2.2.2.1
    by_cases h3 : 300 ≤ d.1 42
    · simp [h3]
    · have x1 : ¬ T ≤ d.1 41 := by omega
      have x2 : ¬ 300 ≤ d.1 41 := by omega
      rw [if_neg x1, if_neg x2]
      split
      · rfl
      · split
        · rfl
        · rename_i q hq
          have hq' := zseek_lt hc _ _ q hk hq
          exact zrun_far hc hT f _ _ (zserve_ZJ hc hd (by omega) hq').1 (zonw_lt hc _ _)
theorem zrun_ZJ {c : DC} (hc : WFc c) {T : Nat} : ∀ (f : Nat) (d : DS) (k : Nat), ZJ d → k < c.1 0 → ZJ (zrun c T f d k)
  | 0, _, _, hd, _ => hd
  | f + 1, d, k, hd, hk => by
    unfold zrun; split
    · exact hd
    · split
      · exact hd
      · split
        · exact hd
        · rename_i q hq
          have hq' := zseek_lt hc _ _ q hk hq
          exact zrun_ZJ hc f _ _ (zserve_ZJ hc hd (by omega) hq').1 (zonw_lt hc _ _)
