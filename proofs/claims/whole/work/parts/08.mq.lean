/-! what each method of the model does, as a predicate: printed by a program out of its bytecode -/
theorem ne_out3 {x : Int32} (h0 : ¬ x = 0) (h1 : ¬ x = 1) (h2 : ¬ x = 2) : x.toInt < 0 ∨ 2 < x.toInt := by
  have a0 := lv_neT (a := 0) h0 (by decide)
  have a1 := lv_neT (a := 1) h1 (by decide)
  have a2 := lv_neT (a := 2) h2 (by decide)
  omega
theorem ne_out4 {x : Int32} (h0 : ¬ x = 0) (h1 : ¬ x = 1) (h2 : ¬ x = 2) (h3 : ¬ x = 3) : x.toInt < 0 ∨ 3 < x.toInt := by
  have a0 := lv_neT (a := 0) h0 (by decide)
  have a1 := lv_neT (a := 1) h1 (by decide)
  have a2 := lv_neT (a := 2) h2 (by decide)
  have a3 := lv_neT (a := 3) h3 (by decide)
  omega
theorem ne_out5 {x : Int32} (h0 : ¬ x = 0) (h1 : ¬ x = 1) (h2 : ¬ x = 2) (h3 : ¬ x = 3) (h4 : ¬ x = 4) : x.toInt < 0 ∨ 4 < x.toInt := by
  have a0 := lv_neT (a := 0) h0 (by decide)
  have a1 := lv_neT (a := 1) h1 (by decide)
  have a2 := lv_neT (a := 2) h2 (by decide)
  have a3 := lv_neT (a := 3) h3 (by decide)
  have a4 := lv_neT (a := 4) h4 (by decide)
  omega
theorem ne_out6 {x : Int32} (h0 : ¬ x = 0) (h1 : ¬ x = 1) (h2 : ¬ x = 2) (h3 : ¬ x = 3) (h4 : ¬ x = 4) (h5 : ¬ x = 5) : x.toInt < 0 ∨ 5 < x.toInt := by
  have a0 := lv_neT (a := 0) h0 (by decide)
  have a1 := lv_neT (a := 1) h1 (by decide)
  have a2 := lv_neT (a := 2) h2 (by decide)
  have a3 := lv_neT (a := 3) h3 (by decide)
  have a4 := lv_neT (a := 4) h4 (by decide)
  have a5 := lv_neT (a := 5) h5 (by decide)
  omega
theorem ne_out7 {x : Int32} (h0 : ¬ x = 0) (h1 : ¬ x = 1) (h2 : ¬ x = 2) (h3 : ¬ x = 3) (h4 : ¬ x = 4) (h5 : ¬ x = 5) (h6 : ¬ x = 6) : x.toInt < 0 ∨ 6 < x.toInt := by
  have a0 := lv_neT (a := 0) h0 (by decide)
  have a1 := lv_neT (a := 1) h1 (by decide)
  have a2 := lv_neT (a := 2) h2 (by decide)
  have a3 := lv_neT (a := 3) h3 (by decide)
  have a4 := lv_neT (a := 4) h4 (by decide)
  have a5 := lv_neT (a := 5) h5 (by decide)
  have a6 := lv_neT (a := 6) h6 (by decide)
  omega
theorem ne_out29 {x : Int32} (h0 : ¬ x = 0) (h1 : ¬ x = 1) (h2 : ¬ x = 2) (h3 : ¬ x = 3) (h4 : ¬ x = 4) (h5 : ¬ x = 5) (h6 : ¬ x = 6) (h7 : ¬ x = 7) (h8 : ¬ x = 8) (h9 : ¬ x = 9) (h10 : ¬ x = 10) (h11 : ¬ x = 11) (h12 : ¬ x = 12) (h13 : ¬ x = 13) (h14 : ¬ x = 14) (h15 : ¬ x = 15) (h16 : ¬ x = 16) (h17 : ¬ x = 17) (h18 : ¬ x = 18) (h19 : ¬ x = 19) (h20 : ¬ x = 20) (h21 : ¬ x = 21) (h22 : ¬ x = 22) (h23 : ¬ x = 23) (h24 : ¬ x = 24) (h25 : ¬ x = 25) (h26 : ¬ x = 26) (h27 : ¬ x = 27) (h28 : ¬ x = 28) : x.toInt < 0 ∨ 28 < x.toInt := by
  have a0 := lv_neT (a := 0) h0 (by decide)
  have a1 := lv_neT (a := 1) h1 (by decide)
  have a2 := lv_neT (a := 2) h2 (by decide)
  have a3 := lv_neT (a := 3) h3 (by decide)
  have a4 := lv_neT (a := 4) h4 (by decide)
  have a5 := lv_neT (a := 5) h5 (by decide)
  have a6 := lv_neT (a := 6) h6 (by decide)
  have a7 := lv_neT (a := 7) h7 (by decide)
  have a8 := lv_neT (a := 8) h8 (by decide)
  have a9 := lv_neT (a := 9) h9 (by decide)
  have a10 := lv_neT (a := 10) h10 (by decide)
  have a11 := lv_neT (a := 11) h11 (by decide)
  have a12 := lv_neT (a := 12) h12 (by decide)
  have a13 := lv_neT (a := 13) h13 (by decide)
  have a14 := lv_neT (a := 14) h14 (by decide)
  have a15 := lv_neT (a := 15) h15 (by decide)
  have a16 := lv_neT (a := 16) h16 (by decide)
  have a17 := lv_neT (a := 17) h17 (by decide)
  have a18 := lv_neT (a := 18) h18 (by decide)
  have a19 := lv_neT (a := 19) h19 (by decide)
  have a20 := lv_neT (a := 20) h20 (by decide)
  have a21 := lv_neT (a := 21) h21 (by decide)
  have a22 := lv_neT (a := 22) h22 (by decide)
  have a23 := lv_neT (a := 23) h23 (by decide)
  have a24 := lv_neT (a := 24) h24 (by decide)
  have a25 := lv_neT (a := 25) h25 (by decide)
  have a26 := lv_neT (a := 26) h26 (by decide)
  have a27 := lv_neT (a := 27) h27 (by decide)
  have a28 := lv_neT (a := 28) h28 (by decide)
  omega
def qX11_within (σ : MS) (x0 : Int32) (x1 : Int32) (x2 : Int32) (P : Int32 → MS → Prop) : Prop := (if x0 < x1 then (P 0 σ) else ((if x2 < x0 then (P 0 σ) else (P 1 σ))))
def qX11_has (σ : MS) (x0 : Int32) (x1 : Int32) (P : Int32 → MS → Prop) : Prop := (if ((jshr x0 x1) &&& 1) = 1 then (P 1 σ) else (P 0 σ))
def qX11_letters_L102 (e135 : MS → Int32 → Prop) (P : Int32 → MS → Prop) : Nat → MS → Int64 → Int32 → Int32 → Prop
  | 0, _, _, _, _ => False
  | n + 1, σ, x1, x3, x5 => (if x3 ≤ x5 then (e135 σ x3) else (vp_in ((σ.1 17) + x5) 16 ∧ (bnd (mseta σ 18 ((σ.1 17) + x5) (vp_nar .byte (Int8.toInt32 (Int32.toInt8 (Int64.toInt32 (jlshr x1 (8 * x5))))))) fun σ_2 => bnd (x5 + 1) fun x5_3 => qX11_letters_L102 e135 P n σ_2 x1 x3 x5_3)))
def qX11_letters_J49 (k8 : MS → Int64 → Int32 → Int32 → Int32 → Prop) (e85 : MS → Int64 → Int32 → Prop) (P : Int32 → MS → Prop) (σ : MS) (x1 : Int64) (x3 : Int32) (x4 : Int32) (x5 : Int32) (x6 : Int32) : Prop := bnd ((if x4 = 0 then (if x6 = 0 then 1 else 0) else 1) : Int32) fun v_1 => bnd ((if x6 = 0 then 0 else 1) : Int32) fun v_2 => bnd (x3 + v_2) fun x3_3 => bnd (x5 + 1) fun x5_4 => k8 σ x1 x3_3 v_1 x5_4
def qX11_letters_L8 (e85 : MS → Int64 → Int32 → Prop) (P : Int32 → MS → Prop) : Nat → MS → Int64 → Int32 → Int32 → Int32 → Prop
  | 0, _, _, _, _, _ => False
  | n + 1, σ, x1, x3, x4, x5 => (if 8 ≤ x5 then (e85 σ x1 x3) else (bnd (Int64.toInt32 ((jlshr x1 (8 * x5)) &&& 255)) fun x6_1 => (if 126 < x6_1 then (P (-102) σ) else ((if x4 = 0 then (qX11_letters_J49 (fun z0 z1 z2 z3 z4 => qX11_letters_L8 e85 P n z0 z1 z2 z3 z4) e85 P σ x1 x3 x4 x5 x6_1) else ((if x6_1 = 0 then (qX11_letters_J49 (fun z0 z1 z2 z3 z4 => qX11_letters_L8 e85 P n z0 z1 z2 z3 z4) e85 P σ x1 x3 x4 x5 x6_1) else (P (-102) σ))))))))
def qX11_letters (σ : MS) (x1 : Int64) (P : Int32 → MS → Prop) : Prop := ∃ f8, qX11_letters_L8 (fun σ_3 x1_1 x3_2 => (if ((σ_3.1 17) + x3_2) ≤ 16 then (∃ f102, qX11_letters_L102 (fun σ_5 x3_4 => bnd (mset σ_5 17 ((σ_5.1 17) + x3_4)) fun σ_6 => P (σ_6.1 17) σ_6) P f102 σ_3 x1_1 x3_2 0) else (P (-104) σ_3))) P f8 σ x1 0 0 0
def qX11_blank (σ : MS) (P : Int32 → MS → Prop) : Prop := bnd (σ.1 17) fun x1_1 => bnd (mset σ 17 0) fun σ_2 => P x1_1 σ_2
def qX11_afterTurns (σ : MS) (x1 : Int32) (P : Int32 → MS → Prop) : Prop := bnd ((if x1 = 100 then 1 else 0) : Int32) fun v_1 => bnd (mset σ 30 v_1) fun σ_2 => (if x1 = 100 then (P 4 σ_2) else ((if x1 = 120 then (P 5 σ_2) else (P (-1) σ_2))))
def qX11_nextState_J75 (P : Int32 → MS → Prop) (σ : MS) : Prop := P 1 σ
def qX11_nextState (σ : MS) (x1 : Int32) (x2 : Int32) (P : Int32 → MS → Prop) : Prop := qX11_within σ x2 49 57 fun r_2 σ_1 => (if x1 = 0 then (bnd ((if x2 = 108 then 1 else 0) : Int32) fun v_3 => bnd (mset σ_1 28 v_3) fun σ_4 => (if x2 = 108 then (qX11_nextState_J75  P σ_4) else ((if x2 = 114 then (qX11_nextState_J75  P σ_4) else (P (-1) σ_4))))) else (if x1 = 1 then ((if x2 = 116 then (P 2 σ_1) else (qX11_afterTurns σ_1 x2 fun r_6 σ_5 => P r_6 σ_5))) else (if x1 = 2 then (bnd ((if r_2 = 0 then (σ_1.1 29) else (x2 - 48)) : Int32) fun v_7 => bnd (mset σ_1 29 v_7) fun σ_8 => (if r_2 = 0 then (P (-1) σ_8) else (P 3 σ_8))) else (if x1 = 3 then (qX11_afterTurns σ_1 x2 fun r_10 σ_9 => P r_10 σ_9) else (if x1 = 4 then ((if x2 = 120 then (P 5 σ_1) else (P (-1) σ_1))) else (if x1 = 5 then (bnd ((if r_2 = 0 then (σ_1.1 31) else (x2 - 48)) : Int32) fun v_11 => bnd (mset σ_1 31 v_11) fun σ_12 => (if r_2 = 0 then (P (-1) σ_12) else (P 6 σ_12))) else (P (-1) σ_1)))))))
def qX11_readVow_J120 (P : MS → Prop) (σ : MS) (x1 : Int32) (x2 : Int32) : Prop := bnd (mset σ 26 x2) fun σ_1 => bnd ((if x2 = (σ_1.1 17) then (if x1 = 1 then 1 else (if x1 = 3 then 1 else (if x1 = 4 then 1 else (if x1 = 6 then 1 else 0)))) else 0) : Int32) fun v_2 => bnd (mset σ_1 27 v_2) fun σ_3 => P σ_3
def qX11_readVow_L21 (e120 : MS → Int32 → Int32 → Prop) (P : MS → Prop) : Nat → MS → Int32 → Int32 → Int32 → Prop
  | 0, _, _, _, _ => False
  | n + 1, σ, x1, x2, x3 => (if (σ.1 17) ≤ x2 then (e120 σ x1 x2) else ((if x3 = 0 then (e120 σ x1 x2) else (bnd (σ.1 30) fun x4_1 => vp_in x2 16 ∧ (qX11_nextState σ x1 (mgeta σ 18 x2) fun r_4 σ_3 => bnd ((if r_4 = (-1) then 0 else 1) : Int32) fun v_5 => bnd ((if v_5 = 0 then x4_1 else (if (σ_3.1 30) = 0 then (if x4_1 = 0 then 0 else 1) else 1)) : Int32) fun v_6 => isB v_6 ∧ (bnd (mset σ_3 30 v_6) fun σ_7 => bnd ((if v_5 = 0 then x1 else r_4) : Int32) fun v_8 => bnd ((if v_5 = 0 then 0 else 1) : Int32) fun v_9 => bnd (x2 + v_9) fun x2_10 => qX11_readVow_L21 e120 P n σ_7 v_8 x2_10 v_5))))))
def qX11_readVow (σ : MS) (P : MS → Prop) : Prop := bnd (mset σ 29 0) fun σ_1 => bnd (mset σ_1 30 0) fun σ_2 => bnd (mset σ_2 31 0) fun σ_3 => ∃ f21, qX11_readVow_L21 (fun σ_6 x1_4 x2_5 => qX11_readVow_J120  P σ_6 x1_4 x2_5) P f21 σ_3 0 0 1
def qX11_fault (σ : MS) (P : Int32 → MS → Prop) : Prop := qX11_readVow σ fun σ_1 => P (σ_1.1 26) σ_1
def qX11_vow (σ : MS) (P : Int32 → MS → Prop) : Prop := qX11_readVow σ fun σ_1 => (if (σ_1.1 27) = 0 then (P (-103) σ_1) else ((if (σ_1.1 12) = 6 then (P (-104) σ_1) else (vp_in (σ_1.1 12) 6 ∧ (isB (σ_1.1 28) ∧ (bnd (mseta σ_1 13 (σ_1.1 12) (σ_1.1 28)) fun σ_3 => vp_in (σ_3.1 12) 6 ∧ (bnd (mseta σ_3 14 (σ_3.1 12) (σ_3.1 29)) fun σ_5 => vp_in (σ_5.1 12) 6 ∧ (isB (σ_5.1 30) ∧ (bnd (mseta σ_5 15 (σ_5.1 12) (σ_5.1 30)) fun σ_7 => vp_in (σ_7.1 12) 6 ∧ (bnd (mseta σ_7 16 (σ_7.1 12) (σ_7.1 31)) fun σ_9 => bnd (mset σ_9 12 ((σ_9.1 12) + 1)) fun σ_10 => bnd (mset σ_10 17 0) fun σ_11 => P ((σ_11.1 12) - 1) σ_11))))))))))
def qX11_isVow (σ : MS) (x1 : Int32) (P : Int32 → MS → Prop) : Prop := qX11_within σ x1 0 ((σ.1 12) - 1) fun r_2 σ_1 => isB r_2 ∧ (P r_2 σ_1)
def qX11_vowNow (σ : MS) (x1 : Int32) (x2 : Int32) (P : Int32 → MS → Prop) : Prop := (if x2 = 0 then (vp_in x1 6 ∧ ((if (mgeta σ 13 x1) = 0 then (P 0 σ) else (P 1 σ)))) else (if x2 = 1 then (vp_in x1 6 ∧ (P (mgeta σ 14 x1) σ)) else (if x2 = 2 then (vp_in x1 6 ∧ ((if (mgeta σ 15 x1) = 0 then (P 0 σ) else (P 1 σ)))) else (vp_in x1 6 ∧ (P (mgeta σ 16 x1) σ)))))
def qX11_vowTold (σ : MS) (x1 : Int32) (x2 : Int32) (P : Int32 → MS → Prop) : Prop := qX11_isVow σ x1 fun r_2 σ_1 => (if r_2 = 0 then (P (-101) σ_1) else (qX11_within σ_1 x2 0 3 fun r_4 σ_3 => (if r_4 = 0 then (P (-102) σ_3) else (qX11_vowNow σ_3 x1 x2 fun r_6 σ_5 => P r_6 σ_5))))
def qX11_isHermit (σ : MS) (x1 : Int32) (P : Int32 → MS → Prop) : Prop := qX11_within σ x1 0 ((σ.1 0) - 1) fun r_2 σ_1 => isB r_2 ∧ (P r_2 σ_1)
def qX11_isNumber (σ : MS) (x0 : Int32) (x1 : Int32) (P : Int32 → MS → Prop) : Prop := bnd ((if x0 = 1 then 1 else (if x0 = 4 then 1 else 0)) : Int32) fun v_1 => (if v_1 = 0 then ((if x0 = 3 then (qX11_within σ x1 1 4 fun r_3 σ_2 => isB r_3 ∧ (P r_3 σ_2)) else ((if x1 = 0 then (P 1 σ) else (P 0 σ))))) else (qX11_within σ x1 2 4 fun r_5 σ_4 => isB r_5 ∧ (P r_5 σ_4)))
def qX11_hermit (σ : MS) (x1 : Int32) (x2 : Int32) (x3 : Int32) (x4 : Int32) (x5 : Int32) (x6 : Int32) (P : Int32 → MS → Prop) : Prop := qX11_within σ x1 0 4 fun r_2 σ_1 => (if r_2 = 0 then (P (-102) σ_1) else (qX11_isNumber σ_1 x1 x2 fun r_4 σ_3 => (if r_4 = 0 then (P (-102) σ_3) else (qX11_within σ_3 x3 1 99 fun r_6 σ_5 => (if r_6 = 0 then (P (-102) σ_5) else (qX11_within σ_5 x4 0 3 fun r_8 σ_7 => (if r_8 = 0 then (P (-102) σ_7) else (qX11_within σ_7 x5 1 9 fun r_10 σ_9 => (if r_10 = 0 then (P (-102) σ_9) else (qX11_within σ_9 x6 0 99 fun r_12 σ_11 => (if r_12 = 0 then (P (-102) σ_11) else ((if (σ_11.1 0) = 10 then (P (-104) σ_11) else (vp_in (σ_11.1 0) 10 ∧ (bnd (mseta σ_11 1 (σ_11.1 0) x1) fun σ_14 => vp_in (σ_14.1 0) 10 ∧ (bnd (mseta σ_14 2 (σ_14.1 0) x2) fun σ_16 => vp_in (σ_16.1 0) 10 ∧ (bnd (mseta σ_16 3 (σ_16.1 0) x3) fun σ_18 => vp_in (σ_18.1 0) 10 ∧ (bnd (mseta σ_18 4 (σ_18.1 0) x4) fun σ_20 => vp_in (σ_20.1 0) 10 ∧ (bnd (mseta σ_20 5 (σ_20.1 0) x5) fun σ_22 => vp_in (σ_22.1 0) 10 ∧ (bnd (mseta σ_22 6 (σ_22.1 0) x6) fun σ_24 => vp_in (σ_24.1 0) 10 ∧ (bnd (mseta σ_24 7 (σ_24.1 0) (σ_24.1 0)) fun σ_26 => vp_in (σ_26.1 0) 10 ∧ (bnd (mseta σ_26 8 (σ_26.1 0) (σ_26.1 0)) fun σ_28 => bnd (mset σ_28 0 ((σ_28.1 0) + 1)) fun σ_29 => P ((σ_29.1 0) - 1) σ_29))))))))))))))))))))))
def qX11_as_J49 (P : Int32 → MS → Prop) (σ : MS) (x1 : Int32) : Prop := P x1 σ
def qX11_as (σ : MS) (x1 : Int32) (x2 : Int32) (P : Int32 → MS → Prop) : Prop := qX11_isHermit σ x1 fun r_2 σ_1 => (if r_2 = 0 then (P (-101) σ_1) else (qX11_within σ_1 x2 0 4 fun r_4 σ_3 => (if r_4 = 0 then (P (-102) σ_3) else (vp_in x1 10 ∧ (bnd (mgeta σ_3 1 x1) fun x3_6 => (if x2 = 0 then (qX11_as_J49  P σ_3 x1) else ((if x3_6 = x2 then (qX11_as_J49  P σ_3 x1) else ((if x2 = 1 then ((if x3_6 = 4 then (qX11_as_J49  P σ_3 x1) else (P (-1) σ_3))) else (P (-1) σ_3)))))))))))
def qX11_hermitNow (σ : MS) (x1 : Int32) (x2 : Int32) (P : Int32 → MS → Prop) : Prop := (if x2 = 0 then (vp_in x1 10 ∧ (P (mgeta σ 1 x1) σ)) else (if x2 = 1 then (vp_in x1 10 ∧ (P (mgeta σ 2 x1) σ)) else (if x2 = 2 then (vp_in x1 10 ∧ (P (mgeta σ 3 x1) σ)) else (if x2 = 3 then (vp_in x1 10 ∧ (P (mgeta σ 4 x1) σ)) else (if x2 = 4 then (vp_in x1 10 ∧ (P (mgeta σ 5 x1) σ)) else (if x2 = 5 then (vp_in x1 10 ∧ (P (mgeta σ 6 x1) σ)) else (vp_in x1 10 ∧ (P (mgeta σ 7 x1) σ))))))))
def qX11_about (σ : MS) (x1 : Int32) (x2 : Int32) (P : Int32 → MS → Prop) : Prop := qX11_isHermit σ x1 fun r_2 σ_1 => (if r_2 = 0 then (P (-1001) σ_1) else (qX11_within σ_1 x2 0 6 fun r_4 σ_3 => (if r_4 = 0 then (P (-1002) σ_3) else (qX11_hermitNow σ_3 x1 x2 fun r_6 σ_5 => P r_6 σ_5))))
def qX11_store (σ : MS) (x1 : Int32) (x2 : Int32) (P : Int32 → MS → Prop) : Prop := qX11_isHermit σ x1 fun r_2 σ_1 => (if r_2 = 0 then (P (-1001) σ_1) else (qX11_within σ_1 x2 0 99 fun r_4 σ_3 => (if r_4 = 0 then (P (-1002) σ_3) else (vp_in x1 10 ∧ (bnd (mgeta σ_3 6 x1) fun x3_6 => bnd (mseta σ_3 6 x1 x2) fun σ_7 => P x3_6 σ_7)))))
def qX11_isSeat (σ : MS) (x1 : Int32) (P : Int32 → MS → Prop) : Prop := qX11_within σ x1 0 ((σ.1 0) - 1) fun r_2 σ_1 => isB r_2 ∧ (P r_2 σ_1)
def qX11_exchange (σ : MS) (x1 : Int32) (x2 : Int32) (P : MS → Prop) : Prop := vp_in x1 10 ∧ (bnd (mgeta σ 8 x1) fun x3_2 => vp_in x2 10 ∧ (bnd (mseta σ 8 x1 (mgeta σ 8 x2)) fun σ_4 => bnd (mseta σ_4 8 x2 x3_2) fun σ_5 => vp_in (mgeta σ_5 8 x1) 10 ∧ (bnd (mseta σ_5 7 (mgeta σ_5 8 x1) x1) fun σ_7 => vp_in (mgeta σ_7 8 x2) 10 ∧ (bnd (mseta σ_7 7 (mgeta σ_7 8 x2) x2) fun σ_9 => P σ_9))))
def qX11_change (σ : MS) (x1 : Int32) (x2 : Int32) (P : Int32 → MS → Prop) : Prop := qX11_isSeat σ x1 fun r_2 σ_1 => (if r_2 = 0 then (P (-101) σ_1) else (qX11_isSeat σ_1 x2 fun r_4 σ_3 => (if r_4 = 0 then (P (-101) σ_3) else ((if x1 = x2 then (P (-101) σ_3) else (qX11_exchange σ_3 x1 x2 fun σ_5 => vp_in x1 10 ∧ (P (mgeta σ_5 8 x1) σ_5)))))))
def qX11_soup (σ : MS) (x1 : Int32) (x2 : Int32) (P : Int32 → MS → Prop) : Prop := qX11_within σ x1 0 4 fun r_2 σ_1 => (if r_2 = 0 then (P (-101) σ_1) else (qX11_within σ_1 x2 0 99 fun r_4 σ_3 => (if r_4 = 0 then (P (-102) σ_3) else (vp_in x1 5 ∧ (bnd (mgeta σ_3 9 x1) fun x3_6 => bnd (mseta σ_3 9 x1 x2) fun σ_7 => P x3_6 σ_7)))))
def qX11_heat (σ : MS) (x1 : Int32) (P : Int32 → MS → Prop) : Prop := qX11_within σ x1 0 300 fun r_2 σ_1 => (if r_2 = 0 then (P (-102) σ_1) else (bnd (σ_1.1 10) fun x2_3 => bnd (mset σ_1 10 x1) fun σ_4 => P x2_3 σ_4))
def qX11_feast (σ : MS) (x1 : Int32) (P : Int32 → MS → Prop) : Prop := bnd ((if (σ.1 11) = 0 then 0 else 1) : Int32) fun v_1 => isB x1 ∧ (bnd (mset σ 11 x1) fun σ_2 => P v_1 σ_2)
def qX11_useVow (σ : MS) (x1 : Int32) (P : MS → Prop) : Prop := vp_in x1 6 ∧ (isB (mgeta σ 13 x1) ∧ (bnd (mset σ 32 (mgeta σ 13 x1)) fun σ_2 => bnd (mset σ_2 33 (mgeta σ_2 14 x1)) fun σ_3 => isB (mgeta σ_3 15 x1) ∧ (bnd (mset σ_3 34 (mgeta σ_3 15 x1)) fun σ_4 => bnd (mset σ_4 35 (mgeta σ_4 16 x1)) fun σ_5 => bnd (mset σ_5 36 0) fun σ_6 => bnd (mset σ_6 37 (-1)) fun σ_7 => P σ_7)))
def qX11_useStores_L2 (P : MS → Prop) : Nat → MS → Int32 → Prop
  | 0, _, _ => False
  | n + 1, σ, x1 => (if 10 ≤ x1 then (P σ) else (vp_in x1 10 ∧ (bnd (mseta σ 38 x1 (mgeta σ 6 x1)) fun σ_2 => bnd (x1 + 1) fun x1_3 => qX11_useStores_L2  P n σ_2 x1_3)))
def qX11_useStores (σ : MS) (P : MS → Prop) : Prop := ∃ f2, qX11_useStores_L2  P f2 σ 0
def qX11_beginDay_L37 (e60 : MS → Prop) (P : MS → Prop) : Nat → MS → Int32 → Prop
  | 0, _, _ => False
  | n + 1, σ, x1 => (if 5 ≤ x1 then (e60 σ) else (vp_in x1 5 ∧ (bnd (mseta σ 39 x1 (mgeta σ 9 x1)) fun σ_2 => bnd (x1 + 1) fun x1_3 => qX11_beginDay_L37 e60 P n σ_2 x1_3)))
def qX11_beginDay_L2 (e35 : MS → Prop) (P : MS → Prop) : Nat → MS → Int32 → Prop
  | 0, _, _ => False
  | n + 1, σ, x1 => (if 10 ≤ x1 then (e35 σ) else (vp_in x1 10 ∧ (bnd (mseta σ 45 x1 0) fun σ_2 => bnd (mseta σ_2 46 x1 0) fun σ_3 => bnd (mseta σ_3 47 x1 0) fun σ_4 => bnd (x1 + 1) fun x1_5 => qX11_beginDay_L2 e35 P n σ_4 x1_5)))
def qX11_beginDay (σ : MS) (P : MS → Prop) : Prop := ∃ f2, qX11_beginDay_L2 (fun σ_1 => ∃ f37, qX11_beginDay_L37 (fun σ_2 => bnd (mset σ_2 40 (σ_2.1 10)) fun σ_3 => bnd (mset σ_3 41 0) fun σ_4 => bnd (mset σ_4 42 0) fun σ_5 => bnd (mset σ_5 43 0) fun σ_6 => bnd (mset σ_6 44 0) fun σ_7 => P σ_7) P f37 σ_1 0) P f2 σ 0
def qX11_isSkipped_J67 (P : Int32 → MS → Prop) (σ : MS) : Prop := P 1 σ
def qX11_isSkipped_J42 (P : Int32 → MS → Prop) (σ : MS) (x1 : Int32) (y0 : Int32) : Prop := (if y0 = 0 then ((if (σ.1 35) ≤ 0 then (P 0 σ) else (vp_in x1 10 ∧ ((if (mgeta σ 46 x1) < (σ.1 35) then (P 0 σ) else (qX11_isSkipped_J67  P σ)))))) else (qX11_isSkipped_J67  P σ))
def qX11_isSkipped_J41 (P : Int32 → MS → Prop) (σ : MS) (x1 : Int32) : Prop := qX11_isSkipped_J42  P σ x1 0
def qX11_isSkipped_J37 (P : Int32 → MS → Prop) (σ : MS) (x1 : Int32) : Prop := qX11_isSkipped_J42  P σ x1 1
def qX11_isSkipped (σ : MS) (x1 : Int32) (P : Int32 → MS → Prop) : Prop := vp_in x1 10 ∧ ((if (mgeta σ 38 x1) < 0 then (qX11_isSkipped_J37  P σ x1) else (qX11_has σ (σ.1 36) x1 fun r_3 σ_2 => (if r_3 = 0 then ((if (σ_2.1 34) = 0 then (qX11_isSkipped_J41  P σ_2 x1) else (bnd ((if (mgeta σ_2 1 x1) = 2 then 1 else 0) : Int32) fun v_4 => (if v_4 = 0 then ((if (σ_2.1 35) ≤ 0 then (P 0 σ_2) else ((if (mgeta σ_2 46 x1) < (σ_2.1 35) then (P 0 σ_2) else (qX11_isSkipped_J67  P σ_2))))) else (qX11_isSkipped_J67  P σ_2))))) else (qX11_isSkipped_J37  P σ_2 x1)))))
def qX11_soupLeft_L4 (P : Int32 → MS → Prop) : Nat → MS → Int32 → Int32 → Prop
  | 0, _, _, _ => False
  | n + 1, σ, x1, x2 => (if 5 ≤ x2 then (P x1 σ) else (vp_in x2 5 ∧ (bnd (x1 + (mgeta σ 39 x2)) fun x1_2 => bnd (x2 + 1) fun x2_3 => qX11_soupLeft_L4  P n σ x1_2 x2_3)))
def qX11_soupLeft (σ : MS) (P : Int32 → MS → Prop) : Prop := ∃ f4, qX11_soupLeft_L4  P f4 σ 0 0
def qX11_areAllSkipped_J29 (k4 : MS → Int32 → Int32 → Prop) (P : Int32 → MS → Prop) (σ : MS) (x2 : Int32) (y0 : Int32) : Prop := bnd (x2 + 1) fun x2_1 => k4 σ y0 x2_1
def qX11_areAllSkipped_J28 (k4 : MS → Int32 → Int32 → Prop) (P : Int32 → MS → Prop) (σ : MS) (x2 : Int32) : Prop := qX11_areAllSkipped_J29 k4 P σ x2 0
def qX11_areAllSkipped_L4 (P : Int32 → MS → Prop) : Nat → MS → Int32 → Int32 → Prop
  | 0, _, _, _ => False
  | n + 1, σ, x1, x2 => (if (σ.1 0) ≤ x2 then (isB x1 ∧ (P x1 σ)) else ((if x1 = 0 then (qX11_areAllSkipped_J28 (fun z0 z1 z2 => qX11_areAllSkipped_L4  P n z0 z1 z2) P σ x2) else (qX11_isSkipped σ x2 fun r_2 σ_1 => bnd ((if r_2 = 0 then 0 else 1) : Int32) fun v_3 => bnd (x2 + 1) fun x2_4 => qX11_areAllSkipped_L4  P n σ_1 v_3 x2_4))))
def qX11_areAllSkipped (σ : MS) (P : Int32 → MS → Prop) : Prop := ∃ f4, qX11_areAllSkipped_L4  P f4 σ 1 0
def qX11_isOver_J24 (P : Int32 → MS → Prop) (σ : MS) : Prop := P 1 σ
def qX11_isOver (σ : MS) (P : Int32 → MS → Prop) : Prop := qX11_soupLeft σ fun r_2 σ_1 => (if r_2 = 0 then (qX11_isOver_J24  P σ_1) else ((if 300 ≤ (σ_1.1 42) then (qX11_isOver_J24  P σ_1) else (qX11_areAllSkipped σ_1 fun r_4 σ_3 => (if r_4 = 0 then (P 0 σ_3) else (qX11_isOver_J24  P σ_3))))))
def qX11_onward (σ : MS) (x1 : Int32) (x2 : Int32) (P : Int32 → MS → Prop) : Prop := (if x2 = 0 then ((¬ (σ.1 0) = 0) ∧ (P (jrem (x1 + ((σ.1 0) - 1)) (σ.1 0)) σ)) else ((¬ (σ.1 0) = 0) ∧ (P (jrem (x1 + 1) (σ.1 0)) σ)))
def qX11_stir_L7 (P : MS → Prop) : Nat → MS → Int32 → Int32 → Prop
  | 0, _, _, _ => False
  | n + 1, σ, x1, x2 => (if 5 ≤ x2 then (P σ) else (bnd ((if (jrem x1 5) ≤ (4 - x2) then 0 else 1) : Int32) fun v_1 => vp_in x2 5 ∧ (bnd (mseta σ 39 x2 ((x1 / 5) + v_1)) fun σ_3 => bnd (x2 + 1) fun x2_4 => qX11_stir_L7  P n σ_3 x1 x2_4)))
def qX11_stir (σ : MS) (P : MS → Prop) : Prop := qX11_soupLeft σ fun r_2 σ_1 => ∃ f7, qX11_stir_L7  P f7 σ_1 r_2 0
def qX11_biteOnce_J287 (P : MS → Prop) (σ : MS) (x6 : Int32) : Prop := bnd (mset σ 43 ((σ.1 43) + 1)) fun σ_1 => bnd (mset σ_1 44 ((σ_1.1 44) + x6)) fun σ_2 => P σ_2
def qX11_biteOnce_J193 (P : MS → Prop) (σ : MS) (x1 : Int32) (x2 : Int32) (x3 : Int32) (x5 : Int32) (y0 : Int32) : Prop := vp_in x5 10 ∧ (bnd (mseta σ 45 x5 ((mgeta σ 45 x5) + y0)) fun σ_2 => (if 600 ≤ (σ_2.1 43) then (qX11_biteOnce_J287  P σ_2 y0) else (vp_in (5 * (σ_2.1 43)) 3000 ∧ (bnd (mseta σ_2 48 (5 * (σ_2.1 43)) x1) fun σ_4 => vp_in ((5 * (σ_4.1 43)) + 1) 3000 ∧ (bnd (mseta σ_4 48 ((5 * (σ_4.1 43)) + 1) x5) fun σ_6 => vp_in ((5 * (σ_6.1 43)) + 2) 3000 ∧ (bnd (mseta σ_6 48 ((5 * (σ_6.1 43)) + 2) x2) fun σ_8 => vp_in ((5 * (σ_8.1 43)) + 3) 3000 ∧ (bnd (mseta σ_8 48 ((5 * (σ_8.1 43)) + 3) x3) fun σ_10 => vp_in ((5 * (σ_10.1 43)) + 4) 3000 ∧ (bnd (mseta σ_10 48 ((5 * (σ_10.1 43)) + 4) y0) fun σ_12 => qX11_biteOnce_J287  P σ_12 y0))))))))
def qX11_biteOnce_J191 (P : MS → Prop) (σ : MS) (x1 : Int32) (x2 : Int32) (x3 : Int32) (x5 : Int32) (x6 : Int32) : Prop := qX11_biteOnce_J193  P σ x1 x2 x3 x5 x6
def qX11_biteOnce_J163 (P : MS → Prop) (σ : MS) (x1 : Int32) (x2 : Int32) (x3 : Int32) (x5 : Int32) (y0 : Int32) : Prop := (if (σ.1 11) = 0 then (qX11_biteOnce_J191  P σ x1 x2 x3 x5 y0) else ((if x2 = 4 then (vp_in x5 10 ∧ (bnd ((if (mgeta σ 4 x5) = 0 then 0 else y0) : Int32) fun v_2 => bnd (mseta σ 45 x5 ((mgeta σ 45 x5) + v_2)) fun σ_3 => (if 600 ≤ (σ_3.1 43) then (qX11_biteOnce_J287  P σ_3 v_2) else (vp_in (5 * (σ_3.1 43)) 3000 ∧ (bnd (mseta σ_3 48 (5 * (σ_3.1 43)) x1) fun σ_5 => vp_in ((5 * (σ_5.1 43)) + 1) 3000 ∧ (bnd (mseta σ_5 48 ((5 * (σ_5.1 43)) + 1) x5) fun σ_7 => vp_in ((5 * (σ_7.1 43)) + 2) 3000 ∧ (bnd (mseta σ_7 48 ((5 * (σ_7.1 43)) + 2) x2) fun σ_9 => vp_in ((5 * (σ_9.1 43)) + 3) 3000 ∧ (bnd (mseta σ_9 48 ((5 * (σ_9.1 43)) + 3) x3) fun σ_11 => vp_in ((5 * (σ_11.1 43)) + 4) 3000 ∧ (bnd (mseta σ_11 48 ((5 * (σ_11.1 43)) + 4) v_2) fun σ_13 => qX11_biteOnce_J287  P σ_13 v_2))))))))) else (qX11_biteOnce_J191  P σ x1 x2 x3 x5 y0))))
def qX11_biteOnce_J136 (P : MS → Prop) (σ : MS) (x1 : Int32) (x2 : Int32) (x3 : Int32) (y0 : Int32) : Prop := bnd (x3 * (1 + x2)) fun x6_1 => (if 20 ≤ (σ.1 40) then (qX11_biteOnce_J163  P σ x1 x2 x3 y0 x6_1) else (qX11_biteOnce_J163  P σ x1 x2 x3 y0 (x6_1 / 2)))
def qX11_biteOnce_J107 (P : MS → Prop) (σ : MS) (x1 : Int32) (x2 : Int32) (x3 : Int32) (y0 : Int32) : Prop := (if y0 = 0 then (qX11_biteOnce_J136  P σ x1 x2 x3 x1) else (vp_in x1 10 ∧ ((¬ (σ.1 0) = 0) ∧ (vp_in (jrem ((mgeta σ 7 x1) + 1) (σ.1 0)) 10 ∧ (qX11_biteOnce_J136  P σ x1 x2 x3 (mgeta σ 8 (jrem ((mgeta σ 7 x1) + 1) (σ.1 0))))))))
def qX11_biteOnce_J106 (P : MS → Prop) (σ : MS) (x1 : Int32) (x2 : Int32) (x3 : Int32) : Prop := qX11_biteOnce_J107  P σ x1 x2 x3 0
def qX11_biteOnce_J55 (P : MS → Prop) (σ : MS) (x1 : Int32) (x2 : Int32) (y0 : Int32) : Prop := vp_in x2 5 ∧ (bnd (mseta σ 39 x2 ((mgeta σ 39 x2) - y0)) fun σ_2 => vp_in x1 10 ∧ (bnd (mseta σ_2 46 x1 ((mgeta σ_2 46 x1) + 1)) fun σ_4 => (if (mgeta σ_4 1 x1) = 4 then ((¬ (mgeta σ_4 2 x1) = 0) ∧ (bnd ((if (jrem (mgeta σ_4 46 x1) (mgeta σ_4 2 x1)) = 0 then 1 else 0) : Int32) fun v_5 => (if v_5 = 0 then (qX11_biteOnce_J136  P σ_4 x1 x2 y0 x1) else ((¬ (σ_4.1 0) = 0) ∧ (vp_in (jrem ((mgeta σ_4 7 x1) + 1) (σ_4.1 0)) 10 ∧ (qX11_biteOnce_J136  P σ_4 x1 x2 y0 (mgeta σ_4 8 (jrem ((mgeta σ_4 7 x1) + 1) (σ_4.1 0))))))))) else (qX11_biteOnce_J106  P σ_4 x1 x2 y0))))
def qX11_biteOnce_L10 (e25 : MS → Int32 → Int32 → Prop) (P : MS → Prop) : Nat → MS → Int32 → Int32 → Prop
  | 0, _, _, _ => False
  | n + 1, σ, x1, x2 => vp_in x2 5 ∧ ((if (mgeta σ 39 x2) = 0 then (bnd (x2 + 1) fun x2_2 => qX11_biteOnce_L10 e25 P n σ x1 x2_2) else (e25 σ x1 x2)))
def qX11_biteOnce (σ : MS) (x1 : Int32) (P : MS → Prop) : Prop := qX11_soupLeft σ fun r_2 σ_1 => (if r_2 = 0 then (P σ_1) else (∃ f10, qX11_biteOnce_L10 (fun σ_5 x1_3 x2_4 => vp_in x1_3 10 ∧ (vp_in x2_4 5 ∧ ((if (mgeta σ_5 39 x2_4) ≤ (mgeta σ_5 5 x1_3) then (qX11_biteOnce_J55  P σ_5 x1_3 x2_4 (mgeta σ_5 39 x2_4)) else (qX11_biteOnce_J55  P σ_5 x1_3 x2_4 (mgeta σ_5 5 x1_3)))))) P f10 σ_1 x1 0))
def qX11_biteTurn_L71 (P : MS → Prop) : Nat → MS → Int32 → Int32 → Int32 → Prop
  | 0, _, _, _, _ => False
  | n + 1, σ, x1, x3, x4 => (if x3 ≤ x4 then (P σ) else (qX11_biteOnce σ x1 fun σ_1 => bnd (x4 + 1) fun x4_2 => qX11_biteTurn_L71  P n σ_1 x1 x3 x4_2))
def qX11_biteTurn_J41 (P : MS → Prop) (σ : MS) (x1 : Int32) (y0 : Int32) : Prop := bnd ((if y0 = 0 then 0 else 1) : Int32) fun v_1 => bnd ((if x1 = (σ.1 37) then 1 else 0) : Int32) fun v_2 => bnd ((1 + v_1) + v_2) fun x3_3 => ∃ f71, qX11_biteTurn_L71  P f71 σ x1 x3_3 0
def qX11_biteTurn_J40 (P : MS → Prop) (σ : MS) (x1 : Int32) : Prop := qX11_biteTurn_J41  P σ x1 0
def qX11_biteTurn (σ : MS) (x1 : Int32) (P : MS → Prop) : Prop := vp_in x1 10 ∧ (bnd (mseta σ 47 x1 ((mgeta σ 47 x1) + 1)) fun σ_2 => (if (mgeta σ_2 1 x1) = 3 then ((¬ (mgeta σ_2 2 x1) = 0) ∧ (bnd ((if (jrem (mgeta σ_2 47 x1) (mgeta σ_2 2 x1)) = 0 then 1 else 0) : Int32) fun v_3 => bnd ((if v_3 = 0 then 0 else 1) : Int32) fun v_4 => bnd ((if x1 = (σ_2.1 37) then 1 else 0) : Int32) fun v_5 => bnd ((1 + v_4) + v_5) fun x3_6 => ∃ f71, qX11_biteTurn_L71  P f71 σ_2 x1 x3_6 0)) else (qX11_biteTurn_J40  P σ_2 x1)))
def qX11_takeBeats (σ : MS) (x1 : Int32) (P : MS → Prop) : Prop := bnd (mset σ 41 ((σ.1 41) + 1)) fun σ_1 => bnd (mset σ_1 42 ((σ_1.1 42) + x1)) fun σ_2 => bnd ((if x1 ≤ (σ_2.1 40) then ((σ_2.1 40) - x1) else 0) : Int32) fun v_3 => bnd (mset σ_2 40 v_3) fun σ_4 => P σ_4
def qX11_beatsOf_J20 (P : Int32 → MS → Prop) (σ : MS) (x1 : Int32) : Prop := vp_in x1 10 ∧ (P (mgeta σ 2 x1) σ)
def qX11_beatsOf (σ : MS) (x1 : Int32) (P : Int32 → MS → Prop) : Prop := vp_in x1 10 ∧ ((if (mgeta σ 1 x1) = 1 then (qX11_beatsOf_J20  P σ x1) else ((if (mgeta σ 1 x1) = 4 then (qX11_beatsOf_J20  P σ x1) else (P 1 σ)))))
def qX11_goDay_J82 (k6 : MS → Int32 → Int32 → Prop) (P : MS → Prop) (σ : MS) (x2 : Int32) (x3 : Int32) : Prop := qX11_onward σ x3 (σ.1 32) fun r_2 σ_1 => k6 σ_1 x2 r_2
def qX11_goDay_J72 (k6 : MS → Int32 → Int32 → Prop) (P : MS → Prop) (σ : MS) (x2 : Int32) (x3 : Int32) (x4 : Int32) : Prop := qX11_beatsOf σ x4 fun r_2 σ_1 => qX11_takeBeats σ_1 r_2 fun σ_3 => qX11_goDay_J82 k6 P σ_3 x2 x3
def qX11_goDay_J66 (k6 : MS → Int32 → Int32 → Prop) (P : MS → Prop) (σ : MS) (x2 : Int32) (x3 : Int32) (x4 : Int32) : Prop := qX11_biteTurn σ x4 fun σ_1 => qX11_goDay_J72 k6 P σ_1 x2 x3 x4
def qX11_goDay_L6 (P : MS → Prop) : Nat → MS → Int32 → Int32 → Prop
  | 0, _, _, _ => False
  | n + 1, σ, x2, x3 => (if x2 ≤ (σ.1 41) then (P σ) else (qX11_isOver σ fun r_2 σ_1 => (if r_2 = 0 then (vp_in x3 10 ∧ (bnd (mgeta σ_1 8 x3) fun x4_4 => qX11_isSkipped σ_1 x4_4 fun r_6 σ_5 => (if r_6 = 0 then ((if (σ_5.1 33) ≤ 0 then (qX11_goDay_J66 (fun z0 z1 z2 => qX11_goDay_L6  P n z0 z1 z2) P σ_5 x2 x3 x4_4) else ((¬ (σ_5.1 33) = 0) ∧ ((if (jrem ((σ_5.1 41) + 1) (σ_5.1 33)) = 0 then (qX11_stir σ_5 fun σ_7 => qX11_goDay_J72 (fun z0 z1 z2 => qX11_goDay_L6  P n z0 z1 z2) P σ_7 x2 x3 x4_4) else (qX11_goDay_J66 (fun z0 z1 z2 => qX11_goDay_L6  P n z0 z1 z2) P σ_5 x2 x3 x4_4)))))) else (qX11_goDay_J82 (fun z0 z1 z2 => qX11_goDay_L6  P n z0 z1 z2) P σ_5 x2 x3)))) else (P σ_1))))
def qX11_goDay (σ : MS) (x1 : Int32) (x2 : Int32) (P : MS → Prop) : Prop := qX11_beginDay σ fun σ_1 => ∃ f6, qX11_goDay_L6  P f6 σ_1 x2 x1
def qX11_isDay (σ : MS) (x1 : Int32) (x2 : Int32) (P : Int32 → MS → Prop) : Prop := qX11_isVow σ x1 fun r_2 σ_1 => (if r_2 = 0 then (P 0 σ_1) else (qX11_isSeat σ_1 x2 fun r_4 σ_3 => (if r_4 = 0 then (P 0 σ_3) else (P 1 σ_3))))
def qX11_areFasts (σ : MS) (x1 : Int32) (P : Int32 → MS → Prop) : Prop := qX11_within σ x1 0 ((jshl 1 (σ.1 0)) - 1) fun r_2 σ_1 => isB r_2 ∧ (P r_2 σ_1)
def qX11_layDay (σ : MS) (x1 : Int32) (x2 : Int32) (x3 : Int32) (P : MS → Prop) : Prop := qX11_useVow σ x1 fun σ_1 => qX11_useStores σ_1 fun σ_2 => bnd (mset σ_2 36 x3) fun σ_3 => qX11_goDay σ_3 x2 268435456 fun σ_4 => P σ_4
def qX11_dayNow (σ : MS) (x1 : Int32) (P : Int32 → MS → Prop) : Prop := (if x1 = 0 then (P (σ.1 41) σ) else (if x1 = 1 then (P (σ.1 42) σ) else (if x1 = 2 then (qX11_soupLeft σ fun r_2 σ_1 => P r_2 σ_1) else (if x1 = 3 then (P (σ.1 43) σ) else (if x1 = 4 then (P (σ.1 44) σ) else (P (σ.1 40) σ))))))
def qX11_day (σ : MS) (x1 : Int32) (x2 : Int32) (x3 : Int32) (x4 : Int32) (P : Int32 → MS → Prop) : Prop := qX11_isDay σ x1 x2 fun r_2 σ_1 => (if r_2 = 0 then (P (-101) σ_1) else (qX11_areFasts σ_1 x3 fun r_4 σ_3 => (if r_4 = 0 then (P (-102) σ_3) else (qX11_within σ_3 x4 0 5 fun r_6 σ_5 => (if r_6 = 0 then (P (-102) σ_5) else (qX11_layDay σ_5 x1 x2 x3 fun σ_7 => qX11_dayNow σ_7 x4 fun r_9 σ_8 => P r_9 σ_8))))))
def qX11_meal (σ : MS) (x1 : Int32) (x2 : Int32) (x3 : Int32) (x4 : Int32) (P : Int32 → MS → Prop) : Prop := qX11_isDay σ x1 x2 fun r_2 σ_1 => (if r_2 = 0 then (P (-101) σ_1) else (qX11_isHermit σ_1 x4 fun r_4 σ_3 => (if r_4 = 0 then (P (-101) σ_3) else (qX11_areFasts σ_3 x3 fun r_6 σ_5 => (if r_6 = 0 then (P (-102) σ_5) else (qX11_layDay σ_5 x1 x2 x3 fun σ_7 => vp_in x4 10 ∧ (P (mgeta σ_7 45 x4) σ_7)))))))
def qX11_bite (σ : MS) (x1 : Int32) (x2 : Int32) (x3 : Int32) (x4 : Int32) (x5 : Int32) (P : Int32 → MS → Prop) : Prop := qX11_isDay σ x1 x2 fun r_2 σ_1 => (if r_2 = 0 then (P (-101) σ_1) else (qX11_areFasts σ_1 x3 fun r_4 σ_3 => (if r_4 = 0 then (P (-102) σ_3) else (qX11_within σ_3 x4 0 599 fun r_6 σ_5 => (if r_6 = 0 then (P (-102) σ_5) else (qX11_within σ_5 x5 0 4 fun r_8 σ_7 => (if r_8 = 0 then (P (-102) σ_7) else (qX11_layDay σ_7 x1 x2 x3 fun σ_9 => (if (σ_9.1 43) ≤ x4 then (P (-1) σ_9) else (vp_in ((5 * x4) + x5) 3000 ∧ (P (mgeta σ_9 48 ((5 * x4) + x5)) σ_9)))))))))))
def qX11_leastNow_L5 (e53 : MS → Int32 → Prop) (P : Int32 → MS → Prop) : Nat → MS → Int32 → Int32 → Prop
  | 0, _, _, _ => False
  | n + 1, σ, x1, x2 => (if (σ.1 0) ≤ x2 then (e53 σ x1) else (vp_in x2 10 ∧ (bnd ((mgeta σ 45 x2) - (mgeta σ 3 x2)) fun x3_2 => bnd ((if (mgeta σ 38 x2) < 0 then x1 else (if x1 ≤ x3_2 then x1 else x3_2)) : Int32) fun v_3 => bnd (x2 + 1) fun x2_4 => qX11_leastNow_L5 e53 P n σ v_3 x2_4)))
def qX11_leastNow (σ : MS) (P : Int32 → MS → Prop) : Prop := ∃ f5, qX11_leastNow_L5 (fun σ_2 x1_1 => (if x1_1 = 268435456 then (P 0 σ_2) else (P x1_1 σ_2))) P f5 σ 268435456 0
def qX11_leastOf (σ : MS) (x1 : Int32) (x2 : Int32) (P : Int32 → MS → Prop) : Prop := qX11_layDay σ x1 x2 0 fun σ_1 => qX11_leastNow σ_1 fun r_3 σ_2 => P r_3 σ_2
def qX11_least (σ : MS) (x1 : Int32) (x2 : Int32) (P : Int32 → MS → Prop) : Prop := qX11_isDay σ x1 x2 fun r_2 σ_1 => (if r_2 = 0 then (P (-1001) σ_1) else (qX11_leastOf σ_1 x1 x2 fun r_4 σ_3 => P r_4 σ_3))
def qX11_bestStart_L30 (P : Int32 → MS → Prop) : Nat → MS → Int32 → Int32 → Int32 → Int32 → Prop
  | 0, _, _, _, _, _ => False
  | n + 1, σ, x1, x2, x3, x4 => (if (σ.1 0) ≤ x4 then (P x2 σ) else (qX11_leastOf σ x1 x4 fun r_2 σ_1 => bnd ((if r_2 ≤ x3 then x2 else x4) : Int32) fun v_3 => bnd ((if r_2 ≤ x3 then x3 else r_2) : Int32) fun v_4 => bnd (x4 + 1) fun x4_5 => qX11_bestStart_L30  P n σ_1 x1 v_3 v_4 x4_5))
def qX11_bestStart (σ : MS) (x1 : Int32) (P : Int32 → MS → Prop) : Prop := qX11_isVow σ x1 fun r_2 σ_1 => (if r_2 = 0 then (P (-101) σ_1) else ((if (σ_1.1 0) = 0 then (P (-103) σ_1) else (∃ f30, qX11_bestStart_L30  P f30 σ_1 x1 0 (-268435456) 0))))
def qX11_bestSwap_L40 (e115 : MS → Int32 → Int32 → Int32 → Int32 → Int32 → Prop) (P : Int32 → MS → Prop) : Nat → MS → Int32 → Int32 → Int32 → Int32 → Int32 → Int32 → Prop
  | 0, _, _, _, _, _, _, _ => False
  | n + 1, σ, x1, x2, x3, x4, x5, x6 => (if (σ.1 0) ≤ x6 then (e115 σ x1 x2 x3 x4 x5) else (qX11_exchange σ x5 x6 fun σ_1 => qX11_leastOf σ_1 x1 x2 fun r_3 σ_2 => qX11_exchange σ_2 x5 x6 fun σ_4 => bnd ((if r_3 ≤ x4 then x3 else ((16 * x5) + x6)) : Int32) fun v_5 => bnd ((if r_3 ≤ x4 then x4 else r_3) : Int32) fun v_6 => bnd (x6 + 1) fun x6_7 => qX11_bestSwap_L40 e115 P n σ_4 x1 x2 v_5 v_6 x5 x6_7))
def qX11_bestSwap_L25 (P : Int32 → MS → Prop) : Nat → MS → Int32 → Int32 → Int32 → Int32 → Int32 → Prop
  | 0, _, _, _, _, _, _ => False
  | n + 1, σ, x1, x2, x3, x4, x5 => (if (σ.1 0) ≤ x5 then (P x3 σ) else (bnd (x5 + 1) fun x6_1 => ∃ f40, qX11_bestSwap_L40 (fun σ_7 x1_2 x2_3 x3_4 x4_5 x5_6 => bnd (x5_6 + 1) fun x5_8 => qX11_bestSwap_L25  P n σ_7 x1_2 x2_3 x3_4 x4_5 x5_8) P f40 σ x1 x2 x3 x4 x5 x6_1))
def qX11_bestSwap (σ : MS) (x1 : Int32) (x2 : Int32) (P : Int32 → MS → Prop) : Prop := qX11_isDay σ x1 x2 fun r_2 σ_1 => (if r_2 = 0 then (P (-101) σ_1) else (qX11_leastOf σ_1 x1 x2 fun r_4 σ_3 => ∃ f25, qX11_bestSwap_L25  P f25 σ_3 x1 x2 (-1) r_4 0))
def qX11_bestStir_J85 (k22 : MS → Int32 → Int32 → Int32 → Int32 → Int32 → Prop) (P : Int32 → MS → Prop) (σ : MS) (x1 : Int32) (x2 : Int32) (x3 : Int32) (x5 : Int32) (y0 : Int32) : Prop := bnd (x5 + 1) fun x5_1 => k22 σ x1 x2 x3 y0 x5_1
def qX11_bestStir_L22 (P : Int32 → MS → Prop) : Nat → MS → Int32 → Int32 → Int32 → Int32 → Int32 → Prop
  | 0, _, _, _, _, _, _ => False
  | n + 1, σ, x1, x2, x3, x4, x5 => (if 10 ≤ x5 then (P x3 σ) else (qX11_useVow σ x1 fun σ_1 => qX11_useStores σ_1 fun σ_2 => bnd (mset σ_2 33 x5) fun σ_3 => qX11_goDay σ_3 x2 268435456 fun σ_4 => qX11_leastNow σ_4 fun r_6 σ_5 => bnd ((if r_6 ≤ x4 then x3 else x5) : Int32) fun v_7 => qX11_leastNow σ_5 fun r_9 σ_8 => (if r_9 ≤ x4 then (qX11_bestStir_J85 (fun z0 z1 z2 z3 z4 z5 => qX11_bestStir_L22  P n z0 z1 z2 z3 z4 z5) P σ_8 x1 x2 v_7 x5 x4) else (qX11_leastNow σ_8 fun r_11 σ_10 => qX11_bestStir_J85 (fun z0 z1 z2 z3 z4 z5 => qX11_bestStir_L22  P n z0 z1 z2 z3 z4 z5) P σ_10 x1 x2 v_7 x5 r_11))))
def qX11_bestStir (σ : MS) (x1 : Int32) (x2 : Int32) (P : Int32 → MS → Prop) : Prop := qX11_isDay σ x1 x2 fun r_2 σ_1 => (if r_2 = 0 then (P (-101) σ_1) else (∃ f22, qX11_bestStir_L22  P f22 σ_1 x1 x2 0 (-268435456) 0))
def qX11_digestDay_J105 (k4 : MS → Int32 → Int32 → Prop) (P : Int32 → MS → Prop) (σ : MS) (x1 : Int32) (x2 : Int32) : Prop := bnd (x2 + 1) fun x2_1 => k4 σ x1 x2_1
def qX11_digestDay_J85 (k4 : MS → Int32 → Int32 → Prop) (P : Int32 → MS → Prop) (σ : MS) (x1 : Int32) (x2 : Int32) (y0 : Int32) (y1 : Int32) : Prop := vp_in y1 10 ∧ (bnd (mseta σ 38 y1 y0) fun σ_2 => vp_in x2 10 ∧ (bnd ((if 0 ≤ (mgeta σ_2 38 x2) then 0 else (jshl 1 x2)) : Int32) fun v_4 => bnd (x1 ||| v_4) fun x1_5 => qX11_digestDay_J105 k4 P σ_2 x1_5 x2))
def qX11_digestDay_J57 (k4 : MS → Int32 → Int32 → Prop) (P : Int32 → MS → Prop) (σ : MS) (x1 : Int32) (x2 : Int32) (y0 : Int32) : Prop := vp_in x2 10 ∧ ((if (mgeta σ 3 x2) ≤ y0 then (qX11_digestDay_J85 k4 P σ x1 x2 (y0 - (mgeta σ 3 x2)) x2) else (qX11_digestDay_J85 k4 P σ x1 x2 (-1) x2)))
def qX11_digestDay_L4 (P : Int32 → MS → Prop) : Nat → MS → Int32 → Int32 → Prop
  | 0, _, _, _ => False
  | n + 1, σ, x1, x2 => (if (σ.1 0) ≤ x2 then (P x1 σ) else (vp_in x2 10 ∧ ((if (mgeta σ 38 x2) < 0 then (qX11_digestDay_J105 (fun z0 z1 z2 => qX11_digestDay_L4  P n z0 z1 z2) P σ x1 x2) else ((if ((mgeta σ 38 x2) + (mgeta σ 45 x2)) ≤ 99 then (qX11_digestDay_J57 (fun z0 z1 z2 => qX11_digestDay_L4  P n z0 z1 z2) P σ x1 x2 ((mgeta σ 38 x2) + (mgeta σ 45 x2))) else (qX11_digestDay_J57 (fun z0 z1 z2 => qX11_digestDay_L4  P n z0 z1 z2) P σ x1 x2 99)))))))
def qX11_digestDay (σ : MS) (P : Int32 → MS → Prop) : Prop := ∃ f4, qX11_digestDay_L4  P f4 σ 0 0
def qX11_live_L39 (P : Int32 → MS → Prop) : Nat → MS → Int32 → Int32 → Prop
  | 0, _, _, _ => False
  | n + 1, σ, x4, x5 => (if 10 ≤ x5 then (P x4 σ) else (vp_in x5 10 ∧ (bnd (mseta σ 6 x5 (mgeta σ 38 x5)) fun σ_2 => bnd (x5 + 1) fun x5_3 => qX11_live_L39  P n σ_2 x4 x5_3)))
def qX11_live (σ : MS) (x1 : Int32) (x2 : Int32) (x3 : Int32) (P : Int32 → MS → Prop) : Prop := qX11_isDay σ x1 x2 fun r_2 σ_1 => (if r_2 = 0 then (P (-101) σ_1) else (qX11_areFasts σ_1 x3 fun r_4 σ_3 => (if r_4 = 0 then (P (-102) σ_3) else (qX11_layDay σ_3 x1 x2 x3 fun σ_5 => qX11_digestDay σ_5 fun r_7 σ_6 => ∃ f39, qX11_live_L39  P f39 σ_6 r_7 0))))
def qX11_starves_L46 (P : Int32 → MS → Prop) : Nat → MS → Int32 → Int32 → Int32 → Prop
  | 0, _, _, _, _ => False
  | n + 1, σ, x3, x4, x5 => (if 60 < x5 then (P (-1) σ) else (qX11_goDay σ x4 268435456 fun σ_1 => qX11_digestDay σ_1 fun r_3 σ_2 => qX11_has σ_2 r_3 x3 fun r_5 σ_4 => (if r_5 = 0 then (qX11_onward σ_4 x4 (σ_4.1 32) fun r_7 σ_6 => bnd (x5 + 1) fun x5_8 => qX11_starves_L46  P n σ_6 x3 r_7 x5_8) else (P x5 σ_4))))
def qX11_starves (σ : MS) (x1 : Int32) (x2 : Int32) (x3 : Int32) (P : Int32 → MS → Prop) : Prop := qX11_isDay σ x1 x2 fun r_2 σ_1 => (if r_2 = 0 then (P (-101) σ_1) else (qX11_isHermit σ_1 x3 fun r_4 σ_3 => (if r_4 = 0 then (P (-101) σ_3) else (vp_in x3 10 ∧ ((if 0 ≤ (mgeta σ_3 6 x3) then (qX11_useVow σ_3 x1 fun σ_6 => qX11_useStores σ_6 fun σ_7 => ∃ f46, qX11_starves_L46  P f46 σ_7 x3 x2 1) else (P 0 σ_3)))))))
def qX11_sittersFrom_L5 (P : Int32 → MS → Prop) : Nat → MS → Int32 → Int32 → Int32 → Int32 → Prop
  | 0, _, _, _, _, _ => False
  | n + 1, σ, x1, x2, x3, x4 => (if x2 ≤ x4 then (P x3 σ) else ((¬ (σ.1 0) = 0) ∧ (vp_in (jrem (x1 + x4) (σ.1 0)) 10 ∧ (bnd (x3 ||| (jshl 1 (mgeta σ 8 (jrem (x1 + x4) (σ.1 0))))) fun x3_2 => bnd (x4 + 1) fun x4_3 => qX11_sittersFrom_L5  P n σ x1 x2 x3_2 x4_3))))
def qX11_sittersFrom (σ : MS) (x1 : Int32) (x2 : Int32) (P : Int32 → MS → Prop) : Prop := ∃ f5, qX11_sittersFrom_L5  P f5 σ x1 x2 0 0
def qX11_areFed_L18 (P : Int32 → MS → Prop) : Nat → MS → Int32 → Int32 → Int32 → Int32 → Int32 → Prop
  | 0, _, _, _, _, _, _ => False
  | n + 1, σ, x3, x4, x5, x6, x7 => (if x3 ≤ x7 then (isB x6 ∧ (P x6 σ)) else ((if x6 = 0 then (isB x6 ∧ (P x6 σ)) else (qX11_sittersFrom σ (x7 * x4) x4 fun r_2 σ_1 => bnd (mset σ_1 36 r_2) fun σ_3 => qX11_goDay σ_3 x5 268435456 fun σ_4 => qX11_digestDay σ_4 fun r_6 σ_5 => bnd ((if r_6 = 0 then 1 else 0) : Int32) fun v_7 => qX11_onward σ_5 x5 (σ_5.1 32) fun r_9 σ_8 => bnd (x7 + 1) fun x7_10 => qX11_areFed_L18  P n σ_8 x3 x4 r_9 v_7 x7_10))))
def qX11_areFed (σ : MS) (x1 : Int32) (x2 : Int32) (x3 : Int32) (x4 : Int32) (P : Int32 → MS → Prop) : Prop := qX11_useVow σ x1 fun σ_1 => qX11_useStores σ_1 fun σ_2 => ∃ f18, qX11_areFed_L18  P f18 σ_2 x3 x4 x2 1 0
def qX11_fasting_L28 (P : Int32 → MS → Prop) : Nat → MS → Int32 → Int32 → Int32 → Int32 → Prop
  | 0, _, _, _, _, _ => False
  | n + 1, σ, x1, x2, x3, x4 => (if (σ.1 0) ≤ x4 then (P (-1) σ) else (qX11_areFed σ x1 x2 x3 x4 fun r_2 σ_1 => (if r_2 = 0 then (bnd (x4 + 1) fun x4_3 => qX11_fasting_L28  P n σ_1 x1 x2 x3 x4_3) else (P x4 σ_1))))
def qX11_fasting (σ : MS) (x1 : Int32) (x2 : Int32) (x3 : Int32) (P : Int32 → MS → Prop) : Prop := qX11_isDay σ x1 x2 fun r_2 σ_1 => (if r_2 = 0 then (P (-101) σ_1) else (qX11_within σ_1 x3 1 30 fun r_4 σ_3 => (if r_4 = 0 then (P (-102) σ_3) else (∃ f28, qX11_fasting_L28  P f28 σ_3 x1 x2 x3 0))))
def qX11_passSkipped_L2 (P : Int32 → MS → Prop) : Nat → MS → Int32 → Int32 → Prop
  | 0, _, _, _ => False
  | n + 1, σ, x2, x3 => vp_in x3 10 ∧ (qX11_isSkipped σ (mgeta σ 8 x3) fun r_3 σ_2 => (if r_3 = 0 then (P x3 σ_2) else (qX11_onward σ_2 x3 x2 fun r_5 σ_4 => qX11_passSkipped_L2  P n σ_4 x2 r_5)))
def qX11_passSkipped (σ : MS) (x1 : Int32) (x2 : Int32) (P : Int32 → MS → Prop) : Prop := ∃ f2, qX11_passSkipped_L2  P f2 σ x2 x1
def qX11_goSchism_J138 (k49 : MS → Int32 → Int32 → Prop) (P : MS → Prop) (σ : MS) (x2 : Int32) (x3 : Int32) (x4 : Int32) (x5 : Int32) : Prop := qX11_onward σ x5 x4 fun r_2 σ_1 => bnd ((if x4 = 0 then x2 else r_2) : Int32) fun v_3 => bnd ((if x4 = 0 then r_2 else x3) : Int32) fun v_4 => k49 σ_1 v_3 v_4
def qX11_goSchism_L49 (P : MS → Prop) : Nat → MS → Int32 → Int32 → Prop
  | 0, _, _, _ => False
  | n + 1, σ, x2, x3 => qX11_isOver σ fun r_2 σ_1 => (if r_2 = 0 then (bnd ((if (jrem (σ_1.1 41) 2) = 0 then 1 else 0) : Int32) fun v_3 => bnd ((if v_3 = 0 then x3 else x2) : Int32) fun v_4 => qX11_passSkipped σ_1 v_4 v_3 fun r_6 σ_5 => bnd ((if v_3 = 0 then x2 else x3) : Int32) fun v_7 => (if r_6 = v_7 then (qX11_takeBeats σ_5 1 fun σ_14 => qX11_goSchism_J138 (fun z0 z1 z2 => qX11_goSchism_L49  P n z0 z1 z2) P σ_14 x2 x3 v_3 r_6) else (vp_in r_6 10 ∧ (bnd (mgeta σ_5 8 r_6) fun x6_9 => qX11_biteTurn σ_5 x6_9 fun σ_10 => qX11_beatsOf σ_10 x6_9 fun r_12 σ_11 => qX11_takeBeats σ_11 r_12 fun σ_13 => qX11_goSchism_J138 (fun z0 z1 z2 => qX11_goSchism_L49  P n z0 z1 z2) P σ_13 x2 x3 v_3 r_6)))) else (P σ_1))
def qX11_goSchism (σ : MS) (x1 : Int32) (P : MS → Prop) : Prop := bnd (mset σ 33 0) fun σ_1 => bnd (mset σ_1 34 0) fun σ_2 => bnd (mset σ_2 35 0) fun σ_3 => bnd (mset σ_3 36 0) fun σ_4 => bnd (mset σ_4 37 (-1)) fun σ_5 => qX11_useStores σ_5 fun σ_6 => qX11_beginDay σ_6 fun σ_7 => (¬ (σ_7.1 0) = 0) ∧ (bnd (jrem (x1 + ((σ_7.1 0) / 2)) (σ_7.1 0)) fun x3_8 => ∃ f49, qX11_goSchism_L49  P f49 σ_7 x1 x3_8)
def qX11_schism (σ : MS) (x1 : Int32) (x2 : Int32) (P : Int32 → MS → Prop) : Prop := qX11_isSeat σ x1 fun r_2 σ_1 => (if r_2 = 0 then (P (-101) σ_1) else (qX11_within σ_1 x2 0 11 fun r_4 σ_3 => (if r_4 = 0 then (P (-102) σ_3) else (qX11_goSchism σ_3 x1 fun σ_5 => (if x2 = 11 then (qX11_soupLeft σ_5 fun r_8 σ_7 => P r_8 σ_7) else ((if x2 = 10 then (P (σ_5.1 41) σ_5) else ((if (σ_5.1 0) ≤ x2 then (P (-1) σ_5) else (vp_in x2 10 ∧ (P (mgeta σ_5 45 x2) σ_5)))))))))))
def qX11_explains (σ : MS) (x1 : Int32) (x2 : Int32) (x3 : Int32) (x4 : Int32) (x5 : Int32) (P : Int32 → MS → Prop) : Prop := qX11_useVow σ x1 fun σ_1 => qX11_useStores σ_1 fun σ_2 => bnd (mset σ_2 37 x5) fun σ_3 => qX11_goDay σ_3 x2 x3 fun σ_4 => qX11_soupLeft σ_4 fun r_6 σ_5 => (if r_6 = x4 then (P 1 σ_5) else (P 0 σ_5))
def qX11_twice_L62 (P : Int32 → MS → Prop) : Nat → MS → Int32 → Int32 → Int32 → Int32 → Int32 → Int32 → Prop
  | 0, _, _, _, _, _, _, _ => False
  | n + 1, σ, x1, x2, x3, x4, x5, x6 => (if (σ.1 0) ≤ x6 then (P x5 σ) else (qX11_explains σ x1 x2 x3 x4 x6 fun r_2 σ_1 => bnd ((if r_2 = 0 then 0 else (jshl 1 x6)) : Int32) fun v_3 => bnd (x5 ||| v_3) fun x5_4 => bnd (x6 + 1) fun x6_5 => qX11_twice_L62  P n σ_1 x1 x2 x3 x4 x5_4 x6_5))
def qX11_twice (σ : MS) (x1 : Int32) (x2 : Int32) (x3 : Int32) (x4 : Int32) (P : Int32 → MS → Prop) : Prop := qX11_isDay σ x1 x2 fun r_2 σ_1 => (if r_2 = 0 then (P (-101) σ_1) else (qX11_within σ_1 x3 1 60 fun r_4 σ_3 => (if r_4 = 0 then (P (-102) σ_3) else (qX11_within σ_3 x4 0 495 fun r_6 σ_5 => (if r_6 = 0 then (P (-102) σ_5) else (qX11_explains σ_5 x1 x2 x3 x4 (-1) fun r_8 σ_7 => bnd ((if r_8 = 0 then 0 else 1024) : Int32) fun v_9 => ∃ f62, qX11_twice_L62  P f62 σ_7 x1 x2 x3 x4 v_9 0))))))
def qX11_image_L69 (P : Int32 → MS → Prop) : Nat → MS → Int32 → Prop
  | 0, _, _ => False
  | n + 1, σ, x1 => (if 5 ≤ x1 then (P (σ.1 0) σ) else (vp_in x1 5 ∧ (bnd (mseta σ 25 x1 (mgeta σ 9 x1)) fun σ_2 => bnd (x1 + 1) fun x1_3 => qX11_image_L69  P n σ_2 x1_3)))
def qX11_image_L31 (e67 : MS → Prop) (P : Int32 → MS → Prop) : Nat → MS → Int32 → Prop
  | 0, _, _ => False
  | n + 1, σ, x1 => (if 10 ≤ x1 then (e67 σ) else (vp_in x1 10 ∧ (bnd (mseta σ 23 x1 (mgeta σ 6 x1)) fun σ_2 => bnd (mseta σ_2 24 x1 (mgeta σ_2 7 x1)) fun σ_3 => bnd (x1 + 1) fun x1_4 => qX11_image_L31 e67 P n σ_3 x1_4)))
def qX11_image (σ : MS) (P : Int32 → MS → Prop) : Prop := bnd (mset σ 19 1) fun σ_1 => bnd (mset σ_1 20 (σ_1.1 0)) fun σ_2 => bnd (mset σ_2 21 (σ_2.1 10)) fun σ_3 => isB (σ_3.1 11) ∧ (bnd (mset σ_3 22 (σ_3.1 11)) fun σ_4 => ∃ f31, qX11_image_L31 (fun σ_5 => ∃ f69, qX11_image_L69  P f69 σ_5 0) P f31 σ_4 0)
def qX11_restore_L125 (P : Int32 → MS → Prop) : Nat → MS → Int32 → Prop
  | 0, _, _ => False
  | n + 1, σ, x1 => (if 5 ≤ x1 then (P (σ.1 0) σ) else (vp_in x1 5 ∧ (bnd (mseta σ 9 x1 (mgeta σ 25 x1)) fun σ_2 => bnd (x1 + 1) fun x1_3 => qX11_restore_L125  P n σ_2 x1_3)))
def qX11_restore_L97 (e123 : MS → Prop) (P : Int32 → MS → Prop) : Nat → MS → Int32 → Prop
  | 0, _, _ => False
  | n + 1, σ, x1 => (if (σ.1 0) ≤ x1 then (e123 σ) else (vp_in x1 10 ∧ (vp_in (mgeta σ 7 x1) 10 ∧ (bnd (mseta σ 8 (mgeta σ 7 x1) x1) fun σ_3 => bnd (x1 + 1) fun x1_4 => qX11_restore_L97 e123 P n σ_3 x1_4))))
def qX11_restore_J88 (k28 : MS → Int32 → Prop) (e95 : MS → Prop) (P : Int32 → MS → Prop) (σ : MS) (x1 : Int32) (y0 : Int32) (y1 : Int32) : Prop := vp_in y1 10 ∧ (bnd (mseta σ 7 y1 y0) fun σ_2 => bnd (x1 + 1) fun x1_3 => k28 σ_2 x1_3)
def qX11_restore_J64 (k28 : MS → Int32 → Prop) (e95 : MS → Prop) (P : Int32 → MS → Prop) (σ : MS) (x1 : Int32) (y0 : Int32) (y1 : Int32) : Prop := vp_in y1 10 ∧ (bnd (mseta σ 6 y1 y0) fun σ_2 => (if (σ_2.1 20) ≤ x1 then (qX11_restore_J88 k28 e95 P σ_2 x1 x1 x1) else (vp_in x1 10 ∧ (qX11_restore_J88 k28 e95 P σ_2 x1 (mgeta σ_2 24 x1) x1))))
def qX11_restore_L28 (e95 : MS → Prop) (P : Int32 → MS → Prop) : Nat → MS → Int32 → Prop
  | 0, _, _ => False
  | n + 1, σ, x1 => (if (σ.1 0) ≤ x1 then (e95 σ) else ((if (σ.1 20) ≤ x1 then (vp_in x1 10 ∧ (qX11_restore_J64 (fun z0 z1 => qX11_restore_L28 e95 P n z0 z1) e95 P σ x1 (mgeta σ 6 x1) x1)) else (vp_in x1 10 ∧ (qX11_restore_J64 (fun z0 z1 => qX11_restore_L28 e95 P n z0 z1) e95 P σ x1 (mgeta σ 23 x1) x1)))))
def qX11_restore (σ : MS) (P : Int32 → MS → Prop) : Prop := (if (σ.1 19) = 0 then (P (-103) σ) else (bnd (mset σ 10 (σ.1 21)) fun σ_1 => isB (σ_1.1 22) ∧ (bnd (mset σ_1 11 (σ_1.1 22)) fun σ_2 => ∃ f28, qX11_restore_L28 (fun σ_3 => ∃ f97, qX11_restore_L97 (fun σ_4 => ∃ f125, qX11_restore_L125  P f125 σ_4 0) P f97 σ_3 0) P f28 σ_2 0)))
def qX11_soupAll_L4 (P : Int32 → MS → Prop) : Nat → MS → Int32 → Int32 → Prop
  | 0, _, _, _ => False
  | n + 1, σ, x1, x2 => (if 5 ≤ x2 then (P x1 σ) else (vp_in x2 5 ∧ (bnd (x1 + (mgeta σ 9 x2)) fun x1_2 => bnd (x2 + 1) fun x2_3 => qX11_soupAll_L4  P n σ x1_2 x2_3)))
def qX11_soupAll (σ : MS) (P : Int32 → MS → Prop) : Prop := ∃ f4, qX11_soupAll_L4  P f4 σ 0 0
def qX11_starvedMany_L4 (P : Int32 → MS → Prop) : Nat → MS → Int32 → Int32 → Prop
  | 0, _, _, _ => False
  | n + 1, σ, x1, x2 => (if (σ.1 0) ≤ x2 then (P x1 σ) else (vp_in x2 10 ∧ (bnd ((if 0 ≤ (mgeta σ 6 x2) then 0 else 1) : Int32) fun v_2 => bnd (x1 + v_2) fun x1_3 => bnd (x2 + 1) fun x2_4 => qX11_starvedMany_L4  P n σ x1_3 x2_4)))
def qX11_starvedMany (σ : MS) (P : Int32 → MS → Prop) : Prop := ∃ f4, qX11_starvedMany_L4  P f4 σ 0 0
def qX11_howMany (σ : MS) (x1 : Int32) (P : Int32 → MS → Prop) : Prop := (if x1 = 0 then (P (σ.1 0) σ) else (if x1 = 1 then (P (σ.1 12) σ) else (if x1 = 2 then (qX11_soupAll σ fun r_2 σ_1 => P r_2 σ_1) else (if x1 = 3 then (P (σ.1 10) σ) else (if x1 = 4 then ((if (σ.1 11) = 0 then (P 0 σ) else (P 1 σ))) else (if x1 = 5 then (qX11_starvedMany σ fun r_4 σ_3 => P r_4 σ_3) else (if x1 = 6 then (P (σ.1 17) σ) else (P (-102) σ))))))))
def qX11_count (σ : MS) (x1 : Int32) (P : Int32 → MS → Prop) : Prop := qX11_howMany σ x1 fun r_2 σ_1 => P r_2 σ_1
def qX11_mix (σ : MS) (x1 : Int64) (P : MS → Prop) : Prop := bnd (msetl σ ((31 * σ.2.2) + x1)) fun σ_1 => P σ_1
def qX11_mixVow_L40 (e62 : MS → Prop) (P : MS → Prop) : Nat → MS → Int32 → Prop
  | 0, _, _ => False
  | n + 1, σ, x2 => (if 6 ≤ x2 then (e62 σ) else (qX11_dayNow σ x2 fun r_2 σ_1 => qX11_mix σ_1 (Int32.toInt64 r_2) fun σ_3 => bnd (x2 + 1) fun x2_4 => qX11_mixVow_L40 e62 P n σ_3 x2_4))
def qX11_mixVow_L2 (e24 : MS → Int32 → Prop) (P : MS → Prop) : Nat → MS → Int32 → Int32 → Prop
  | 0, _, _, _ => False
  | n + 1, σ, x1, x2 => (if 4 ≤ x2 then (e24 σ x1) else (qX11_vowNow σ x1 x2 fun r_2 σ_1 => qX11_mix σ_1 (Int32.toInt64 r_2) fun σ_3 => bnd (x2 + 1) fun x2_4 => qX11_mixVow_L2 e24 P n σ_3 x1 x2_4))
def qX11_mixVow (σ : MS) (x1 : Int32) (P : MS → Prop) : Prop := ∃ f2, qX11_mixVow_L2 (fun σ_2 x1_1 => (if (σ_2.1 0) ≤ 0 then (P σ_2) else (qX11_layDay σ_2 x1_1 0 0 fun σ_3 => ∃ f40, qX11_mixVow_L40 (fun σ_4 => qX11_leastNow σ_4 fun r_6 σ_5 => qX11_mix σ_5 (Int32.toInt64 r_6) fun σ_7 => P σ_7) P f40 σ_3 0))) P f2 σ x1 0
def qX11_digest_L122 (P : Int64 → MS → Prop) : Nat → MS → Int32 → Prop
  | 0, _, _ => False
  | n + 1, σ, x1 => (if 7 ≤ x1 then (P (σ.2.2) σ) else (qX11_howMany σ x1 fun r_2 σ_1 => qX11_mix σ_1 (Int32.toInt64 r_2) fun σ_3 => bnd (x1 + 1) fun x1_4 => qX11_digest_L122  P n σ_3 x1_4))
def qX11_digest_L95 (e120 : MS → Prop) (P : Int64 → MS → Prop) : Nat → MS → Int32 → Prop
  | 0, _, _ => False
  | n + 1, σ, x1 => (if (σ.1 17) ≤ x1 then (e120 σ) else (vp_in x1 16 ∧ (qX11_mix σ (Int32.toInt64 (mgeta σ 18 x1)) fun σ_2 => bnd (x1 + 1) fun x1_3 => qX11_digest_L95 e120 P n σ_2 x1_3)))
def qX11_digest_L74 (e93 : MS → Prop) (P : Int64 → MS → Prop) : Nat → MS → Int32 → Prop
  | 0, _, _ => False
  | n + 1, σ, x1 => (if (σ.1 12) ≤ x1 then (e93 σ) else (qX11_mixVow σ x1 fun σ_1 => bnd (x1 + 1) fun x1_2 => qX11_digest_L74 e93 P n σ_1 x1_2))
def qX11_digest_L50 (e72 : MS → Prop) (P : Int64 → MS → Prop) : Nat → MS → Int32 → Prop
  | 0, _, _ => False
  | n + 1, σ, x1 => (if 5 ≤ x1 then (e72 σ) else (vp_in x1 5 ∧ (qX11_mix σ (Int32.toInt64 (mgeta σ 9 x1)) fun σ_2 => bnd (x1 + 1) fun x1_3 => qX11_digest_L50 e72 P n σ_2 x1_3)))
def qX11_digest_L19 (e42 : MS → Int32 → Prop) (P : Int64 → MS → Prop) : Nat → MS → Int32 → Int32 → Prop
  | 0, _, _, _ => False
  | n + 1, σ, x1, x2 => (if 7 ≤ x2 then (e42 σ x1) else (qX11_hermitNow σ x1 x2 fun r_2 σ_1 => qX11_mix σ_1 (Int32.toInt64 r_2) fun σ_3 => bnd (x2 + 1) fun x2_4 => qX11_digest_L19 e42 P n σ_3 x1 x2_4))
def qX11_digest_L9 (e48 : MS → Prop) (P : Int64 → MS → Prop) : Nat → MS → Int32 → Prop
  | 0, _, _ => False
  | n + 1, σ, x1 => (if (σ.1 0) ≤ x1 then (e48 σ) else (∃ f19, qX11_digest_L19 (fun σ_2 x1_1 => bnd (x1_1 + 1) fun x1_3 => qX11_digest_L9 e48 P n σ_2 x1_3) P f19 σ x1 0))
def qX11_digest (σ : MS) (P : Int64 → MS → Prop) : Prop := bnd (msetl σ 541) fun σ_1 => ∃ f9, qX11_digest_L9 (fun σ_2 => ∃ f50, qX11_digest_L50 (fun σ_3 => ∃ f74, qX11_digest_L74 (fun σ_4 => ∃ f95, qX11_digest_L95 (fun σ_5 => ∃ f122, qX11_digest_L122  P f122 σ_5 0) P f95 σ_4 0) P f74 σ_3 0) P f50 σ_2 0) P f9 σ_1 0
