/-! the law's loop, over any relation that all calls keep -/
theorem lt_of_sub {L k : Nat} (hL : L ≤ 3584) (hk : 7 * k ≤ 4000) (h : ¬ nI L - 7 < nI (7 * k)) : 7 * k + 7 ≤ L := by
  rcases Nat.lt_or_ge L (7 * k + 7) with q | q
  · refine absurd ?_ h
    rw [Int32.lt_iff_toInt_lt, show (7 : Int32) = nI 7 from rfl, pk_sub_toInt (by omega) (by decide), nI_toInt (by omega)]
    omega
  · exact q
set_option maxHeartbeats 8000000 in
set_option maxRecDepth 100000 in
theorem law_loop {p : Program} {l : Launch} {e : Env} {s : State} {m : MethodId} {below : List Frame} {meth : Method} {c : Code} {b L : Nat} {xs : Nat → Int32} {m0 : Nat} {a : Nat → Nat} {cZ cB : ClassId} {em : Nat} {K : XG → XS → MS → Prop} (hE : LawOK em K) (C : CallFix p m c cL_law 4 s #[Value.ref b] lwg RL) (hr : meth.sig.returnType = ret) (hlocks : meth.locks = false) (hX : va_X b L xs s s.heap) (hbl : b < s.heap.size) (hZ : zst em (ALs s) s s.heap) (hL : L ≤ 3584) :
    ∀ (n k : Nat), L < 7 * (k + n) → 7 * k ≤ L → ∀ (cells slots : Nat), cells + 2 * n ≤ 600000 → slots + 14 * n ≤ 7302250 → ∀ (g : XG) (σ : XS) (μ : MS), K g σ μ → ∀ (H : Heap) (locs : List Loc) (ls : Array Slot), WI g.1 idw (tyL g cZ cB) (ALs s) s (LW g σ m0 a cZ cB μ) H locs → lv_has ls 4 [(0, .ref b), (1, .ref (g.2.1 0)), (2, .ref m0), (3, .int (nI (7 * k)))] → W p l e room_1 s m #[Value.ref b] below meth c H locs cells slots (lw_Z below #[Value.ref b] s) (F0 m 18 ls []) := by
  have hx := C.1
  have hb := C.2.1
  have hbA : ¬ ALs s b := Nat.not_le.mpr hbl
  intro n
  induction n with
  | zero => intro k h1 h2; omega
  | succ n ih =>
    intro k h1 h2 cells slots hc hs g σ μ hK H locs ls hW hl
    refine lv_iload_n hx hb dL_law_18 rfl (lv_at hl 3 rfl) ?_
    refine lv_aload_n hx hb dL_law_19 rfl (lv_at hl 0 rfl) ?_
    refine va_slen hx hb hX hbl hbA hW.2.2.2.1 dL_law_20 ?_
    refine lv_bipush (v := 7) hx hb dL_law_21 (by decide) ?_
    refine lv_isub hx hb dL_law_23 ?_
    refine lv_icmp_gt (tgt := 1166) hx hb dL_law_24 (by decide) (fun _ => ?_) (fun hlt => ?_)
    · refine lv_iconst (v := 1) hx hb dL_law_1166 (by decide) ?_
      refine va_forget (fun q hq => hW.2.2.2.1.2.2 q hq) ?_
      refine W.widen (k := 600000) (n := 7302250) (by omega) (by omega) ?_
      exact lw_ret hx hb hr hlocks dL_law_1167
    have hi : 7 * k + 7 ≤ L := lt_of_sub hL (by omega) hlt
    refine lv_aload_n hx hb dL_law_27 rfl (lv_at hl 0 rfl) ?_
    refine lv_iload_n hx hb dL_law_28 rfl (lv_at hl 3 rfl) ?_
    refine va_sld hx hb hX hbl hbA hW.2.2.2.1 (vp_in_nI (by omega) (by omega)) dL_law_29 ?_
    refine lv_bipush (v := 31) hx hb dL_law_30 (by decide) ?_
    refine lv_iand hx hb dL_law_32 ?_
    have kk : ∀ (g : XG) (σ : XS) (μ : MS) (H : Heap) (locs : List Loc) (cells1 slots1 : Nat), cells1 ≤ cells + 2 → slots1 ≤ slots + 14 → K g σ μ → WI g.1 idw (tyL g cZ cB) (ALs s) s (LW g σ m0 a cZ cB μ) H locs → lv_has ls 4 [(0, .ref b), (1, .ref (g.2.1 0)), (2, .ref m0), (3, .int (nI (7 * k)))] → W p l e room_1 s m #[Value.ref b] below meth c H locs cells1 slots1 (lw_Z below #[Value.ref b] s) (F0 m 1160 ls []) := by
      intro g σ μ H locs cells1 slots1 hc1 hs1 hK hW hl
      refine lv_iinc (v := nI (7 * (k + 1))) (lv' := [(3, .int (nI (7 * (k + 1)))), (0, .ref b), (1, .ref (g.2.1 0)), (2, .ref m0)]) hx hb dL_law_1160 hl (k := 3) rfl (nI_add (7 * k) 7) (by decide) rfl (fun ls hl => ?_)
      refine lv_goto (tgt := 18) hx hb dL_law_1163 (by decide) ?_
      exact ih (k + 1) (by omega) (by omega) cells1 slots1 (by omega) (by omega) g σ μ hK H locs ls hW (lv_sub hl [1, 2, 3, 0] rfl)
    obtain ⟨j, hj, ej⟩ := pk_andE (xs (nI (7 * k)).toNatClampNeg) (m := 31) 5 (by decide)
    rw [ej]
    rcases (show j = 0 ∨ j = 1 ∨ j = 2 ∨ j = 3 ∨ j = 4 ∨ j = 5 ∨ j = 6 ∨ j = 7 ∨ j = 8 ∨ j = 9 ∨ j = 10 ∨ j = 11 ∨ j = 12 ∨ j = 13 ∨ j = 14 ∨ j = 15 ∨ j = 16 ∨ j = 17 ∨ j = 18 ∨ j = 19 ∨ j = 20 ∨ j = 21 ∨ j = 22 ∨ j = 23 ∨ j = 24 ∨ j = 25 ∨ j = 26 ∨ j = 27 ∨ j = 28 ∨ j = 29 ∨ j = 30 ∨ j = 31 by omega) with rfl | rfl | rfl | rfl | rfl | rfl | rfl | rfl | rfl | rfl | rfl | rfl | rfl | rfl | rfl | rfl | rfl | rfl | rfl | rfl | rfl | rfl | rfl | rfl | rfl | rfl | rfl | rfl | rfl | rfl | rfl | rfl
    · refine lv_tableIn (off := 131) (tgt := 164) hx hb dL_law_33 (by decide) (by decide) (by decide) (by decide) ?_
      exact lc_letters C hX hbl hZ hL hi (by omega) (by omega) hW hl (hE.1 g σ μ _ hK) kk
    · refine lv_tableIn (off := 184) (tgt := 217) hx hb dL_law_33 (by decide) (by decide) (by decide) (by decide) ?_
      exact lc_blank C hX hbl hZ hL hi (by omega) (by omega) hW hl (hE.2.1 g σ μ hK) kk
    · refine lv_tableIn (off := 197) (tgt := 230) hx hb dL_law_33 (by decide) (by decide) (by decide) (by decide) ?_
      exact lc_fault C hX hbl hZ hL hi (by omega) (by omega) hW hl (hE.2.2.1 g σ μ hK) kk
    · refine lv_tableIn (off := 210) (tgt := 243) hx hb dL_law_33 (by decide) (by decide) (by decide) (by decide) ?_
      exact lc_vow C hX hbl hZ hL hi (by omega) (by omega) hW hl (hE.2.2.2.1 g σ μ hK) kk
    · refine lv_tableIn (off := 223) (tgt := 256) hx hb dL_law_33 (by decide) (by decide) (by decide) (by decide) ?_
      exact lc_vowTold C hX hbl hZ hL hi (by omega) (by omega) hW hl (hE.2.2.2.2.1 g σ μ _ _ hK) kk
    · refine lv_tableIn (off := 256) (tgt := 289) hx hb dL_law_33 (by decide) (by decide) (by decide) (by decide) ?_
      exact lc_hermit C hX hbl hZ hL hi (by omega) (by omega) hW hl (hE.2.2.2.2.2.1 g σ μ _ _ _ _ _ _ hK) kk
    · refine lv_tableIn (off := 331) (tgt := 364) hx hb dL_law_33 (by decide) (by decide) (by decide) (by decide) ?_
      exact lc_as C hX hbl hZ hL hi (by omega) (by omega) hW hl (hE.2.2.2.2.2.2.1 g σ μ _ _ hK) kk
    · refine lv_tableIn (off := 364) (tgt := 397) hx hb dL_law_33 (by decide) (by decide) (by decide) (by decide) ?_
      exact lc_about C hX hbl hZ hL hi (by omega) (by omega) hW hl (hE.2.2.2.2.2.2.2.1 g σ μ _ _ hK) kk
    · refine lv_tableIn (off := 397) (tgt := 430) hx hb dL_law_33 (by decide) (by decide) (by decide) (by decide) ?_
      exact lc_store C hX hbl hZ hL hi (by omega) (by omega) hW hl (hE.2.2.2.2.2.2.2.2.1 g σ μ _ _ hK) kk
    · refine lv_tableIn (off := 430) (tgt := 463) hx hb dL_law_33 (by decide) (by decide) (by decide) (by decide) ?_
      exact lc_change C hX hbl hZ hL hi (by omega) (by omega) hW hl (hE.2.2.2.2.2.2.2.2.2.1 g σ μ _ _ hK) kk
    · refine lv_tableIn (off := 463) (tgt := 496) hx hb dL_law_33 (by decide) (by decide) (by decide) (by decide) ?_
      exact lc_soup C hX hbl hZ hL hi (by omega) (by omega) hW hl (hE.2.2.2.2.2.2.2.2.2.2.1 g σ μ _ _ hK) kk
    · refine lv_tableIn (off := 496) (tgt := 529) hx hb dL_law_33 (by decide) (by decide) (by decide) (by decide) ?_
      exact lc_heat C hX hbl hZ hL hi (by omega) (by omega) hW hl (hE.2.2.2.2.2.2.2.2.2.2.2.1 g σ μ _ hK) kk
    · refine lv_tableIn (off := 519) (tgt := 552) hx hb dL_law_33 (by decide) (by decide) (by decide) (by decide) ?_
      exact lc_feast C hX hbl hZ hL hi (by omega) (by omega) hW hl (hE.2.2.2.2.2.2.2.2.2.2.2.2.1 g σ μ _ hK (by split <;> simp)) kk
    · refine lv_tableIn (off := 558) (tgt := 591) hx hb dL_law_33 (by decide) (by decide) (by decide) (by decide) ?_
      exact lc_day C hX hbl hZ hL hi (by omega) (by omega) hW hl (hE.2.2.2.2.2.2.2.2.2.2.2.2.2.1 g σ μ _ _ _ _ hK) kk
    · refine lv_tableIn (off := 611) (tgt := 644) hx hb dL_law_33 (by decide) (by decide) (by decide) (by decide) ?_
      exact lc_meal C hX hbl hZ hL hi (by omega) (by omega) hW hl (hE.2.2.2.2.2.2.2.2.2.2.2.2.2.2.1 g σ μ _ _ _ _ hK) kk
    · refine lv_tableIn (off := 664) (tgt := 697) hx hb dL_law_33 (by decide) (by decide) (by decide) (by decide) ?_
      exact lc_bite C hX hbl hZ hL hi (by omega) (by omega) hW hl (hE.2.2.2.2.2.2.2.2.2.2.2.2.2.2.2.1 g σ μ _ _ _ _ _ hK) kk
    · refine lv_tableIn (off := 727) (tgt := 760) hx hb dL_law_33 (by decide) (by decide) (by decide) (by decide) ?_
      exact lc_least C hX hbl hZ hL hi (by omega) (by omega) hW hl (hE.2.2.2.2.2.2.2.2.2.2.2.2.2.2.2.2.1 g σ μ _ _ hK) kk
    · refine lv_tableIn (off := 760) (tgt := 793) hx hb dL_law_33 (by decide) (by decide) (by decide) (by decide) ?_
      exact lc_bestStart C hX hbl hZ hL hi (by omega) (by omega) hW hl (hE.2.2.2.2.2.2.2.2.2.2.2.2.2.2.2.2.2.1 g σ μ _ hK) kk
    · refine lv_tableIn (off := 783) (tgt := 816) hx hb dL_law_33 (by decide) (by decide) (by decide) (by decide) ?_
      exact lc_bestSwap C hX hbl hZ hL hi (by omega) (by omega) hW hl (hE.2.2.2.2.2.2.2.2.2.2.2.2.2.2.2.2.2.2.1 g σ μ _ _ hK) kk
    · refine lv_tableIn (off := 816) (tgt := 849) hx hb dL_law_33 (by decide) (by decide) (by decide) (by decide) ?_
      exact lc_bestStir C hX hbl hZ hL hi (by omega) (by omega) hW hl (hE.2.2.2.2.2.2.2.2.2.2.2.2.2.2.2.2.2.2.2.1 g σ μ _ _ hK) kk
    · refine lv_tableIn (off := 849) (tgt := 882) hx hb dL_law_33 (by decide) (by decide) (by decide) (by decide) ?_
      exact lc_live C hX hbl hZ hL hi (by omega) (by omega) hW hl (hE.2.2.2.2.2.2.2.2.2.2.2.2.2.2.2.2.2.2.2.2.1 g σ μ _ _ _ hK) kk
    · refine lv_tableIn (off := 892) (tgt := 925) hx hb dL_law_33 (by decide) (by decide) (by decide) (by decide) ?_
      exact lc_starves C hX hbl hZ hL hi (by omega) (by omega) hW hl (hE.2.2.2.2.2.2.2.2.2.2.2.2.2.2.2.2.2.2.2.2.2.1 g σ μ _ _ _ hK) kk
    · refine lv_tableIn (off := 935) (tgt := 968) hx hb dL_law_33 (by decide) (by decide) (by decide) (by decide) ?_
      exact lc_fasting C hX hbl hZ hL hi (by omega) (by omega) hW hl (hE.2.2.2.2.2.2.2.2.2.2.2.2.2.2.2.2.2.2.2.2.2.2.1 g σ μ _ _ _ hK) kk
    · refine lv_tableIn (off := 978) (tgt := 1011) hx hb dL_law_33 (by decide) (by decide) (by decide) (by decide) ?_
      exact lc_schism C hX hbl hZ hL hi (by omega) (by omega) hW hl (hE.2.2.2.2.2.2.2.2.2.2.2.2.2.2.2.2.2.2.2.2.2.2.2.1 g σ μ _ _ hK) kk
    · refine lv_tableIn (off := 1011) (tgt := 1044) hx hb dL_law_33 (by decide) (by decide) (by decide) (by decide) ?_
      exact lc_twice C hX hbl hZ hL hi (by omega) (by omega) hW hl (hE.2.2.2.2.2.2.2.2.2.2.2.2.2.2.2.2.2.2.2.2.2.2.2.2.1 g σ μ _ _ _ _ hK) kk
    · refine lv_tableIn (off := 1064) (tgt := 1097) hx hb dL_law_33 (by decide) (by decide) (by decide) (by decide) ?_
      exact lc_image C hX hbl hZ hL hi (by omega) (by omega) hW hl (hE.2.2.2.2.2.2.2.2.2.2.2.2.2.2.2.2.2.2.2.2.2.2.2.2.2.1 g σ μ hK) kk
    · refine lv_tableIn (off := 1077) (tgt := 1110) hx hb dL_law_33 (by decide) (by decide) (by decide) (by decide) ?_
      exact lc_restore C hX hbl hZ hL hi (by omega) (by omega) hW hl (hE.2.2.2.2.2.2.2.2.2.2.2.2.2.2.2.2.2.2.2.2.2.2.2.2.2.2.1 g σ μ hK) kk
    · refine lv_tableIn (off := 1090) (tgt := 1123) hx hb dL_law_33 (by decide) (by decide) (by decide) (by decide) ?_
      exact lc_count C hX hbl hZ hL hi (by omega) (by omega) hW hl (hE.2.2.2.2.2.2.2.2.2.2.2.2.2.2.2.2.2.2.2.2.2.2.2.2.2.2.2.1 g σ μ _ hK) kk
    · refine lv_tableIn (off := 1113) (tgt := 1146) hx hb dL_law_33 (by decide) (by decide) (by decide) (by decide) ?_
      exact lc_digest C hX hbl hZ hL hi (by omega) (by omega) hW hl (hE.2.2.2.2.2.2.2.2.2.2.2.2.2.2.2.2.2.2.2.2.2.2.2.2.2.2.2.2 g σ μ hK) kk
    · refine lv_tableOut (tgt := 1160) hx hb dL_law_33 (by decide) (by decide) ?_
      exact kk g σ μ H locs cells slots (by omega) (by omega) hK hW hl
    · refine lv_tableOut (tgt := 1160) hx hb dL_law_33 (by decide) (by decide) ?_
      exact kk g σ μ H locs cells slots (by omega) (by omega) hK hW hl
    · refine lv_tableOut (tgt := 1160) hx hb dL_law_33 (by decide) (by decide) ?_
      exact kk g σ μ H locs cells slots (by omega) (by omega) hK hW hl
