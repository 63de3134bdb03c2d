/-! the law, case by case -/
theorem lg_cmp_self (x : Int64) : lg_cmp x x = 0 := by unfold lg_cmp; simp
section LAWC
variable {p : Program} {l : Launch} {e : Env} {R : Room} {s : State} {m : MethodId} {args : Array Value} {below : List Frame} {meth : Method} {c : Code} {H : Heap} {locs : List Loc} {cells slots : Nat} {Q : State → Prop}
variable {cc : ByteArray} {pc : Nat} {ls : Array Slot} {rest : List Value} {own : String} {nL : Nat}
variable {b L : Nat} {xs : Nat → Int32} {g : XG} {σ : XS} {μ : MS} {m0 : Nat} {a : Nat → Nat} {cZ cB : ClassId} {em i : Nat}
set_option maxHeartbeats 4000000 in
set_option maxRecDepth 100000 in
theorem lc_letters {K : XG → XS → MS → Prop} (C : CallFix p m c cL_law 4 s #[Value.ref b] lwg RL) (hX : va_X b L xs s s.heap) (hbl : b < s.heap.size) (hZ : zst em (ALs s) s s.heap) (hL : L ≤ 3584) (hi : i + 7 ≤ L) (hc : cells + 2 ≤ 600000) (hs : slots + 14 ≤ 7302250) (hW : WI g.1 idw (tyL g cZ cB) (ALs s) s (LW g σ m0 a cZ cB μ) H locs) (hl : lv_has ls 4 [(0, .ref b), (1, .ref (g.2.1 0)), (2, .ref m0), (3, .int (nI i))]) (hq : qX10_letters g σ (((jlshl (Int32.toInt64 (xs (nI i + 1).toNatClampNeg)) 32) ||| ((Int32.toInt64 (xs (nI i + 2).toNatClampNeg)) &&& 4294967295))) (fun r σ1 => qX11_letters μ (((jlshl (Int32.toInt64 (xs (nI i + 1).toNatClampNeg)) 32) ||| ((Int32.toInt64 (xs (nI i + 2).toNatClampNeg)) &&& 4294967295))) (fun r2 μ1 => r = r2 ∧ K g σ1 μ1)))
    (kk : ∀ (g : XG) (σ : XS) (μ : MS) (H : Heap) (locs : List Loc) (cells1 slots1 : Nat), cells1 ≤ cells + 2 → slots1 ≤ slots + 14 → K g σ μ → WI g.1 idw (tyL g cZ cB) (ALs s) s (LW g σ m0 a cZ cB μ) H locs → lv_has ls 4 [(0, .ref b), (1, .ref (g.2.1 0)), (2, .ref m0), (3, .int (nI i))] → W p l e room_1 s m #[Value.ref b] below meth c H locs cells1 slots1 Q (F0 m 1160 ls [])) : W p l e room_1 s m #[Value.ref b] below meth c H locs cells slots Q (F0 m 164 ls []) := by
  have hx := C.1
  have hb := C.2.1
  have hbA : ¬ ALs s b := Nat.not_le.mpr hbl
  refine lv_aload_n hx hb dL_law_164 rfl (lv_at hl 1 rfl) ?_
  refine lv_aload_n hx hb dL_law_165 rfl (lv_at hl 0 rfl) ?_
  refine lv_iload_n hx hb dL_law_166 rfl (lv_at hl 3 rfl) ?_
  refine lv_iconst (v := 1) hx hb dL_law_167 (by decide) ?_
  refine lv_iadd hx hb dL_law_168 ?_
  refine va_sld hx hb hX hbl hbA hW.2.2.2.1 (lin hi hL 1 (by decide)) dL_law_169 ?_
  refine lv_i2l hx hb dL_law_170 rfl ?_
  refine lv_bipush (v := 32) hx hb dL_law_171 (by decide) ?_
  refine w_lshl hx hb dL_law_173 ?_
  refine lv_aload_n hx hb dL_law_174 rfl (lv_at hl 0 rfl) ?_
  refine lv_iload_n hx hb dL_law_175 rfl (lv_at hl 3 rfl) ?_
  refine lv_iconst (v := 2) hx hb dL_law_176 (by decide) ?_
  refine lv_iadd hx hb dL_law_177 ?_
  refine va_sld hx hb hX hbl hbA hW.2.2.2.1 (lin hi hL 2 (by decide)) dL_law_178 ?_
  refine lv_i2l hx hb dL_law_179 rfl ?_
  refine lv_ldc2 (own := RL) (v := 4294967295) hx hb C.2.2.2.1 (C.2.2.2.2 _ (lwg_at 1353 (by decide +kernel) rfl)) dL_law_180 ?_
  refine lv_land hx hb dL_law_183 ?_
  refine lv_lor hx hb dL_law_184 ?_
  refine kL_X10_letters (wr := mw (gmL g m0 a cZ cB) μ) C hW (xty_in g cZ cB) (by decide) (by decide) hl.1 (Nat.le_of_ble_eq_true rfl) dL_law_185 (show cells ≤ 600000 by omega) (show slots ≤ 7302250 by omega) hq (fun r σ1 H locs hq hW => ?_)
  refine lv_aload_n hx hb dL_law_188 rfl (lv_at hl 2 rfl) ?_
  refine lv_aload_n hx hb dL_law_189 rfl (lv_at hl 0 rfl) ?_
  refine lv_iload_n hx hb dL_law_190 rfl (lv_at hl 3 rfl) ?_
  refine lv_iconst (v := 1) hx hb dL_law_191 (by decide) ?_
  refine lv_iadd hx hb dL_law_192 ?_
  refine va_sld hx hb hX hbl hbA hW.2.2.2.1 (lin hi hL 1 (by decide)) dL_law_193 ?_
  refine lv_i2l hx hb dL_law_194 rfl ?_
  refine lv_bipush (v := 32) hx hb dL_law_195 (by decide) ?_
  refine w_lshl hx hb dL_law_197 ?_
  refine lv_aload_n hx hb dL_law_198 rfl (lv_at hl 0 rfl) ?_
  refine lv_iload_n hx hb dL_law_199 rfl (lv_at hl 3 rfl) ?_
  refine lv_iconst (v := 2) hx hb dL_law_200 (by decide) ?_
  refine lv_iadd hx hb dL_law_201 ?_
  refine va_sld hx hb hX hbl hbA hW.2.2.2.1 (lin hi hL 2 (by decide)) dL_law_202 ?_
  refine lv_i2l hx hb dL_law_203 rfl ?_
  refine lv_ldc2 (own := RL) (v := 4294967295) hx hb C.2.2.2.1 (C.2.2.2.2 _ (lwg_at 1353 (by decide +kernel) rfl)) dL_law_204 ?_
  refine lv_land hx hb dL_law_207 ?_
  refine lv_lor hx hb dL_law_208 ?_
  refine kL_X11_letters (gm := gmL g m0 a cZ cB) (wr := xw g σ1) C (wi_swap hW) (mty_in g m0 a cZ cB) (by decide) (by decide) hl.1 (Nat.le_of_ble_eq_true rfl) dL_law_209 (show cells ≤ 600000 by omega) (show slots ≤ 7302250 by omega) hq (fun r2 μ1 H locs hq hW => ?_)
  replace hW := wi_swap hW
  obtain ⟨rfl, hq⟩ := hq
  exact lv_icmp_eq (tgt := 1160) hx hb dL_law_212 (by decide) (fun _ => kk g _ _ _ _ _ _ (by omega) (by omega) hq hW hl) (fun h => absurd rfl h)
set_option maxHeartbeats 4000000 in
set_option maxRecDepth 100000 in
theorem lc_blank {K : XG → XS → MS → Prop} (C : CallFix p m c cL_law 4 s #[Value.ref b] lwg RL) (hX : va_X b L xs s s.heap) (hbl : b < s.heap.size) (hZ : zst em (ALs s) s s.heap) (hL : L ≤ 3584) (hi : i + 7 ≤ L) (hc : cells + 2 ≤ 600000) (hs : slots + 14 ≤ 7302250) (hW : WI g.1 idw (tyL g cZ cB) (ALs s) s (LW g σ m0 a cZ cB μ) H locs) (hl : lv_has ls 4 [(0, .ref b), (1, .ref (g.2.1 0)), (2, .ref m0), (3, .int (nI i))]) (hq : qX10_blank g σ  (fun r σ1 => qX11_blank μ  (fun r2 μ1 => r = r2 ∧ K g σ1 μ1)))
    (kk : ∀ (g : XG) (σ : XS) (μ : MS) (H : Heap) (locs : List Loc) (cells1 slots1 : Nat), cells1 ≤ cells + 2 → slots1 ≤ slots + 14 → K g σ μ → WI g.1 idw (tyL g cZ cB) (ALs s) s (LW g σ m0 a cZ cB μ) H locs → lv_has ls 4 [(0, .ref b), (1, .ref (g.2.1 0)), (2, .ref m0), (3, .int (nI i))] → W p l e room_1 s m #[Value.ref b] below meth c H locs cells1 slots1 Q (F0 m 1160 ls [])) : W p l e room_1 s m #[Value.ref b] below meth c H locs cells slots Q (F0 m 217 ls []) := by
  have hx := C.1
  have hb := C.2.1
  have hbA : ¬ ALs s b := Nat.not_le.mpr hbl
  refine lv_aload_n hx hb dL_law_217 rfl (lv_at hl 1 rfl) ?_
  refine kL_X10_blank (wr := mw (gmL g m0 a cZ cB) μ) C hW (xty_in g cZ cB) (by decide) (by decide) hl.1 (Nat.le_of_ble_eq_true rfl) dL_law_218 (show cells ≤ 600000 by omega) (show slots ≤ 7302250 by omega) hq (fun r σ1 H locs hq hW => ?_)
  refine lv_aload_n hx hb dL_law_221 rfl (lv_at hl 2 rfl) ?_
  refine kL_X11_blank (gm := gmL g m0 a cZ cB) (wr := xw g σ1) C (wi_swap hW) (mty_in g m0 a cZ cB) (by decide) (by decide) hl.1 (Nat.le_of_ble_eq_true rfl) dL_law_222 (show cells ≤ 600000 by omega) (show slots ≤ 7302250 by omega) hq (fun r2 μ1 H locs hq hW => ?_)
  replace hW := wi_swap hW
  obtain ⟨rfl, hq⟩ := hq
  exact lv_icmp_eq (tgt := 1160) hx hb dL_law_225 (by decide) (fun _ => kk g _ _ _ _ _ _ (by omega) (by omega) hq hW hl) (fun h => absurd rfl h)
set_option maxHeartbeats 4000000 in
set_option maxRecDepth 100000 in
theorem lc_fault {K : XG → XS → MS → Prop} (C : CallFix p m c cL_law 4 s #[Value.ref b] lwg RL) (hX : va_X b L xs s s.heap) (hbl : b < s.heap.size) (hZ : zst em (ALs s) s s.heap) (hL : L ≤ 3584) (hi : i + 7 ≤ L) (hc : cells + 2 ≤ 600000) (hs : slots + 14 ≤ 7302250) (hW : WI g.1 idw (tyL g cZ cB) (ALs s) s (LW g σ m0 a cZ cB μ) H locs) (hl : lv_has ls 4 [(0, .ref b), (1, .ref (g.2.1 0)), (2, .ref m0), (3, .int (nI i))]) (hq : qX10_fault g σ  (fun r σ1 => qX11_fault μ  (fun r2 μ1 => r = r2 ∧ K g σ1 μ1)))
    (kk : ∀ (g : XG) (σ : XS) (μ : MS) (H : Heap) (locs : List Loc) (cells1 slots1 : Nat), cells1 ≤ cells + 2 → slots1 ≤ slots + 14 → K g σ μ → WI g.1 idw (tyL g cZ cB) (ALs s) s (LW g σ m0 a cZ cB μ) H locs → lv_has ls 4 [(0, .ref b), (1, .ref (g.2.1 0)), (2, .ref m0), (3, .int (nI i))] → W p l e room_1 s m #[Value.ref b] below meth c H locs cells1 slots1 Q (F0 m 1160 ls [])) : W p l e room_1 s m #[Value.ref b] below meth c H locs cells slots Q (F0 m 230 ls []) := by
  have hx := C.1
  have hb := C.2.1
  have hbA : ¬ ALs s b := Nat.not_le.mpr hbl
  refine lv_aload_n hx hb dL_law_230 rfl (lv_at hl 1 rfl) ?_
  refine kL_X10_fault (wr := mw (gmL g m0 a cZ cB) μ) C hW (xty_in g cZ cB) (by decide) (by decide) hl.1 (Nat.le_of_ble_eq_true rfl) dL_law_231 (show cells ≤ 600000 by omega) (show slots ≤ 7302250 by omega) hq (fun r σ1 H locs hq hW => ?_)
  refine lv_aload_n hx hb dL_law_234 rfl (lv_at hl 2 rfl) ?_
  refine kL_X11_fault (gm := gmL g m0 a cZ cB) (wr := xw g σ1) C (wi_swap hW) (mty_in g m0 a cZ cB) (by decide) (by decide) hl.1 (Nat.le_of_ble_eq_true rfl) dL_law_235 (show cells ≤ 600000 by omega) (show slots ≤ 7302250 by omega) hq (fun r2 μ1 H locs hq hW => ?_)
  replace hW := wi_swap hW
  obtain ⟨rfl, hq⟩ := hq
  exact lv_icmp_eq (tgt := 1160) hx hb dL_law_238 (by decide) (fun _ => kk g _ _ _ _ _ _ (by omega) (by omega) hq hW hl) (fun h => absurd rfl h)
set_option maxHeartbeats 4000000 in
set_option maxRecDepth 100000 in
theorem lc_vow {K : XG → XS → MS → Prop} (C : CallFix p m c cL_law 4 s #[Value.ref b] lwg RL) (hX : va_X b L xs s s.heap) (hbl : b < s.heap.size) (hZ : zst em (ALs s) s s.heap) (hL : L ≤ 3584) (hi : i + 7 ≤ L) (hc : cells + 2 ≤ 600000) (hs : slots + 14 ≤ 7302250) (hW : WI g.1 idw (tyL g cZ cB) (ALs s) s (LW g σ m0 a cZ cB μ) H locs) (hl : lv_has ls 4 [(0, .ref b), (1, .ref (g.2.1 0)), (2, .ref m0), (3, .int (nI i))]) (hq : qX10_vow g (fun τ => (nV g = 0 → g.2.2.2.2.2.2.2.1 = em) ∧ isB (xP τ 4) ∧ isB (xP τ 6) ∧ ∃ (hlt : nV g < 10), ∀ q ed, (fun (r : Int32) (ξ : XG × XS) => sameG g ξ.1 ∧ qX11_vow μ (fun r2 μ1 => r = r2 ∧ K ξ.1 ξ.2 μ1)) (nI (nV g)) (addV g ed (q, xP τ 4, xP τ 5, xP τ 6, xP τ 7) hlt, xsP τ 1 0)) σ (fun r τ => (fun (r : Int32) (ξ : XG × XS) => sameG g ξ.1 ∧ qX11_vow μ (fun r2 μ1 => r = r2 ∧ K ξ.1 ξ.2 μ1)) r (g, τ)))
    (kk : ∀ (g : XG) (σ : XS) (μ : MS) (H : Heap) (locs : List Loc) (cells1 slots1 : Nat), cells1 ≤ cells + 2 → slots1 ≤ slots + 14 → K g σ μ → WI g.1 idw (tyL g cZ cB) (ALs s) s (LW g σ m0 a cZ cB μ) H locs → lv_has ls 4 [(0, .ref b), (1, .ref (g.2.1 0)), (2, .ref m0), (3, .int (nI i))] → W p l e room_1 s m #[Value.ref b] below meth c H locs cells1 slots1 Q (F0 m 1160 ls [])) : W p l e room_1 s m #[Value.ref b] below meth c H locs cells slots Q (F0 m 243 ls []) := by
  have hx := C.1
  have hb := C.2.1
  have hbA : ¬ ALs s b := Nat.not_le.mpr hbl
  refine lv_aload_n hx hb dL_law_243 rfl (lv_at hl 1 rfl) ?_
  refine kL_X10_vow (P := fun (r : Int32) (ξ : XG × XS) => sameG g ξ.1 ∧ qX11_vow μ  (fun r2 μ1 => r = r2 ∧ K ξ.1 ξ.2 μ1)) (wr := mw (gmL g m0 a cZ cB) μ) C hZ hW (xty_in g cZ cB) (by decide) (by decide) hl.1 (Nat.le_of_ble_eq_true rfl) dL_law_244 (show cells + 2 ≤ 600000 from hc) (show slots + 14 ≤ 7302250 from hs) hq (fun r ξ H locs hq hW => ?_)
  obtain ⟨g1, σ1⟩ := ξ
  obtain ⟨⟨e1, e2, e3, e4, e5⟩, hq⟩ := hq
  dsimp only at e1 e2 e3 e4 e5 hq
  have hW : WI g1.1 idw (tyL g1 cZ cB) (ALs s) s (LW g1 σ1 m0 a cZ cB μ) H locs := by show WI g1.1 idw [(g1.2.2.1, .int), (cZ, .boolean), (cB, .byte), (g1.2.2.2.1, .array .int), (g1.2.2.2.2.1, .object "java/lang/Object")] (ALs s) s (mw (g1.1, m0, a, g1.2.2.1, cZ, cB) μ ++ xw g1 σ1) H locs; rw [e1, e3, e4, e5]; exact hW
  have hl : lv_has ls 4 [(0, .ref b), (1, .ref (g1.2.1 0)), (2, .ref m0), (3, .int (nI i))] := by rw [e2]; exact hl
  refine lv_aload_n hx hb dL_law_247 rfl (lv_at hl 2 rfl) ?_
  refine kL_X11_vow (gm := gmL g1 m0 a cZ cB) (wr := xw g1 σ1) C (wi_swap hW) (mty_in g1 m0 a cZ cB) (by decide) (by decide) hl.1 (Nat.le_of_ble_eq_true rfl) dL_law_248 (show cells + 2 ≤ 600000 by omega) (show slots + 14 ≤ 7302250 by omega) hq (fun r2 μ1 H locs hq hW => ?_)
  replace hW := wi_swap hW
  obtain ⟨rfl, hq⟩ := hq
  exact lv_icmp_eq (tgt := 1160) hx hb dL_law_251 (by decide) (fun _ => kk g1 _ _ _ _ _ _ (by omega) (by omega) hq hW hl) (fun h => absurd rfl h)
set_option maxHeartbeats 4000000 in
set_option maxRecDepth 100000 in
theorem lc_vowTold {K : XG → XS → MS → Prop} (C : CallFix p m c cL_law 4 s #[Value.ref b] lwg RL) (hX : va_X b L xs s s.heap) (hbl : b < s.heap.size) (hZ : zst em (ALs s) s s.heap) (hL : L ≤ 3584) (hi : i + 7 ≤ L) (hc : cells + 2 ≤ 600000) (hs : slots + 14 ≤ 7302250) (hW : WI g.1 idw (tyL g cZ cB) (ALs s) s (LW g σ m0 a cZ cB μ) H locs) (hl : lv_has ls 4 [(0, .ref b), (1, .ref (g.2.1 0)), (2, .ref m0), (3, .int (nI i))]) (hq : qX10_vowTold g σ ((xs (nI i + 1).toNatClampNeg)) ((xs (nI i + 2).toNatClampNeg)) (fun r σ1 => qX11_vowTold μ ((xs (nI i + 1).toNatClampNeg)) ((xs (nI i + 2).toNatClampNeg)) (fun r2 μ1 => r = r2 ∧ K g σ1 μ1)))
    (kk : ∀ (g : XG) (σ : XS) (μ : MS) (H : Heap) (locs : List Loc) (cells1 slots1 : Nat), cells1 ≤ cells + 2 → slots1 ≤ slots + 14 → K g σ μ → WI g.1 idw (tyL g cZ cB) (ALs s) s (LW g σ m0 a cZ cB μ) H locs → lv_has ls 4 [(0, .ref b), (1, .ref (g.2.1 0)), (2, .ref m0), (3, .int (nI i))] → W p l e room_1 s m #[Value.ref b] below meth c H locs cells1 slots1 Q (F0 m 1160 ls [])) : W p l e room_1 s m #[Value.ref b] below meth c H locs cells slots Q (F0 m 256 ls []) := by
  have hx := C.1
  have hb := C.2.1
  have hbA : ¬ ALs s b := Nat.not_le.mpr hbl
  refine lv_aload_n hx hb dL_law_256 rfl (lv_at hl 1 rfl) ?_
  refine lv_aload_n hx hb dL_law_257 rfl (lv_at hl 0 rfl) ?_
  refine lv_iload_n hx hb dL_law_258 rfl (lv_at hl 3 rfl) ?_
  refine lv_iconst (v := 1) hx hb dL_law_259 (by decide) ?_
  refine lv_iadd hx hb dL_law_260 ?_
  refine va_sld hx hb hX hbl hbA hW.2.2.2.1 (lin hi hL 1 (by decide)) dL_law_261 ?_
  refine lv_aload_n hx hb dL_law_262 rfl (lv_at hl 0 rfl) ?_
  refine lv_iload_n hx hb dL_law_263 rfl (lv_at hl 3 rfl) ?_
  refine lv_iconst (v := 2) hx hb dL_law_264 (by decide) ?_
  refine lv_iadd hx hb dL_law_265 ?_
  refine va_sld hx hb hX hbl hbA hW.2.2.2.1 (lin hi hL 2 (by decide)) dL_law_266 ?_
  refine kL_X10_vowTold (wr := mw (gmL g m0 a cZ cB) μ) C hW (xty_in g cZ cB) (by decide) (by decide) hl.1 (Nat.le_of_ble_eq_true rfl) dL_law_267 (show cells ≤ 600000 by omega) (show slots ≤ 7302250 by omega) hq (fun r σ1 H locs hq hW => ?_)
  refine lv_aload_n hx hb dL_law_270 rfl (lv_at hl 2 rfl) ?_
  refine lv_aload_n hx hb dL_law_271 rfl (lv_at hl 0 rfl) ?_
  refine lv_iload_n hx hb dL_law_272 rfl (lv_at hl 3 rfl) ?_
  refine lv_iconst (v := 1) hx hb dL_law_273 (by decide) ?_
  refine lv_iadd hx hb dL_law_274 ?_
  refine va_sld hx hb hX hbl hbA hW.2.2.2.1 (lin hi hL 1 (by decide)) dL_law_275 ?_
  refine lv_aload_n hx hb dL_law_276 rfl (lv_at hl 0 rfl) ?_
  refine lv_iload_n hx hb dL_law_277 rfl (lv_at hl 3 rfl) ?_
  refine lv_iconst (v := 2) hx hb dL_law_278 (by decide) ?_
  refine lv_iadd hx hb dL_law_279 ?_
  refine va_sld hx hb hX hbl hbA hW.2.2.2.1 (lin hi hL 2 (by decide)) dL_law_280 ?_
  refine kL_X11_vowTold (gm := gmL g m0 a cZ cB) (wr := xw g σ1) C (wi_swap hW) (mty_in g m0 a cZ cB) (by decide) (by decide) hl.1 (Nat.le_of_ble_eq_true rfl) dL_law_281 (show cells ≤ 600000 by omega) (show slots ≤ 7302250 by omega) hq (fun r2 μ1 H locs hq hW => ?_)
  replace hW := wi_swap hW
  obtain ⟨rfl, hq⟩ := hq
  exact lv_icmp_eq (tgt := 1160) hx hb dL_law_284 (by decide) (fun _ => kk g _ _ _ _ _ _ (by omega) (by omega) hq hW hl) (fun h => absurd rfl h)
set_option maxHeartbeats 4000000 in
set_option maxRecDepth 100000 in
theorem lc_hermit {K : XG → XS → MS → Prop} (C : CallFix p m c cL_law 4 s #[Value.ref b] lwg RL) (hX : va_X b L xs s s.heap) (hbl : b < s.heap.size) (hZ : zst em (ALs s) s s.heap) (hL : L ≤ 3584) (hi : i + 7 ≤ L) (hc : cells + 2 ≤ 600000) (hs : slots + 14 ≤ 7302250) (hW : WI g.1 idw (tyL g cZ cB) (ALs s) s (LW g σ m0 a cZ cB μ) H locs) (hl : lv_has ls 4 [(0, .ref b), (1, .ref (g.2.1 0)), (2, .ref m0), (3, .int (nI i))]) (hq : qX10_hermit g (fun τ y1 y2 y3 y4 y5 y6 y7 => (nH g = 0 → g.2.2.2.2.2.1.2.1 = em) ∧ ∃ (hlt : nH g < 10) (kd : Fin 5), y1 = nI kd.val ∧ y7 = nI (nH g) ∧ ∀ q ed, (fun (r : Int32) (ξ : XG × XS) => sameG g ξ.1 ∧ qX11_hermit μ ((xs (nI i + 1).toNatClampNeg)) ((xs (nI i + 2).toNatClampNeg)) ((xs (nI i + 3).toNatClampNeg)) ((xs (nI i + 4).toNatClampNeg)) ((xs (nI i + 5).toNatClampNeg)) ((xs (nI i + 6).toNatClampNeg)) (fun r2 μ1 => r = r2 ∧ K ξ.1 ξ.2 μ1)) (nI (nH g)) (addH g ed (hrec q kd y2 y3 y4 y5) hlt, xsTB τ 0 0 (nI (nH g)) y6)) σ ((xs (nI i + 1).toNatClampNeg)) ((xs (nI i + 2).toNatClampNeg)) ((xs (nI i + 3).toNatClampNeg)) ((xs (nI i + 4).toNatClampNeg)) ((xs (nI i + 5).toNatClampNeg)) ((xs (nI i + 6).toNatClampNeg)) (fun r τ => (fun (r : Int32) (ξ : XG × XS) => sameG g ξ.1 ∧ qX11_hermit μ ((xs (nI i + 1).toNatClampNeg)) ((xs (nI i + 2).toNatClampNeg)) ((xs (nI i + 3).toNatClampNeg)) ((xs (nI i + 4).toNatClampNeg)) ((xs (nI i + 5).toNatClampNeg)) ((xs (nI i + 6).toNatClampNeg)) (fun r2 μ1 => r = r2 ∧ K ξ.1 ξ.2 μ1)) r (g, τ)))
    (kk : ∀ (g : XG) (σ : XS) (μ : MS) (H : Heap) (locs : List Loc) (cells1 slots1 : Nat), cells1 ≤ cells + 2 → slots1 ≤ slots + 14 → K g σ μ → WI g.1 idw (tyL g cZ cB) (ALs s) s (LW g σ m0 a cZ cB μ) H locs → lv_has ls 4 [(0, .ref b), (1, .ref (g.2.1 0)), (2, .ref m0), (3, .int (nI i))] → W p l e room_1 s m #[Value.ref b] below meth c H locs cells1 slots1 Q (F0 m 1160 ls [])) : W p l e room_1 s m #[Value.ref b] below meth c H locs cells slots Q (F0 m 289 ls []) := by
  have hx := C.1
  have hb := C.2.1
  have hbA : ¬ ALs s b := Nat.not_le.mpr hbl
  refine lv_aload_n hx hb dL_law_289 rfl (lv_at hl 1 rfl) ?_
  refine lv_aload_n hx hb dL_law_290 rfl (lv_at hl 0 rfl) ?_
  refine lv_iload_n hx hb dL_law_291 rfl (lv_at hl 3 rfl) ?_
  refine lv_iconst (v := 1) hx hb dL_law_292 (by decide) ?_
  refine lv_iadd hx hb dL_law_293 ?_
  refine va_sld hx hb hX hbl hbA hW.2.2.2.1 (lin hi hL 1 (by decide)) dL_law_294 ?_
  refine lv_aload_n hx hb dL_law_295 rfl (lv_at hl 0 rfl) ?_
  refine lv_iload_n hx hb dL_law_296 rfl (lv_at hl 3 rfl) ?_
  refine lv_iconst (v := 2) hx hb dL_law_297 (by decide) ?_
  refine lv_iadd hx hb dL_law_298 ?_
  refine va_sld hx hb hX hbl hbA hW.2.2.2.1 (lin hi hL 2 (by decide)) dL_law_299 ?_
  refine lv_aload_n hx hb dL_law_300 rfl (lv_at hl 0 rfl) ?_
  refine lv_iload_n hx hb dL_law_301 rfl (lv_at hl 3 rfl) ?_
  refine lv_iconst (v := 3) hx hb dL_law_302 (by decide) ?_
  refine lv_iadd hx hb dL_law_303 ?_
  refine va_sld hx hb hX hbl hbA hW.2.2.2.1 (lin hi hL 3 (by decide)) dL_law_304 ?_
  refine lv_aload_n hx hb dL_law_305 rfl (lv_at hl 0 rfl) ?_
  refine lv_iload_n hx hb dL_law_306 rfl (lv_at hl 3 rfl) ?_
  refine lv_iconst (v := 4) hx hb dL_law_307 (by decide) ?_
  refine lv_iadd hx hb dL_law_308 ?_
  refine va_sld hx hb hX hbl hbA hW.2.2.2.1 (lin hi hL 4 (by decide)) dL_law_309 ?_
  refine lv_aload_n hx hb dL_law_310 rfl (lv_at hl 0 rfl) ?_
  refine lv_iload_n hx hb dL_law_311 rfl (lv_at hl 3 rfl) ?_
  refine lv_iconst (v := 5) hx hb dL_law_312 (by decide) ?_
  refine lv_iadd hx hb dL_law_313 ?_
  refine va_sld hx hb hX hbl hbA hW.2.2.2.1 (lin hi hL 5 (by decide)) dL_law_314 ?_
  refine lv_aload_n hx hb dL_law_315 rfl (lv_at hl 0 rfl) ?_
  refine lv_iload_n hx hb dL_law_316 rfl (lv_at hl 3 rfl) ?_
  refine lv_bipush (v := 6) hx hb dL_law_317 (by decide) ?_
  refine lv_iadd hx hb dL_law_319 ?_
  refine va_sld hx hb hX hbl hbA hW.2.2.2.1 (lin hi hL 6 (by decide)) dL_law_320 ?_
  refine kL_X10_hermit (P := fun (r : Int32) (ξ : XG × XS) => sameG g ξ.1 ∧ qX11_hermit μ ((xs (nI i + 1).toNatClampNeg)) ((xs (nI i + 2).toNatClampNeg)) ((xs (nI i + 3).toNatClampNeg)) ((xs (nI i + 4).toNatClampNeg)) ((xs (nI i + 5).toNatClampNeg)) ((xs (nI i + 6).toNatClampNeg)) (fun r2 μ1 => r = r2 ∧ K ξ.1 ξ.2 μ1)) (wr := mw (gmL g m0 a cZ cB) μ) C hZ hW (xty_in g cZ cB) (by decide) (by decide) hl.1 (Nat.le_of_ble_eq_true rfl) dL_law_321 (show cells + 2 ≤ 600000 from hc) (show slots + 14 ≤ 7302250 from hs) hq (fun r ξ H locs hq hW => ?_)
  obtain ⟨g1, σ1⟩ := ξ
  obtain ⟨⟨e1, e2, e3, e4, e5⟩, hq⟩ := hq
  dsimp only at e1 e2 e3 e4 e5 hq
  have hW : WI g1.1 idw (tyL g1 cZ cB) (ALs s) s (LW g1 σ1 m0 a cZ cB μ) H locs := by show WI g1.1 idw [(g1.2.2.1, .int), (cZ, .boolean), (cB, .byte), (g1.2.2.2.1, .array .int), (g1.2.2.2.2.1, .object "java/lang/Object")] (ALs s) s (mw (g1.1, m0, a, g1.2.2.1, cZ, cB) μ ++ xw g1 σ1) H locs; rw [e1, e3, e4, e5]; exact hW
  have hl : lv_has ls 4 [(0, .ref b), (1, .ref (g1.2.1 0)), (2, .ref m0), (3, .int (nI i))] := by rw [e2]; exact hl
  refine lv_aload_n hx hb dL_law_324 rfl (lv_at hl 2 rfl) ?_
  refine lv_aload_n hx hb dL_law_325 rfl (lv_at hl 0 rfl) ?_
  refine lv_iload_n hx hb dL_law_326 rfl (lv_at hl 3 rfl) ?_
  refine lv_iconst (v := 1) hx hb dL_law_327 (by decide) ?_
  refine lv_iadd hx hb dL_law_328 ?_
  refine va_sld hx hb hX hbl hbA hW.2.2.2.1 (lin hi hL 1 (by decide)) dL_law_329 ?_
  refine lv_aload_n hx hb dL_law_330 rfl (lv_at hl 0 rfl) ?_
  refine lv_iload_n hx hb dL_law_331 rfl (lv_at hl 3 rfl) ?_
  refine lv_iconst (v := 2) hx hb dL_law_332 (by decide) ?_
  refine lv_iadd hx hb dL_law_333 ?_
  refine va_sld hx hb hX hbl hbA hW.2.2.2.1 (lin hi hL 2 (by decide)) dL_law_334 ?_
  refine lv_aload_n hx hb dL_law_335 rfl (lv_at hl 0 rfl) ?_
  refine lv_iload_n hx hb dL_law_336 rfl (lv_at hl 3 rfl) ?_
  refine lv_iconst (v := 3) hx hb dL_law_337 (by decide) ?_
  refine lv_iadd hx hb dL_law_338 ?_
  refine va_sld hx hb hX hbl hbA hW.2.2.2.1 (lin hi hL 3 (by decide)) dL_law_339 ?_
  refine lv_aload_n hx hb dL_law_340 rfl (lv_at hl 0 rfl) ?_
  refine lv_iload_n hx hb dL_law_341 rfl (lv_at hl 3 rfl) ?_
  refine lv_iconst (v := 4) hx hb dL_law_342 (by decide) ?_
  refine lv_iadd hx hb dL_law_343 ?_
  refine va_sld hx hb hX hbl hbA hW.2.2.2.1 (lin hi hL 4 (by decide)) dL_law_344 ?_
  refine lv_aload_n hx hb dL_law_345 rfl (lv_at hl 0 rfl) ?_
  refine lv_iload_n hx hb dL_law_346 rfl (lv_at hl 3 rfl) ?_
  refine lv_iconst (v := 5) hx hb dL_law_347 (by decide) ?_
  refine lv_iadd hx hb dL_law_348 ?_
  refine va_sld hx hb hX hbl hbA hW.2.2.2.1 (lin hi hL 5 (by decide)) dL_law_349 ?_
  refine lv_aload_n hx hb dL_law_350 rfl (lv_at hl 0 rfl) ?_
  refine lv_iload_n hx hb dL_law_351 rfl (lv_at hl 3 rfl) ?_
  refine lv_bipush (v := 6) hx hb dL_law_352 (by decide) ?_
  refine lv_iadd hx hb dL_law_354 ?_
  refine va_sld hx hb hX hbl hbA hW.2.2.2.1 (lin hi hL 6 (by decide)) dL_law_355 ?_
  refine kL_X11_hermit (gm := gmL g1 m0 a cZ cB) (wr := xw g1 σ1) C (wi_swap hW) (mty_in g1 m0 a cZ cB) (by decide) (by decide) hl.1 (Nat.le_of_ble_eq_true rfl) dL_law_356 (show cells + 2 ≤ 600000 by omega) (show slots + 14 ≤ 7302250 by omega) hq (fun r2 μ1 H locs hq hW => ?_)
  replace hW := wi_swap hW
  obtain ⟨rfl, hq⟩ := hq
  exact lv_icmp_eq (tgt := 1160) hx hb dL_law_359 (by decide) (fun _ => kk g1 _ _ _ _ _ _ (by omega) (by omega) hq hW hl) (fun h => absurd rfl h)
set_option maxHeartbeats 4000000 in
set_option maxRecDepth 100000 in
theorem lc_as {K : XG → XS → MS → Prop} (C : CallFix p m c cL_law 4 s #[Value.ref b] lwg RL) (hX : va_X b L xs s s.heap) (hbl : b < s.heap.size) (hZ : zst em (ALs s) s s.heap) (hL : L ≤ 3584) (hi : i + 7 ≤ L) (hc : cells + 2 ≤ 600000) (hs : slots + 14 ≤ 7302250) (hW : WI g.1 idw (tyL g cZ cB) (ALs s) s (LW g σ m0 a cZ cB μ) H locs) (hl : lv_has ls 4 [(0, .ref b), (1, .ref (g.2.1 0)), (2, .ref m0), (3, .int (nI i))]) (hq : qX10_as g σ ((xs (nI i + 1).toNatClampNeg)) ((xs (nI i + 2).toNatClampNeg)) (fun r σ1 => qX11_as μ ((xs (nI i + 1).toNatClampNeg)) ((xs (nI i + 2).toNatClampNeg)) (fun r2 μ1 => r = r2 ∧ K g σ1 μ1)))
    (kk : ∀ (g : XG) (σ : XS) (μ : MS) (H : Heap) (locs : List Loc) (cells1 slots1 : Nat), cells1 ≤ cells + 2 → slots1 ≤ slots + 14 → K g σ μ → WI g.1 idw (tyL g cZ cB) (ALs s) s (LW g σ m0 a cZ cB μ) H locs → lv_has ls 4 [(0, .ref b), (1, .ref (g.2.1 0)), (2, .ref m0), (3, .int (nI i))] → W p l e room_1 s m #[Value.ref b] below meth c H locs cells1 slots1 Q (F0 m 1160 ls [])) : W p l e room_1 s m #[Value.ref b] below meth c H locs cells slots Q (F0 m 364 ls []) := by
  have hx := C.1
  have hb := C.2.1
  have hbA : ¬ ALs s b := Nat.not_le.mpr hbl
  refine lv_aload_n hx hb dL_law_364 rfl (lv_at hl 1 rfl) ?_
  refine lv_aload_n hx hb dL_law_365 rfl (lv_at hl 0 rfl) ?_
  refine lv_iload_n hx hb dL_law_366 rfl (lv_at hl 3 rfl) ?_
  refine lv_iconst (v := 1) hx hb dL_law_367 (by decide) ?_
  refine lv_iadd hx hb dL_law_368 ?_
  refine va_sld hx hb hX hbl hbA hW.2.2.2.1 (lin hi hL 1 (by decide)) dL_law_369 ?_
  refine lv_aload_n hx hb dL_law_370 rfl (lv_at hl 0 rfl) ?_
  refine lv_iload_n hx hb dL_law_371 rfl (lv_at hl 3 rfl) ?_
  refine lv_iconst (v := 2) hx hb dL_law_372 (by decide) ?_
  refine lv_iadd hx hb dL_law_373 ?_
  refine va_sld hx hb hX hbl hbA hW.2.2.2.1 (lin hi hL 2 (by decide)) dL_law_374 ?_
  refine kL_X10_as (wr := mw (gmL g m0 a cZ cB) μ) C hW (xty_in g cZ cB) (by decide) (by decide) hl.1 (Nat.le_of_ble_eq_true rfl) dL_law_375 (show cells ≤ 600000 by omega) (show slots ≤ 7302250 by omega) hq (fun r σ1 H locs hq hW => ?_)
  refine lv_aload_n hx hb dL_law_378 rfl (lv_at hl 2 rfl) ?_
  refine lv_aload_n hx hb dL_law_379 rfl (lv_at hl 0 rfl) ?_
  refine lv_iload_n hx hb dL_law_380 rfl (lv_at hl 3 rfl) ?_
  refine lv_iconst (v := 1) hx hb dL_law_381 (by decide) ?_
  refine lv_iadd hx hb dL_law_382 ?_
  refine va_sld hx hb hX hbl hbA hW.2.2.2.1 (lin hi hL 1 (by decide)) dL_law_383 ?_
  refine lv_aload_n hx hb dL_law_384 rfl (lv_at hl 0 rfl) ?_
  refine lv_iload_n hx hb dL_law_385 rfl (lv_at hl 3 rfl) ?_
  refine lv_iconst (v := 2) hx hb dL_law_386 (by decide) ?_
  refine lv_iadd hx hb dL_law_387 ?_
  refine va_sld hx hb hX hbl hbA hW.2.2.2.1 (lin hi hL 2 (by decide)) dL_law_388 ?_
  refine kL_X11_as (gm := gmL g m0 a cZ cB) (wr := xw g σ1) C (wi_swap hW) (mty_in g m0 a cZ cB) (by decide) (by decide) hl.1 (Nat.le_of_ble_eq_true rfl) dL_law_389 (show cells ≤ 600000 by omega) (show slots ≤ 7302250 by omega) hq (fun r2 μ1 H locs hq hW => ?_)
  replace hW := wi_swap hW
  obtain ⟨rfl, hq⟩ := hq
  exact lv_icmp_eq (tgt := 1160) hx hb dL_law_392 (by decide) (fun _ => kk g _ _ _ _ _ _ (by omega) (by omega) hq hW hl) (fun h => absurd rfl h)
set_option maxHeartbeats 4000000 in
set_option maxRecDepth 100000 in
theorem lc_about {K : XG → XS → MS → Prop} (C : CallFix p m c cL_law 4 s #[Value.ref b] lwg RL) (hX : va_X b L xs s s.heap) (hbl : b < s.heap.size) (hZ : zst em (ALs s) s s.heap) (hL : L ≤ 3584) (hi : i + 7 ≤ L) (hc : cells + 2 ≤ 600000) (hs : slots + 14 ≤ 7302250) (hW : WI g.1 idw (tyL g cZ cB) (ALs s) s (LW g σ m0 a cZ cB μ) H locs) (hl : lv_has ls 4 [(0, .ref b), (1, .ref (g.2.1 0)), (2, .ref m0), (3, .int (nI i))]) (hq : qX10_about g σ ((xs (nI i + 1).toNatClampNeg)) ((xs (nI i + 2).toNatClampNeg)) (fun r σ1 => qX11_about μ ((xs (nI i + 1).toNatClampNeg)) ((xs (nI i + 2).toNatClampNeg)) (fun r2 μ1 => r = r2 ∧ K g σ1 μ1)))
    (kk : ∀ (g : XG) (σ : XS) (μ : MS) (H : Heap) (locs : List Loc) (cells1 slots1 : Nat), cells1 ≤ cells + 2 → slots1 ≤ slots + 14 → K g σ μ → WI g.1 idw (tyL g cZ cB) (ALs s) s (LW g σ m0 a cZ cB μ) H locs → lv_has ls 4 [(0, .ref b), (1, .ref (g.2.1 0)), (2, .ref m0), (3, .int (nI i))] → W p l e room_1 s m #[Value.ref b] below meth c H locs cells1 slots1 Q (F0 m 1160 ls [])) : W p l e room_1 s m #[Value.ref b] below meth c H locs cells slots Q (F0 m 397 ls []) := by
  have hx := C.1
  have hb := C.2.1
  have hbA : ¬ ALs s b := Nat.not_le.mpr hbl
  refine lv_aload_n hx hb dL_law_397 rfl (lv_at hl 1 rfl) ?_
  refine lv_aload_n hx hb dL_law_398 rfl (lv_at hl 0 rfl) ?_
  refine lv_iload_n hx hb dL_law_399 rfl (lv_at hl 3 rfl) ?_
  refine lv_iconst (v := 1) hx hb dL_law_400 (by decide) ?_
  refine lv_iadd hx hb dL_law_401 ?_
  refine va_sld hx hb hX hbl hbA hW.2.2.2.1 (lin hi hL 1 (by decide)) dL_law_402 ?_
  refine lv_aload_n hx hb dL_law_403 rfl (lv_at hl 0 rfl) ?_
  refine lv_iload_n hx hb dL_law_404 rfl (lv_at hl 3 rfl) ?_
  refine lv_iconst (v := 2) hx hb dL_law_405 (by decide) ?_
  refine lv_iadd hx hb dL_law_406 ?_
  refine va_sld hx hb hX hbl hbA hW.2.2.2.1 (lin hi hL 2 (by decide)) dL_law_407 ?_
  refine kL_X10_about (wr := mw (gmL g m0 a cZ cB) μ) C hW (xty_in g cZ cB) (by decide) (by decide) hl.1 (Nat.le_of_ble_eq_true rfl) dL_law_408 (show cells ≤ 600000 by omega) (show slots ≤ 7302250 by omega) hq (fun r σ1 H locs hq hW => ?_)
  refine lv_aload_n hx hb dL_law_411 rfl (lv_at hl 2 rfl) ?_
  refine lv_aload_n hx hb dL_law_412 rfl (lv_at hl 0 rfl) ?_
  refine lv_iload_n hx hb dL_law_413 rfl (lv_at hl 3 rfl) ?_
  refine lv_iconst (v := 1) hx hb dL_law_414 (by decide) ?_
  refine lv_iadd hx hb dL_law_415 ?_
  refine va_sld hx hb hX hbl hbA hW.2.2.2.1 (lin hi hL 1 (by decide)) dL_law_416 ?_
  refine lv_aload_n hx hb dL_law_417 rfl (lv_at hl 0 rfl) ?_
  refine lv_iload_n hx hb dL_law_418 rfl (lv_at hl 3 rfl) ?_
  refine lv_iconst (v := 2) hx hb dL_law_419 (by decide) ?_
  refine lv_iadd hx hb dL_law_420 ?_
  refine va_sld hx hb hX hbl hbA hW.2.2.2.1 (lin hi hL 2 (by decide)) dL_law_421 ?_
  refine kL_X11_about (gm := gmL g m0 a cZ cB) (wr := xw g σ1) C (wi_swap hW) (mty_in g m0 a cZ cB) (by decide) (by decide) hl.1 (Nat.le_of_ble_eq_true rfl) dL_law_422 (show cells ≤ 600000 by omega) (show slots ≤ 7302250 by omega) hq (fun r2 μ1 H locs hq hW => ?_)
  replace hW := wi_swap hW
  obtain ⟨rfl, hq⟩ := hq
  exact lv_icmp_eq (tgt := 1160) hx hb dL_law_425 (by decide) (fun _ => kk g _ _ _ _ _ _ (by omega) (by omega) hq hW hl) (fun h => absurd rfl h)
set_option maxHeartbeats 4000000 in
set_option maxRecDepth 100000 in
theorem lc_store {K : XG → XS → MS → Prop} (C : CallFix p m c cL_law 4 s #[Value.ref b] lwg RL) (hX : va_X b L xs s s.heap) (hbl : b < s.heap.size) (hZ : zst em (ALs s) s s.heap) (hL : L ≤ 3584) (hi : i + 7 ≤ L) (hc : cells + 2 ≤ 600000) (hs : slots + 14 ≤ 7302250) (hW : WI g.1 idw (tyL g cZ cB) (ALs s) s (LW g σ m0 a cZ cB μ) H locs) (hl : lv_has ls 4 [(0, .ref b), (1, .ref (g.2.1 0)), (2, .ref m0), (3, .int (nI i))]) (hq : qX10_store g σ ((xs (nI i + 1).toNatClampNeg)) ((xs (nI i + 2).toNatClampNeg)) (fun r σ1 => qX11_store μ ((xs (nI i + 1).toNatClampNeg)) ((xs (nI i + 2).toNatClampNeg)) (fun r2 μ1 => r = r2 ∧ K g σ1 μ1)))
    (kk : ∀ (g : XG) (σ : XS) (μ : MS) (H : Heap) (locs : List Loc) (cells1 slots1 : Nat), cells1 ≤ cells + 2 → slots1 ≤ slots + 14 → K g σ μ → WI g.1 idw (tyL g cZ cB) (ALs s) s (LW g σ m0 a cZ cB μ) H locs → lv_has ls 4 [(0, .ref b), (1, .ref (g.2.1 0)), (2, .ref m0), (3, .int (nI i))] → W p l e room_1 s m #[Value.ref b] below meth c H locs cells1 slots1 Q (F0 m 1160 ls [])) : W p l e room_1 s m #[Value.ref b] below meth c H locs cells slots Q (F0 m 430 ls []) := by
  have hx := C.1
  have hb := C.2.1
  have hbA : ¬ ALs s b := Nat.not_le.mpr hbl
  refine lv_aload_n hx hb dL_law_430 rfl (lv_at hl 1 rfl) ?_
  refine lv_aload_n hx hb dL_law_431 rfl (lv_at hl 0 rfl) ?_
  refine lv_iload_n hx hb dL_law_432 rfl (lv_at hl 3 rfl) ?_
  refine lv_iconst (v := 1) hx hb dL_law_433 (by decide) ?_
  refine lv_iadd hx hb dL_law_434 ?_
  refine va_sld hx hb hX hbl hbA hW.2.2.2.1 (lin hi hL 1 (by decide)) dL_law_435 ?_
  refine lv_aload_n hx hb dL_law_436 rfl (lv_at hl 0 rfl) ?_
  refine lv_iload_n hx hb dL_law_437 rfl (lv_at hl 3 rfl) ?_
  refine lv_iconst (v := 2) hx hb dL_law_438 (by decide) ?_
  refine lv_iadd hx hb dL_law_439 ?_
  refine va_sld hx hb hX hbl hbA hW.2.2.2.1 (lin hi hL 2 (by decide)) dL_law_440 ?_
  refine kL_X10_store (wr := mw (gmL g m0 a cZ cB) μ) C hW (xty_in g cZ cB) (by decide) (by decide) hl.1 (Nat.le_of_ble_eq_true rfl) dL_law_441 (show cells ≤ 600000 by omega) (show slots ≤ 7302250 by omega) hq (fun r σ1 H locs hq hW => ?_)
  refine lv_aload_n hx hb dL_law_444 rfl (lv_at hl 2 rfl) ?_
  refine lv_aload_n hx hb dL_law_445 rfl (lv_at hl 0 rfl) ?_
  refine lv_iload_n hx hb dL_law_446 rfl (lv_at hl 3 rfl) ?_
  refine lv_iconst (v := 1) hx hb dL_law_447 (by decide) ?_
  refine lv_iadd hx hb dL_law_448 ?_
  refine va_sld hx hb hX hbl hbA hW.2.2.2.1 (lin hi hL 1 (by decide)) dL_law_449 ?_
  refine lv_aload_n hx hb dL_law_450 rfl (lv_at hl 0 rfl) ?_
  refine lv_iload_n hx hb dL_law_451 rfl (lv_at hl 3 rfl) ?_
  refine lv_iconst (v := 2) hx hb dL_law_452 (by decide) ?_
  refine lv_iadd hx hb dL_law_453 ?_
  refine va_sld hx hb hX hbl hbA hW.2.2.2.1 (lin hi hL 2 (by decide)) dL_law_454 ?_
  refine kL_X11_store (gm := gmL g m0 a cZ cB) (wr := xw g σ1) C (wi_swap hW) (mty_in g m0 a cZ cB) (by decide) (by decide) hl.1 (Nat.le_of_ble_eq_true rfl) dL_law_455 (show cells ≤ 600000 by omega) (show slots ≤ 7302250 by omega) hq (fun r2 μ1 H locs hq hW => ?_)
  replace hW := wi_swap hW
  obtain ⟨rfl, hq⟩ := hq
  exact lv_icmp_eq (tgt := 1160) hx hb dL_law_458 (by decide) (fun _ => kk g _ _ _ _ _ _ (by omega) (by omega) hq hW hl) (fun h => absurd rfl h)
set_option maxHeartbeats 4000000 in
set_option maxRecDepth 100000 in
theorem lc_change {K : XG → XS → MS → Prop} (C : CallFix p m c cL_law 4 s #[Value.ref b] lwg RL) (hX : va_X b L xs s s.heap) (hbl : b < s.heap.size) (hZ : zst em (ALs s) s s.heap) (hL : L ≤ 3584) (hi : i + 7 ≤ L) (hc : cells + 2 ≤ 600000) (hs : slots + 14 ≤ 7302250) (hW : WI g.1 idw (tyL g cZ cB) (ALs s) s (LW g σ m0 a cZ cB μ) H locs) (hl : lv_has ls 4 [(0, .ref b), (1, .ref (g.2.1 0)), (2, .ref m0), (3, .int (nI i))]) (hq : qX10_change g σ ((xs (nI i + 1).toNatClampNeg)) ((xs (nI i + 2).toNatClampNeg)) (fun r σ1 => qX11_change μ ((xs (nI i + 1).toNatClampNeg)) ((xs (nI i + 2).toNatClampNeg)) (fun r2 μ1 => r = r2 ∧ K g σ1 μ1)))
    (kk : ∀ (g : XG) (σ : XS) (μ : MS) (H : Heap) (locs : List Loc) (cells1 slots1 : Nat), cells1 ≤ cells + 2 → slots1 ≤ slots + 14 → K g σ μ → WI g.1 idw (tyL g cZ cB) (ALs s) s (LW g σ m0 a cZ cB μ) H locs → lv_has ls 4 [(0, .ref b), (1, .ref (g.2.1 0)), (2, .ref m0), (3, .int (nI i))] → W p l e room_1 s m #[Value.ref b] below meth c H locs cells1 slots1 Q (F0 m 1160 ls [])) : W p l e room_1 s m #[Value.ref b] below meth c H locs cells slots Q (F0 m 463 ls []) := by
  have hx := C.1
  have hb := C.2.1
  have hbA : ¬ ALs s b := Nat.not_le.mpr hbl
  refine lv_aload_n hx hb dL_law_463 rfl (lv_at hl 1 rfl) ?_
  refine lv_aload_n hx hb dL_law_464 rfl (lv_at hl 0 rfl) ?_
  refine lv_iload_n hx hb dL_law_465 rfl (lv_at hl 3 rfl) ?_
  refine lv_iconst (v := 1) hx hb dL_law_466 (by decide) ?_
  refine lv_iadd hx hb dL_law_467 ?_
  refine va_sld hx hb hX hbl hbA hW.2.2.2.1 (lin hi hL 1 (by decide)) dL_law_468 ?_
  refine lv_aload_n hx hb dL_law_469 rfl (lv_at hl 0 rfl) ?_
  refine lv_iload_n hx hb dL_law_470 rfl (lv_at hl 3 rfl) ?_
  refine lv_iconst (v := 2) hx hb dL_law_471 (by decide) ?_
  refine lv_iadd hx hb dL_law_472 ?_
  refine va_sld hx hb hX hbl hbA hW.2.2.2.1 (lin hi hL 2 (by decide)) dL_law_473 ?_
  refine kL_X10_change (wr := mw (gmL g m0 a cZ cB) μ) C hW (xty_in g cZ cB) (by decide) (by decide) hl.1 (Nat.le_of_ble_eq_true rfl) dL_law_474 (show cells ≤ 600000 by omega) (show slots ≤ 7302250 by omega) hq (fun r σ1 H locs hq hW => ?_)
  refine lv_aload_n hx hb dL_law_477 rfl (lv_at hl 2 rfl) ?_
  refine lv_aload_n hx hb dL_law_478 rfl (lv_at hl 0 rfl) ?_
  refine lv_iload_n hx hb dL_law_479 rfl (lv_at hl 3 rfl) ?_
  refine lv_iconst (v := 1) hx hb dL_law_480 (by decide) ?_
  refine lv_iadd hx hb dL_law_481 ?_
  refine va_sld hx hb hX hbl hbA hW.2.2.2.1 (lin hi hL 1 (by decide)) dL_law_482 ?_
  refine lv_aload_n hx hb dL_law_483 rfl (lv_at hl 0 rfl) ?_
  refine lv_iload_n hx hb dL_law_484 rfl (lv_at hl 3 rfl) ?_
  refine lv_iconst (v := 2) hx hb dL_law_485 (by decide) ?_
  refine lv_iadd hx hb dL_law_486 ?_
  refine va_sld hx hb hX hbl hbA hW.2.2.2.1 (lin hi hL 2 (by decide)) dL_law_487 ?_
  refine kL_X11_change (gm := gmL g m0 a cZ cB) (wr := xw g σ1) C (wi_swap hW) (mty_in g m0 a cZ cB) (by decide) (by decide) hl.1 (Nat.le_of_ble_eq_true rfl) dL_law_488 (show cells ≤ 600000 by omega) (show slots ≤ 7302250 by omega) hq (fun r2 μ1 H locs hq hW => ?_)
  replace hW := wi_swap hW
  obtain ⟨rfl, hq⟩ := hq
  exact lv_icmp_eq (tgt := 1160) hx hb dL_law_491 (by decide) (fun _ => kk g _ _ _ _ _ _ (by omega) (by omega) hq hW hl) (fun h => absurd rfl h)
set_option maxHeartbeats 4000000 in
set_option maxRecDepth 100000 in
theorem lc_soup {K : XG → XS → MS → Prop} (C : CallFix p m c cL_law 4 s #[Value.ref b] lwg RL) (hX : va_X b L xs s s.heap) (hbl : b < s.heap.size) (hZ : zst em (ALs s) s s.heap) (hL : L ≤ 3584) (hi : i + 7 ≤ L) (hc : cells + 2 ≤ 600000) (hs : slots + 14 ≤ 7302250) (hW : WI g.1 idw (tyL g cZ cB) (ALs s) s (LW g σ m0 a cZ cB μ) H locs) (hl : lv_has ls 4 [(0, .ref b), (1, .ref (g.2.1 0)), (2, .ref m0), (3, .int (nI i))]) (hq : qX10_soup g σ ((xs (nI i + 1).toNatClampNeg)) ((xs (nI i + 2).toNatClampNeg)) (fun r σ1 => qX11_soup μ ((xs (nI i + 1).toNatClampNeg)) ((xs (nI i + 2).toNatClampNeg)) (fun r2 μ1 => r = r2 ∧ K g σ1 μ1)))
    (kk : ∀ (g : XG) (σ : XS) (μ : MS) (H : Heap) (locs : List Loc) (cells1 slots1 : Nat), cells1 ≤ cells + 2 → slots1 ≤ slots + 14 → K g σ μ → WI g.1 idw (tyL g cZ cB) (ALs s) s (LW g σ m0 a cZ cB μ) H locs → lv_has ls 4 [(0, .ref b), (1, .ref (g.2.1 0)), (2, .ref m0), (3, .int (nI i))] → W p l e room_1 s m #[Value.ref b] below meth c H locs cells1 slots1 Q (F0 m 1160 ls [])) : W p l e room_1 s m #[Value.ref b] below meth c H locs cells slots Q (F0 m 496 ls []) := by
  have hx := C.1
  have hb := C.2.1
  have hbA : ¬ ALs s b := Nat.not_le.mpr hbl
  refine lv_aload_n hx hb dL_law_496 rfl (lv_at hl 1 rfl) ?_
  refine lv_aload_n hx hb dL_law_497 rfl (lv_at hl 0 rfl) ?_
  refine lv_iload_n hx hb dL_law_498 rfl (lv_at hl 3 rfl) ?_
  refine lv_iconst (v := 1) hx hb dL_law_499 (by decide) ?_
  refine lv_iadd hx hb dL_law_500 ?_
  refine va_sld hx hb hX hbl hbA hW.2.2.2.1 (lin hi hL 1 (by decide)) dL_law_501 ?_
  refine lv_aload_n hx hb dL_law_502 rfl (lv_at hl 0 rfl) ?_
  refine lv_iload_n hx hb dL_law_503 rfl (lv_at hl 3 rfl) ?_
  refine lv_iconst (v := 2) hx hb dL_law_504 (by decide) ?_
  refine lv_iadd hx hb dL_law_505 ?_
  refine va_sld hx hb hX hbl hbA hW.2.2.2.1 (lin hi hL 2 (by decide)) dL_law_506 ?_
  refine kL_X10_soup (wr := mw (gmL g m0 a cZ cB) μ) C hW (xty_in g cZ cB) (by decide) (by decide) hl.1 (Nat.le_of_ble_eq_true rfl) dL_law_507 (show cells ≤ 600000 by omega) (show slots ≤ 7302250 by omega) hq (fun r σ1 H locs hq hW => ?_)
  refine lv_aload_n hx hb dL_law_510 rfl (lv_at hl 2 rfl) ?_
  refine lv_aload_n hx hb dL_law_511 rfl (lv_at hl 0 rfl) ?_
  refine lv_iload_n hx hb dL_law_512 rfl (lv_at hl 3 rfl) ?_
  refine lv_iconst (v := 1) hx hb dL_law_513 (by decide) ?_
  refine lv_iadd hx hb dL_law_514 ?_
  refine va_sld hx hb hX hbl hbA hW.2.2.2.1 (lin hi hL 1 (by decide)) dL_law_515 ?_
  refine lv_aload_n hx hb dL_law_516 rfl (lv_at hl 0 rfl) ?_
  refine lv_iload_n hx hb dL_law_517 rfl (lv_at hl 3 rfl) ?_
  refine lv_iconst (v := 2) hx hb dL_law_518 (by decide) ?_
  refine lv_iadd hx hb dL_law_519 ?_
  refine va_sld hx hb hX hbl hbA hW.2.2.2.1 (lin hi hL 2 (by decide)) dL_law_520 ?_
  refine kL_X11_soup (gm := gmL g m0 a cZ cB) (wr := xw g σ1) C (wi_swap hW) (mty_in g m0 a cZ cB) (by decide) (by decide) hl.1 (Nat.le_of_ble_eq_true rfl) dL_law_521 (show cells ≤ 600000 by omega) (show slots ≤ 7302250 by omega) hq (fun r2 μ1 H locs hq hW => ?_)
  replace hW := wi_swap hW
  obtain ⟨rfl, hq⟩ := hq
  exact lv_icmp_eq (tgt := 1160) hx hb dL_law_524 (by decide) (fun _ => kk g _ _ _ _ _ _ (by omega) (by omega) hq hW hl) (fun h => absurd rfl h)
set_option maxHeartbeats 4000000 in
set_option maxRecDepth 100000 in
theorem lc_heat {K : XG → XS → MS → Prop} (C : CallFix p m c cL_law 4 s #[Value.ref b] lwg RL) (hX : va_X b L xs s s.heap) (hbl : b < s.heap.size) (hZ : zst em (ALs s) s s.heap) (hL : L ≤ 3584) (hi : i + 7 ≤ L) (hc : cells + 2 ≤ 600000) (hs : slots + 14 ≤ 7302250) (hW : WI g.1 idw (tyL g cZ cB) (ALs s) s (LW g σ m0 a cZ cB μ) H locs) (hl : lv_has ls 4 [(0, .ref b), (1, .ref (g.2.1 0)), (2, .ref m0), (3, .int (nI i))]) (hq : qX10_heat g σ ((xs (nI i + 1).toNatClampNeg)) (fun r σ1 => qX11_heat μ ((xs (nI i + 1).toNatClampNeg)) (fun r2 μ1 => r = r2 ∧ K g σ1 μ1)))
    (kk : ∀ (g : XG) (σ : XS) (μ : MS) (H : Heap) (locs : List Loc) (cells1 slots1 : Nat), cells1 ≤ cells + 2 → slots1 ≤ slots + 14 → K g σ μ → WI g.1 idw (tyL g cZ cB) (ALs s) s (LW g σ m0 a cZ cB μ) H locs → lv_has ls 4 [(0, .ref b), (1, .ref (g.2.1 0)), (2, .ref m0), (3, .int (nI i))] → W p l e room_1 s m #[Value.ref b] below meth c H locs cells1 slots1 Q (F0 m 1160 ls [])) : W p l e room_1 s m #[Value.ref b] below meth c H locs cells slots Q (F0 m 529 ls []) := by
  have hx := C.1
  have hb := C.2.1
  have hbA : ¬ ALs s b := Nat.not_le.mpr hbl
  refine lv_aload_n hx hb dL_law_529 rfl (lv_at hl 1 rfl) ?_
  refine lv_aload_n hx hb dL_law_530 rfl (lv_at hl 0 rfl) ?_
  refine lv_iload_n hx hb dL_law_531 rfl (lv_at hl 3 rfl) ?_
  refine lv_iconst (v := 1) hx hb dL_law_532 (by decide) ?_
  refine lv_iadd hx hb dL_law_533 ?_
  refine va_sld hx hb hX hbl hbA hW.2.2.2.1 (lin hi hL 1 (by decide)) dL_law_534 ?_
  refine kL_X10_heat (wr := mw (gmL g m0 a cZ cB) μ) C hW (xty_in g cZ cB) (by decide) (by decide) hl.1 (Nat.le_of_ble_eq_true rfl) dL_law_535 (show cells ≤ 600000 by omega) (show slots ≤ 7302250 by omega) hq (fun r σ1 H locs hq hW => ?_)
  refine lv_aload_n hx hb dL_law_538 rfl (lv_at hl 2 rfl) ?_
  refine lv_aload_n hx hb dL_law_539 rfl (lv_at hl 0 rfl) ?_
  refine lv_iload_n hx hb dL_law_540 rfl (lv_at hl 3 rfl) ?_
  refine lv_iconst (v := 1) hx hb dL_law_541 (by decide) ?_
  refine lv_iadd hx hb dL_law_542 ?_
  refine va_sld hx hb hX hbl hbA hW.2.2.2.1 (lin hi hL 1 (by decide)) dL_law_543 ?_
  refine kL_X11_heat (gm := gmL g m0 a cZ cB) (wr := xw g σ1) C (wi_swap hW) (mty_in g m0 a cZ cB) (by decide) (by decide) hl.1 (Nat.le_of_ble_eq_true rfl) dL_law_544 (show cells ≤ 600000 by omega) (show slots ≤ 7302250 by omega) hq (fun r2 μ1 H locs hq hW => ?_)
  replace hW := wi_swap hW
  obtain ⟨rfl, hq⟩ := hq
  exact lv_icmp_eq (tgt := 1160) hx hb dL_law_547 (by decide) (fun _ => kk g _ _ _ _ _ _ (by omega) (by omega) hq hW hl) (fun h => absurd rfl h)
set_option maxHeartbeats 4000000 in
set_option maxRecDepth 100000 in
theorem lc_feast {K : XG → XS → MS → Prop} (C : CallFix p m c cL_law 4 s #[Value.ref b] lwg RL) (hX : va_X b L xs s s.heap) (hbl : b < s.heap.size) (hZ : zst em (ALs s) s s.heap) (hL : L ≤ 3584) (hi : i + 7 ≤ L) (hc : cells + 2 ≤ 600000) (hs : slots + 14 ≤ 7302250) (hW : WI g.1 idw (tyL g cZ cB) (ALs s) s (LW g σ m0 a cZ cB μ) H locs) (hl : lv_has ls 4 [(0, .ref b), (1, .ref (g.2.1 0)), (2, .ref m0), (3, .int (nI i))]) (hq : qX10_feast g σ ((if (xs (nI i + 1).toNatClampNeg) = 0 then 0 else 1 : Int32)) (fun r σ1 => qX11_feast μ ((if (xs (nI i + 1).toNatClampNeg) = 0 then 0 else 1 : Int32)) (fun r2 μ1 => r = r2 ∧ K g σ1 μ1)))
    (kk : ∀ (g : XG) (σ : XS) (μ : MS) (H : Heap) (locs : List Loc) (cells1 slots1 : Nat), cells1 ≤ cells + 2 → slots1 ≤ slots + 14 → K g σ μ → WI g.1 idw (tyL g cZ cB) (ALs s) s (LW g σ m0 a cZ cB μ) H locs → lv_has ls 4 [(0, .ref b), (1, .ref (g.2.1 0)), (2, .ref m0), (3, .int (nI i))] → W p l e room_1 s m #[Value.ref b] below meth c H locs cells1 slots1 Q (F0 m 1160 ls [])) : W p l e room_1 s m #[Value.ref b] below meth c H locs cells slots Q (F0 m 552 ls []) := by
  have hx := C.1
  have hb := C.2.1
  have hbA : ¬ ALs s b := Nat.not_le.mpr hbl
  refine lv_aload_n hx hb dL_law_552 rfl (lv_at hl 1 rfl) ?_
  refine lv_aload_n hx hb dL_law_553 rfl (lv_at hl 0 rfl) ?_
  refine lv_iload_n hx hb dL_law_554 rfl (lv_at hl 3 rfl) ?_
  refine lv_iconst (v := 1) hx hb dL_law_555 (by decide) ?_
  refine lv_iadd hx hb dL_law_556 ?_
  refine va_sld hx hb hX hbl hbA hW.2.2.2.1 (lin hi hL 1 (by decide)) dL_law_557 ?_
  refine (fun (K1 : W p l e room_1 s m #[Value.ref b] below meth c H locs cells slots Q (F0 m 566 ls (.int (if (xs (nI i + 1).toNatClampNeg) = 0 then 0 else 1 : Int32) :: [.ref (g.2.1 0)]))) => ?_) ?_
  · refine lv_if_eq (tgt := 565) hx hb dL_law_558 (by decide) (fun h => ?_) (fun h => ?_)
    · refine lv_iconst (v := 0) hx hb dL_law_565 (by decide) ?_
      rw [if_pos h] at K1
      exact K1
    · refine lv_iconst (v := 1) hx hb dL_law_561 (by decide) ?_
      refine lv_goto (tgt := 566) hx hb dL_law_562 (by decide) ?_
      rw [if_neg h] at K1
      exact K1
  refine kL_X10_feast (wr := mw (gmL g m0 a cZ cB) μ) C hW (xty_in g cZ cB) (by decide) (by decide) hl.1 (Nat.le_of_ble_eq_true rfl) dL_law_566 (show cells ≤ 600000 by omega) (show slots ≤ 7302250 by omega) hq (fun r σ1 H locs hq hW => ?_)
  refine lv_aload_n hx hb dL_law_569 rfl (lv_at hl 2 rfl) ?_
  refine lv_aload_n hx hb dL_law_570 rfl (lv_at hl 0 rfl) ?_
  refine lv_iload_n hx hb dL_law_571 rfl (lv_at hl 3 rfl) ?_
  refine lv_iconst (v := 1) hx hb dL_law_572 (by decide) ?_
  refine lv_iadd hx hb dL_law_573 ?_
  refine va_sld hx hb hX hbl hbA hW.2.2.2.1 (lin hi hL 1 (by decide)) dL_law_574 ?_
  refine (fun (K1 : W p l e room_1 s m #[Value.ref b] below meth c H locs cells slots Q (F0 m 583 ls (.int (if (xs (nI i + 1).toNatClampNeg) = 0 then 0 else 1 : Int32) :: [.ref m0, .int r]))) => ?_) ?_
  · refine lv_if_eq (tgt := 582) hx hb dL_law_575 (by decide) (fun h => ?_) (fun h => ?_)
    · refine lv_iconst (v := 0) hx hb dL_law_582 (by decide) ?_
      rw [if_pos h] at K1
      exact K1
    · refine lv_iconst (v := 1) hx hb dL_law_578 (by decide) ?_
      refine lv_goto (tgt := 583) hx hb dL_law_579 (by decide) ?_
      rw [if_neg h] at K1
      exact K1
  refine kL_X11_feast (gm := gmL g m0 a cZ cB) (wr := xw g σ1) C (wi_swap hW) (mty_in g m0 a cZ cB) (by decide) (by decide) hl.1 (Nat.le_of_ble_eq_true rfl) dL_law_583 (show cells ≤ 600000 by omega) (show slots ≤ 7302250 by omega) hq (fun r2 μ1 H locs hq hW => ?_)
  replace hW := wi_swap hW
  obtain ⟨rfl, hq⟩ := hq
  exact lv_icmp_eq (tgt := 1160) hx hb dL_law_586 (by decide) (fun _ => kk g _ _ _ _ _ _ (by omega) (by omega) hq hW hl) (fun h => absurd rfl h)
set_option maxHeartbeats 4000000 in
set_option maxRecDepth 100000 in
theorem lc_day {K : XG → XS → MS → Prop} (C : CallFix p m c cL_law 4 s #[Value.ref b] lwg RL) (hX : va_X b L xs s s.heap) (hbl : b < s.heap.size) (hZ : zst em (ALs s) s s.heap) (hL : L ≤ 3584) (hi : i + 7 ≤ L) (hc : cells + 2 ≤ 600000) (hs : slots + 14 ≤ 7302250) (hW : WI g.1 idw (tyL g cZ cB) (ALs s) s (LW g σ m0 a cZ cB μ) H locs) (hl : lv_has ls 4 [(0, .ref b), (1, .ref (g.2.1 0)), (2, .ref m0), (3, .int (nI i))]) (hq : qX10_day g σ ((xs (nI i + 1).toNatClampNeg)) ((xs (nI i + 2).toNatClampNeg)) ((xs (nI i + 3).toNatClampNeg)) ((xs (nI i + 4).toNatClampNeg)) (fun r σ1 => qX11_day μ ((xs (nI i + 1).toNatClampNeg)) ((xs (nI i + 2).toNatClampNeg)) ((xs (nI i + 3).toNatClampNeg)) ((xs (nI i + 4).toNatClampNeg)) (fun r2 μ1 => r = r2 ∧ K g σ1 μ1)))
    (kk : ∀ (g : XG) (σ : XS) (μ : MS) (H : Heap) (locs : List Loc) (cells1 slots1 : Nat), cells1 ≤ cells + 2 → slots1 ≤ slots + 14 → K g σ μ → WI g.1 idw (tyL g cZ cB) (ALs s) s (LW g σ m0 a cZ cB μ) H locs → lv_has ls 4 [(0, .ref b), (1, .ref (g.2.1 0)), (2, .ref m0), (3, .int (nI i))] → W p l e room_1 s m #[Value.ref b] below meth c H locs cells1 slots1 Q (F0 m 1160 ls [])) : W p l e room_1 s m #[Value.ref b] below meth c H locs cells slots Q (F0 m 591 ls []) := by
  have hx := C.1
  have hb := C.2.1
  have hbA : ¬ ALs s b := Nat.not_le.mpr hbl
  refine lv_aload_n hx hb dL_law_591 rfl (lv_at hl 1 rfl) ?_
  refine lv_aload_n hx hb dL_law_592 rfl (lv_at hl 0 rfl) ?_
  refine lv_iload_n hx hb dL_law_593 rfl (lv_at hl 3 rfl) ?_
  refine lv_iconst (v := 1) hx hb dL_law_594 (by decide) ?_
  refine lv_iadd hx hb dL_law_595 ?_
  refine va_sld hx hb hX hbl hbA hW.2.2.2.1 (lin hi hL 1 (by decide)) dL_law_596 ?_
  refine lv_aload_n hx hb dL_law_597 rfl (lv_at hl 0 rfl) ?_
  refine lv_iload_n hx hb dL_law_598 rfl (lv_at hl 3 rfl) ?_
  refine lv_iconst (v := 2) hx hb dL_law_599 (by decide) ?_
  refine lv_iadd hx hb dL_law_600 ?_
  refine va_sld hx hb hX hbl hbA hW.2.2.2.1 (lin hi hL 2 (by decide)) dL_law_601 ?_
  refine lv_aload_n hx hb dL_law_602 rfl (lv_at hl 0 rfl) ?_
  refine lv_iload_n hx hb dL_law_603 rfl (lv_at hl 3 rfl) ?_
  refine lv_iconst (v := 3) hx hb dL_law_604 (by decide) ?_
  refine lv_iadd hx hb dL_law_605 ?_
  refine va_sld hx hb hX hbl hbA hW.2.2.2.1 (lin hi hL 3 (by decide)) dL_law_606 ?_
  refine lv_aload_n hx hb dL_law_607 rfl (lv_at hl 0 rfl) ?_
  refine lv_iload_n hx hb dL_law_608 rfl (lv_at hl 3 rfl) ?_
  refine lv_iconst (v := 4) hx hb dL_law_609 (by decide) ?_
  refine lv_iadd hx hb dL_law_610 ?_
  refine va_sld hx hb hX hbl hbA hW.2.2.2.1 (lin hi hL 4 (by decide)) dL_law_611 ?_
  refine kL_X10_day (wr := mw (gmL g m0 a cZ cB) μ) C hW (xty_in g cZ cB) (by decide) (by decide) hl.1 (Nat.le_of_ble_eq_true rfl) dL_law_612 (show cells ≤ 600000 by omega) (show slots ≤ 7302250 by omega) hq (fun r σ1 H locs hq hW => ?_)
  refine lv_aload_n hx hb dL_law_615 rfl (lv_at hl 2 rfl) ?_
  refine lv_aload_n hx hb dL_law_616 rfl (lv_at hl 0 rfl) ?_
  refine lv_iload_n hx hb dL_law_617 rfl (lv_at hl 3 rfl) ?_
  refine lv_iconst (v := 1) hx hb dL_law_618 (by decide) ?_
  refine lv_iadd hx hb dL_law_619 ?_
  refine va_sld hx hb hX hbl hbA hW.2.2.2.1 (lin hi hL 1 (by decide)) dL_law_620 ?_
  refine lv_aload_n hx hb dL_law_621 rfl (lv_at hl 0 rfl) ?_
  refine lv_iload_n hx hb dL_law_622 rfl (lv_at hl 3 rfl) ?_
  refine lv_iconst (v := 2) hx hb dL_law_623 (by decide) ?_
  refine lv_iadd hx hb dL_law_624 ?_
  refine va_sld hx hb hX hbl hbA hW.2.2.2.1 (lin hi hL 2 (by decide)) dL_law_625 ?_
  refine lv_aload_n hx hb dL_law_626 rfl (lv_at hl 0 rfl) ?_
  refine lv_iload_n hx hb dL_law_627 rfl (lv_at hl 3 rfl) ?_
  refine lv_iconst (v := 3) hx hb dL_law_628 (by decide) ?_
  refine lv_iadd hx hb dL_law_629 ?_
  refine va_sld hx hb hX hbl hbA hW.2.2.2.1 (lin hi hL 3 (by decide)) dL_law_630 ?_
  refine lv_aload_n hx hb dL_law_631 rfl (lv_at hl 0 rfl) ?_
  refine lv_iload_n hx hb dL_law_632 rfl (lv_at hl 3 rfl) ?_
  refine lv_iconst (v := 4) hx hb dL_law_633 (by decide) ?_
  refine lv_iadd hx hb dL_law_634 ?_
  refine va_sld hx hb hX hbl hbA hW.2.2.2.1 (lin hi hL 4 (by decide)) dL_law_635 ?_
  refine kL_X11_day (gm := gmL g m0 a cZ cB) (wr := xw g σ1) C (wi_swap hW) (mty_in g m0 a cZ cB) (by decide) (by decide) hl.1 (Nat.le_of_ble_eq_true rfl) dL_law_636 (show cells ≤ 600000 by omega) (show slots ≤ 7302250 by omega) hq (fun r2 μ1 H locs hq hW => ?_)
  replace hW := wi_swap hW
  obtain ⟨rfl, hq⟩ := hq
  exact lv_icmp_eq (tgt := 1160) hx hb dL_law_639 (by decide) (fun _ => kk g _ _ _ _ _ _ (by omega) (by omega) hq hW hl) (fun h => absurd rfl h)
set_option maxHeartbeats 4000000 in
set_option maxRecDepth 100000 in
theorem lc_meal {K : XG → XS → MS → Prop} (C : CallFix p m c cL_law 4 s #[Value.ref b] lwg RL) (hX : va_X b L xs s s.heap) (hbl : b < s.heap.size) (hZ : zst em (ALs s) s s.heap) (hL : L ≤ 3584) (hi : i + 7 ≤ L) (hc : cells + 2 ≤ 600000) (hs : slots + 14 ≤ 7302250) (hW : WI g.1 idw (tyL g cZ cB) (ALs s) s (LW g σ m0 a cZ cB μ) H locs) (hl : lv_has ls 4 [(0, .ref b), (1, .ref (g.2.1 0)), (2, .ref m0), (3, .int (nI i))]) (hq : qX10_meal g σ ((xs (nI i + 1).toNatClampNeg)) ((xs (nI i + 2).toNatClampNeg)) ((xs (nI i + 3).toNatClampNeg)) ((xs (nI i + 4).toNatClampNeg)) (fun r σ1 => qX11_meal μ ((xs (nI i + 1).toNatClampNeg)) ((xs (nI i + 2).toNatClampNeg)) ((xs (nI i + 3).toNatClampNeg)) ((xs (nI i + 4).toNatClampNeg)) (fun r2 μ1 => r = r2 ∧ K g σ1 μ1)))
    (kk : ∀ (g : XG) (σ : XS) (μ : MS) (H : Heap) (locs : List Loc) (cells1 slots1 : Nat), cells1 ≤ cells + 2 → slots1 ≤ slots + 14 → K g σ μ → WI g.1 idw (tyL g cZ cB) (ALs s) s (LW g σ m0 a cZ cB μ) H locs → lv_has ls 4 [(0, .ref b), (1, .ref (g.2.1 0)), (2, .ref m0), (3, .int (nI i))] → W p l e room_1 s m #[Value.ref b] below meth c H locs cells1 slots1 Q (F0 m 1160 ls [])) : W p l e room_1 s m #[Value.ref b] below meth c H locs cells slots Q (F0 m 644 ls []) := by
  have hx := C.1
  have hb := C.2.1
  have hbA : ¬ ALs s b := Nat.not_le.mpr hbl
  refine lv_aload_n hx hb dL_law_644 rfl (lv_at hl 1 rfl) ?_
  refine lv_aload_n hx hb dL_law_645 rfl (lv_at hl 0 rfl) ?_
  refine lv_iload_n hx hb dL_law_646 rfl (lv_at hl 3 rfl) ?_
  refine lv_iconst (v := 1) hx hb dL_law_647 (by decide) ?_
  refine lv_iadd hx hb dL_law_648 ?_
  refine va_sld hx hb hX hbl hbA hW.2.2.2.1 (lin hi hL 1 (by decide)) dL_law_649 ?_
  refine lv_aload_n hx hb dL_law_650 rfl (lv_at hl 0 rfl) ?_
  refine lv_iload_n hx hb dL_law_651 rfl (lv_at hl 3 rfl) ?_
  refine lv_iconst (v := 2) hx hb dL_law_652 (by decide) ?_
  refine lv_iadd hx hb dL_law_653 ?_
  refine va_sld hx hb hX hbl hbA hW.2.2.2.1 (lin hi hL 2 (by decide)) dL_law_654 ?_
  refine lv_aload_n hx hb dL_law_655 rfl (lv_at hl 0 rfl) ?_
  refine lv_iload_n hx hb dL_law_656 rfl (lv_at hl 3 rfl) ?_
  refine lv_iconst (v := 3) hx hb dL_law_657 (by decide) ?_
  refine lv_iadd hx hb dL_law_658 ?_
  refine va_sld hx hb hX hbl hbA hW.2.2.2.1 (lin hi hL 3 (by decide)) dL_law_659 ?_
  refine lv_aload_n hx hb dL_law_660 rfl (lv_at hl 0 rfl) ?_
  refine lv_iload_n hx hb dL_law_661 rfl (lv_at hl 3 rfl) ?_
  refine lv_iconst (v := 4) hx hb dL_law_662 (by decide) ?_
  refine lv_iadd hx hb dL_law_663 ?_
  refine va_sld hx hb hX hbl hbA hW.2.2.2.1 (lin hi hL 4 (by decide)) dL_law_664 ?_
  refine kL_X10_meal (wr := mw (gmL g m0 a cZ cB) μ) C hW (xty_in g cZ cB) (by decide) (by decide) hl.1 (Nat.le_of_ble_eq_true rfl) dL_law_665 (show cells ≤ 600000 by omega) (show slots ≤ 7302250 by omega) hq (fun r σ1 H locs hq hW => ?_)
  refine lv_aload_n hx hb dL_law_668 rfl (lv_at hl 2 rfl) ?_
  refine lv_aload_n hx hb dL_law_669 rfl (lv_at hl 0 rfl) ?_
  refine lv_iload_n hx hb dL_law_670 rfl (lv_at hl 3 rfl) ?_
  refine lv_iconst (v := 1) hx hb dL_law_671 (by decide) ?_
  refine lv_iadd hx hb dL_law_672 ?_
  refine va_sld hx hb hX hbl hbA hW.2.2.2.1 (lin hi hL 1 (by decide)) dL_law_673 ?_
  refine lv_aload_n hx hb dL_law_674 rfl (lv_at hl 0 rfl) ?_
  refine lv_iload_n hx hb dL_law_675 rfl (lv_at hl 3 rfl) ?_
  refine lv_iconst (v := 2) hx hb dL_law_676 (by decide) ?_
  refine lv_iadd hx hb dL_law_677 ?_
  refine va_sld hx hb hX hbl hbA hW.2.2.2.1 (lin hi hL 2 (by decide)) dL_law_678 ?_
  refine lv_aload_n hx hb dL_law_679 rfl (lv_at hl 0 rfl) ?_
  refine lv_iload_n hx hb dL_law_680 rfl (lv_at hl 3 rfl) ?_
  refine lv_iconst (v := 3) hx hb dL_law_681 (by decide) ?_
  refine lv_iadd hx hb dL_law_682 ?_
  refine va_sld hx hb hX hbl hbA hW.2.2.2.1 (lin hi hL 3 (by decide)) dL_law_683 ?_
  refine lv_aload_n hx hb dL_law_684 rfl (lv_at hl 0 rfl) ?_
  refine lv_iload_n hx hb dL_law_685 rfl (lv_at hl 3 rfl) ?_
  refine lv_iconst (v := 4) hx hb dL_law_686 (by decide) ?_
  refine lv_iadd hx hb dL_law_687 ?_
  refine va_sld hx hb hX hbl hbA hW.2.2.2.1 (lin hi hL 4 (by decide)) dL_law_688 ?_
  refine kL_X11_meal (gm := gmL g m0 a cZ cB) (wr := xw g σ1) C (wi_swap hW) (mty_in g m0 a cZ cB) (by decide) (by decide) hl.1 (Nat.le_of_ble_eq_true rfl) dL_law_689 (show cells ≤ 600000 by omega) (show slots ≤ 7302250 by omega) hq (fun r2 μ1 H locs hq hW => ?_)
  replace hW := wi_swap hW
  obtain ⟨rfl, hq⟩ := hq
  exact lv_icmp_eq (tgt := 1160) hx hb dL_law_692 (by decide) (fun _ => kk g _ _ _ _ _ _ (by omega) (by omega) hq hW hl) (fun h => absurd rfl h)
set_option maxHeartbeats 4000000 in
set_option maxRecDepth 100000 in
theorem lc_bite {K : XG → XS → MS → Prop} (C : CallFix p m c cL_law 4 s #[Value.ref b] lwg RL) (hX : va_X b L xs s s.heap) (hbl : b < s.heap.size) (hZ : zst em (ALs s) s s.heap) (hL : L ≤ 3584) (hi : i + 7 ≤ L) (hc : cells + 2 ≤ 600000) (hs : slots + 14 ≤ 7302250) (hW : WI g.1 idw (tyL g cZ cB) (ALs s) s (LW g σ m0 a cZ cB μ) H locs) (hl : lv_has ls 4 [(0, .ref b), (1, .ref (g.2.1 0)), (2, .ref m0), (3, .int (nI i))]) (hq : qX10_bite g σ ((xs (nI i + 1).toNatClampNeg)) ((xs (nI i + 2).toNatClampNeg)) ((xs (nI i + 3).toNatClampNeg)) ((xs (nI i + 4).toNatClampNeg)) ((xs (nI i + 5).toNatClampNeg)) (fun r σ1 => qX11_bite μ ((xs (nI i + 1).toNatClampNeg)) ((xs (nI i + 2).toNatClampNeg)) ((xs (nI i + 3).toNatClampNeg)) ((xs (nI i + 4).toNatClampNeg)) ((xs (nI i + 5).toNatClampNeg)) (fun r2 μ1 => r = r2 ∧ K g σ1 μ1)))
    (kk : ∀ (g : XG) (σ : XS) (μ : MS) (H : Heap) (locs : List Loc) (cells1 slots1 : Nat), cells1 ≤ cells + 2 → slots1 ≤ slots + 14 → K g σ μ → WI g.1 idw (tyL g cZ cB) (ALs s) s (LW g σ m0 a cZ cB μ) H locs → lv_has ls 4 [(0, .ref b), (1, .ref (g.2.1 0)), (2, .ref m0), (3, .int (nI i))] → W p l e room_1 s m #[Value.ref b] below meth c H locs cells1 slots1 Q (F0 m 1160 ls [])) : W p l e room_1 s m #[Value.ref b] below meth c H locs cells slots Q (F0 m 697 ls []) := by
  have hx := C.1
  have hb := C.2.1
  have hbA : ¬ ALs s b := Nat.not_le.mpr hbl
  refine lv_aload_n hx hb dL_law_697 rfl (lv_at hl 1 rfl) ?_
  refine lv_aload_n hx hb dL_law_698 rfl (lv_at hl 0 rfl) ?_
  refine lv_iload_n hx hb dL_law_699 rfl (lv_at hl 3 rfl) ?_
  refine lv_iconst (v := 1) hx hb dL_law_700 (by decide) ?_
  refine lv_iadd hx hb dL_law_701 ?_
  refine va_sld hx hb hX hbl hbA hW.2.2.2.1 (lin hi hL 1 (by decide)) dL_law_702 ?_
  refine lv_aload_n hx hb dL_law_703 rfl (lv_at hl 0 rfl) ?_
  refine lv_iload_n hx hb dL_law_704 rfl (lv_at hl 3 rfl) ?_
  refine lv_iconst (v := 2) hx hb dL_law_705 (by decide) ?_
  refine lv_iadd hx hb dL_law_706 ?_
  refine va_sld hx hb hX hbl hbA hW.2.2.2.1 (lin hi hL 2 (by decide)) dL_law_707 ?_
  refine lv_aload_n hx hb dL_law_708 rfl (lv_at hl 0 rfl) ?_
  refine lv_iload_n hx hb dL_law_709 rfl (lv_at hl 3 rfl) ?_
  refine lv_iconst (v := 3) hx hb dL_law_710 (by decide) ?_
  refine lv_iadd hx hb dL_law_711 ?_
  refine va_sld hx hb hX hbl hbA hW.2.2.2.1 (lin hi hL 3 (by decide)) dL_law_712 ?_
  refine lv_aload_n hx hb dL_law_713 rfl (lv_at hl 0 rfl) ?_
  refine lv_iload_n hx hb dL_law_714 rfl (lv_at hl 3 rfl) ?_
  refine lv_iconst (v := 4) hx hb dL_law_715 (by decide) ?_
  refine lv_iadd hx hb dL_law_716 ?_
  refine va_sld hx hb hX hbl hbA hW.2.2.2.1 (lin hi hL 4 (by decide)) dL_law_717 ?_
  refine lv_aload_n hx hb dL_law_718 rfl (lv_at hl 0 rfl) ?_
  refine lv_iload_n hx hb dL_law_719 rfl (lv_at hl 3 rfl) ?_
  refine lv_iconst (v := 5) hx hb dL_law_720 (by decide) ?_
  refine lv_iadd hx hb dL_law_721 ?_
  refine va_sld hx hb hX hbl hbA hW.2.2.2.1 (lin hi hL 5 (by decide)) dL_law_722 ?_
  refine kL_X10_bite (wr := mw (gmL g m0 a cZ cB) μ) C hW (xty_in g cZ cB) (by decide) (by decide) hl.1 (Nat.le_of_ble_eq_true rfl) dL_law_723 (show cells ≤ 600000 by omega) (show slots ≤ 7302250 by omega) hq (fun r σ1 H locs hq hW => ?_)
  refine lv_aload_n hx hb dL_law_726 rfl (lv_at hl 2 rfl) ?_
  refine lv_aload_n hx hb dL_law_727 rfl (lv_at hl 0 rfl) ?_
  refine lv_iload_n hx hb dL_law_728 rfl (lv_at hl 3 rfl) ?_
  refine lv_iconst (v := 1) hx hb dL_law_729 (by decide) ?_
  refine lv_iadd hx hb dL_law_730 ?_
  refine va_sld hx hb hX hbl hbA hW.2.2.2.1 (lin hi hL 1 (by decide)) dL_law_731 ?_
  refine lv_aload_n hx hb dL_law_732 rfl (lv_at hl 0 rfl) ?_
  refine lv_iload_n hx hb dL_law_733 rfl (lv_at hl 3 rfl) ?_
  refine lv_iconst (v := 2) hx hb dL_law_734 (by decide) ?_
  refine lv_iadd hx hb dL_law_735 ?_
  refine va_sld hx hb hX hbl hbA hW.2.2.2.1 (lin hi hL 2 (by decide)) dL_law_736 ?_
  refine lv_aload_n hx hb dL_law_737 rfl (lv_at hl 0 rfl) ?_
  refine lv_iload_n hx hb dL_law_738 rfl (lv_at hl 3 rfl) ?_
  refine lv_iconst (v := 3) hx hb dL_law_739 (by decide) ?_
  refine lv_iadd hx hb dL_law_740 ?_
  refine va_sld hx hb hX hbl hbA hW.2.2.2.1 (lin hi hL 3 (by decide)) dL_law_741 ?_
  refine lv_aload_n hx hb dL_law_742 rfl (lv_at hl 0 rfl) ?_
  refine lv_iload_n hx hb dL_law_743 rfl (lv_at hl 3 rfl) ?_
  refine lv_iconst (v := 4) hx hb dL_law_744 (by decide) ?_
  refine lv_iadd hx hb dL_law_745 ?_
  refine va_sld hx hb hX hbl hbA hW.2.2.2.1 (lin hi hL 4 (by decide)) dL_law_746 ?_
  refine lv_aload_n hx hb dL_law_747 rfl (lv_at hl 0 rfl) ?_
  refine lv_iload_n hx hb dL_law_748 rfl (lv_at hl 3 rfl) ?_
  refine lv_iconst (v := 5) hx hb dL_law_749 (by decide) ?_
  refine lv_iadd hx hb dL_law_750 ?_
  refine va_sld hx hb hX hbl hbA hW.2.2.2.1 (lin hi hL 5 (by decide)) dL_law_751 ?_
  refine kL_X11_bite (gm := gmL g m0 a cZ cB) (wr := xw g σ1) C (wi_swap hW) (mty_in g m0 a cZ cB) (by decide) (by decide) hl.1 (Nat.le_of_ble_eq_true rfl) dL_law_752 (show cells ≤ 600000 by omega) (show slots ≤ 7302250 by omega) hq (fun r2 μ1 H locs hq hW => ?_)
  replace hW := wi_swap hW
  obtain ⟨rfl, hq⟩ := hq
  exact lv_icmp_eq (tgt := 1160) hx hb dL_law_755 (by decide) (fun _ => kk g _ _ _ _ _ _ (by omega) (by omega) hq hW hl) (fun h => absurd rfl h)
set_option maxHeartbeats 4000000 in
set_option maxRecDepth 100000 in
theorem lc_least {K : XG → XS → MS → Prop} (C : CallFix p m c cL_law 4 s #[Value.ref b] lwg RL) (hX : va_X b L xs s s.heap) (hbl : b < s.heap.size) (hZ : zst em (ALs s) s s.heap) (hL : L ≤ 3584) (hi : i + 7 ≤ L) (hc : cells + 2 ≤ 600000) (hs : slots + 14 ≤ 7302250) (hW : WI g.1 idw (tyL g cZ cB) (ALs s) s (LW g σ m0 a cZ cB μ) H locs) (hl : lv_has ls 4 [(0, .ref b), (1, .ref (g.2.1 0)), (2, .ref m0), (3, .int (nI i))]) (hq : qX10_least g σ ((xs (nI i + 1).toNatClampNeg)) ((xs (nI i + 2).toNatClampNeg)) (fun r σ1 => qX11_least μ ((xs (nI i + 1).toNatClampNeg)) ((xs (nI i + 2).toNatClampNeg)) (fun r2 μ1 => r = r2 ∧ K g σ1 μ1)))
    (kk : ∀ (g : XG) (σ : XS) (μ : MS) (H : Heap) (locs : List Loc) (cells1 slots1 : Nat), cells1 ≤ cells + 2 → slots1 ≤ slots + 14 → K g σ μ → WI g.1 idw (tyL g cZ cB) (ALs s) s (LW g σ m0 a cZ cB μ) H locs → lv_has ls 4 [(0, .ref b), (1, .ref (g.2.1 0)), (2, .ref m0), (3, .int (nI i))] → W p l e room_1 s m #[Value.ref b] below meth c H locs cells1 slots1 Q (F0 m 1160 ls [])) : W p l e room_1 s m #[Value.ref b] below meth c H locs cells slots Q (F0 m 760 ls []) := by
  have hx := C.1
  have hb := C.2.1
  have hbA : ¬ ALs s b := Nat.not_le.mpr hbl
  refine lv_aload_n hx hb dL_law_760 rfl (lv_at hl 1 rfl) ?_
  refine lv_aload_n hx hb dL_law_761 rfl (lv_at hl 0 rfl) ?_
  refine lv_iload_n hx hb dL_law_762 rfl (lv_at hl 3 rfl) ?_
  refine lv_iconst (v := 1) hx hb dL_law_763 (by decide) ?_
  refine lv_iadd hx hb dL_law_764 ?_
  refine va_sld hx hb hX hbl hbA hW.2.2.2.1 (lin hi hL 1 (by decide)) dL_law_765 ?_
  refine lv_aload_n hx hb dL_law_766 rfl (lv_at hl 0 rfl) ?_
  refine lv_iload_n hx hb dL_law_767 rfl (lv_at hl 3 rfl) ?_
  refine lv_iconst (v := 2) hx hb dL_law_768 (by decide) ?_
  refine lv_iadd hx hb dL_law_769 ?_
  refine va_sld hx hb hX hbl hbA hW.2.2.2.1 (lin hi hL 2 (by decide)) dL_law_770 ?_
  refine kL_X10_least (wr := mw (gmL g m0 a cZ cB) μ) C hW (xty_in g cZ cB) (by decide) (by decide) hl.1 (Nat.le_of_ble_eq_true rfl) dL_law_771 (show cells ≤ 600000 by omega) (show slots ≤ 7302250 by omega) hq (fun r σ1 H locs hq hW => ?_)
  refine lv_aload_n hx hb dL_law_774 rfl (lv_at hl 2 rfl) ?_
  refine lv_aload_n hx hb dL_law_775 rfl (lv_at hl 0 rfl) ?_
  refine lv_iload_n hx hb dL_law_776 rfl (lv_at hl 3 rfl) ?_
  refine lv_iconst (v := 1) hx hb dL_law_777 (by decide) ?_
  refine lv_iadd hx hb dL_law_778 ?_
  refine va_sld hx hb hX hbl hbA hW.2.2.2.1 (lin hi hL 1 (by decide)) dL_law_779 ?_
  refine lv_aload_n hx hb dL_law_780 rfl (lv_at hl 0 rfl) ?_
  refine lv_iload_n hx hb dL_law_781 rfl (lv_at hl 3 rfl) ?_
  refine lv_iconst (v := 2) hx hb dL_law_782 (by decide) ?_
  refine lv_iadd hx hb dL_law_783 ?_
  refine va_sld hx hb hX hbl hbA hW.2.2.2.1 (lin hi hL 2 (by decide)) dL_law_784 ?_
  refine kL_X11_least (gm := gmL g m0 a cZ cB) (wr := xw g σ1) C (wi_swap hW) (mty_in g m0 a cZ cB) (by decide) (by decide) hl.1 (Nat.le_of_ble_eq_true rfl) dL_law_785 (show cells ≤ 600000 by omega) (show slots ≤ 7302250 by omega) hq (fun r2 μ1 H locs hq hW => ?_)
  replace hW := wi_swap hW
  obtain ⟨rfl, hq⟩ := hq
  exact lv_icmp_eq (tgt := 1160) hx hb dL_law_788 (by decide) (fun _ => kk g _ _ _ _ _ _ (by omega) (by omega) hq hW hl) (fun h => absurd rfl h)
set_option maxHeartbeats 4000000 in
set_option maxRecDepth 100000 in
theorem lc_bestStart {K : XG → XS → MS → Prop} (C : CallFix p m c cL_law 4 s #[Value.ref b] lwg RL) (hX : va_X b L xs s s.heap) (hbl : b < s.heap.size) (hZ : zst em (ALs s) s s.heap) (hL : L ≤ 3584) (hi : i + 7 ≤ L) (hc : cells + 2 ≤ 600000) (hs : slots + 14 ≤ 7302250) (hW : WI g.1 idw (tyL g cZ cB) (ALs s) s (LW g σ m0 a cZ cB μ) H locs) (hl : lv_has ls 4 [(0, .ref b), (1, .ref (g.2.1 0)), (2, .ref m0), (3, .int (nI i))]) (hq : qX10_bestStart g σ ((xs (nI i + 1).toNatClampNeg)) (fun r σ1 => qX11_bestStart μ ((xs (nI i + 1).toNatClampNeg)) (fun r2 μ1 => r = r2 ∧ K g σ1 μ1)))
    (kk : ∀ (g : XG) (σ : XS) (μ : MS) (H : Heap) (locs : List Loc) (cells1 slots1 : Nat), cells1 ≤ cells + 2 → slots1 ≤ slots + 14 → K g σ μ → WI g.1 idw (tyL g cZ cB) (ALs s) s (LW g σ m0 a cZ cB μ) H locs → lv_has ls 4 [(0, .ref b), (1, .ref (g.2.1 0)), (2, .ref m0), (3, .int (nI i))] → W p l e room_1 s m #[Value.ref b] below meth c H locs cells1 slots1 Q (F0 m 1160 ls [])) : W p l e room_1 s m #[Value.ref b] below meth c H locs cells slots Q (F0 m 793 ls []) := by
  have hx := C.1
  have hb := C.2.1
  have hbA : ¬ ALs s b := Nat.not_le.mpr hbl
  refine lv_aload_n hx hb dL_law_793 rfl (lv_at hl 1 rfl) ?_
  refine lv_aload_n hx hb dL_law_794 rfl (lv_at hl 0 rfl) ?_
  refine lv_iload_n hx hb dL_law_795 rfl (lv_at hl 3 rfl) ?_
  refine lv_iconst (v := 1) hx hb dL_law_796 (by decide) ?_
  refine lv_iadd hx hb dL_law_797 ?_
  refine va_sld hx hb hX hbl hbA hW.2.2.2.1 (lin hi hL 1 (by decide)) dL_law_798 ?_
  refine kL_X10_bestStart (wr := mw (gmL g m0 a cZ cB) μ) C hW (xty_in g cZ cB) (by decide) (by decide) hl.1 (Nat.le_of_ble_eq_true rfl) dL_law_799 (show cells ≤ 600000 by omega) (show slots ≤ 7302250 by omega) hq (fun r σ1 H locs hq hW => ?_)
  refine lv_aload_n hx hb dL_law_802 rfl (lv_at hl 2 rfl) ?_
  refine lv_aload_n hx hb dL_law_803 rfl (lv_at hl 0 rfl) ?_
  refine lv_iload_n hx hb dL_law_804 rfl (lv_at hl 3 rfl) ?_
  refine lv_iconst (v := 1) hx hb dL_law_805 (by decide) ?_
  refine lv_iadd hx hb dL_law_806 ?_
  refine va_sld hx hb hX hbl hbA hW.2.2.2.1 (lin hi hL 1 (by decide)) dL_law_807 ?_
  refine kL_X11_bestStart (gm := gmL g m0 a cZ cB) (wr := xw g σ1) C (wi_swap hW) (mty_in g m0 a cZ cB) (by decide) (by decide) hl.1 (Nat.le_of_ble_eq_true rfl) dL_law_808 (show cells ≤ 600000 by omega) (show slots ≤ 7302250 by omega) hq (fun r2 μ1 H locs hq hW => ?_)
  replace hW := wi_swap hW
  obtain ⟨rfl, hq⟩ := hq
  exact lv_icmp_eq (tgt := 1160) hx hb dL_law_811 (by decide) (fun _ => kk g _ _ _ _ _ _ (by omega) (by omega) hq hW hl) (fun h => absurd rfl h)
set_option maxHeartbeats 4000000 in
set_option maxRecDepth 100000 in
theorem lc_bestSwap {K : XG → XS → MS → Prop} (C : CallFix p m c cL_law 4 s #[Value.ref b] lwg RL) (hX : va_X b L xs s s.heap) (hbl : b < s.heap.size) (hZ : zst em (ALs s) s s.heap) (hL : L ≤ 3584) (hi : i + 7 ≤ L) (hc : cells + 2 ≤ 600000) (hs : slots + 14 ≤ 7302250) (hW : WI g.1 idw (tyL g cZ cB) (ALs s) s (LW g σ m0 a cZ cB μ) H locs) (hl : lv_has ls 4 [(0, .ref b), (1, .ref (g.2.1 0)), (2, .ref m0), (3, .int (nI i))]) (hq : qX10_bestSwap g σ ((xs (nI i + 1).toNatClampNeg)) ((xs (nI i + 2).toNatClampNeg)) (fun r σ1 => qX11_bestSwap μ ((xs (nI i + 1).toNatClampNeg)) ((xs (nI i + 2).toNatClampNeg)) (fun r2 μ1 => r = r2 ∧ K g σ1 μ1)))
    (kk : ∀ (g : XG) (σ : XS) (μ : MS) (H : Heap) (locs : List Loc) (cells1 slots1 : Nat), cells1 ≤ cells + 2 → slots1 ≤ slots + 14 → K g σ μ → WI g.1 idw (tyL g cZ cB) (ALs s) s (LW g σ m0 a cZ cB μ) H locs → lv_has ls 4 [(0, .ref b), (1, .ref (g.2.1 0)), (2, .ref m0), (3, .int (nI i))] → W p l e room_1 s m #[Value.ref b] below meth c H locs cells1 slots1 Q (F0 m 1160 ls [])) : W p l e room_1 s m #[Value.ref b] below meth c H locs cells slots Q (F0 m 816 ls []) := by
  have hx := C.1
  have hb := C.2.1
  have hbA : ¬ ALs s b := Nat.not_le.mpr hbl
  refine lv_aload_n hx hb dL_law_816 rfl (lv_at hl 1 rfl) ?_
  refine lv_aload_n hx hb dL_law_817 rfl (lv_at hl 0 rfl) ?_
  refine lv_iload_n hx hb dL_law_818 rfl (lv_at hl 3 rfl) ?_
  refine lv_iconst (v := 1) hx hb dL_law_819 (by decide) ?_
  refine lv_iadd hx hb dL_law_820 ?_
  refine va_sld hx hb hX hbl hbA hW.2.2.2.1 (lin hi hL 1 (by decide)) dL_law_821 ?_
  refine lv_aload_n hx hb dL_law_822 rfl (lv_at hl 0 rfl) ?_
  refine lv_iload_n hx hb dL_law_823 rfl (lv_at hl 3 rfl) ?_
  refine lv_iconst (v := 2) hx hb dL_law_824 (by decide) ?_
  refine lv_iadd hx hb dL_law_825 ?_
  refine va_sld hx hb hX hbl hbA hW.2.2.2.1 (lin hi hL 2 (by decide)) dL_law_826 ?_
  refine kL_X10_bestSwap (wr := mw (gmL g m0 a cZ cB) μ) C hW (xty_in g cZ cB) (by decide) (by decide) hl.1 (Nat.le_of_ble_eq_true rfl) dL_law_827 (show cells ≤ 600000 by omega) (show slots ≤ 7302250 by omega) hq (fun r σ1 H locs hq hW => ?_)
  refine lv_aload_n hx hb dL_law_830 rfl (lv_at hl 2 rfl) ?_
  refine lv_aload_n hx hb dL_law_831 rfl (lv_at hl 0 rfl) ?_
  refine lv_iload_n hx hb dL_law_832 rfl (lv_at hl 3 rfl) ?_
  refine lv_iconst (v := 1) hx hb dL_law_833 (by decide) ?_
  refine lv_iadd hx hb dL_law_834 ?_
  refine va_sld hx hb hX hbl hbA hW.2.2.2.1 (lin hi hL 1 (by decide)) dL_law_835 ?_
  refine lv_aload_n hx hb dL_law_836 rfl (lv_at hl 0 rfl) ?_
  refine lv_iload_n hx hb dL_law_837 rfl (lv_at hl 3 rfl) ?_
  refine lv_iconst (v := 2) hx hb dL_law_838 (by decide) ?_
  refine lv_iadd hx hb dL_law_839 ?_
  refine va_sld hx hb hX hbl hbA hW.2.2.2.1 (lin hi hL 2 (by decide)) dL_law_840 ?_
  refine kL_X11_bestSwap (gm := gmL g m0 a cZ cB) (wr := xw g σ1) C (wi_swap hW) (mty_in g m0 a cZ cB) (by decide) (by decide) hl.1 (Nat.le_of_ble_eq_true rfl) dL_law_841 (show cells ≤ 600000 by omega) (show slots ≤ 7302250 by omega) hq (fun r2 μ1 H locs hq hW => ?_)
  replace hW := wi_swap hW
  obtain ⟨rfl, hq⟩ := hq
  exact lv_icmp_eq (tgt := 1160) hx hb dL_law_844 (by decide) (fun _ => kk g _ _ _ _ _ _ (by omega) (by omega) hq hW hl) (fun h => absurd rfl h)
set_option maxHeartbeats 4000000 in
set_option maxRecDepth 100000 in
theorem lc_bestStir {K : XG → XS → MS → Prop} (C : CallFix p m c cL_law 4 s #[Value.ref b] lwg RL) (hX : va_X b L xs s s.heap) (hbl : b < s.heap.size) (hZ : zst em (ALs s) s s.heap) (hL : L ≤ 3584) (hi : i + 7 ≤ L) (hc : cells + 2 ≤ 600000) (hs : slots + 14 ≤ 7302250) (hW : WI g.1 idw (tyL g cZ cB) (ALs s) s (LW g σ m0 a cZ cB μ) H locs) (hl : lv_has ls 4 [(0, .ref b), (1, .ref (g.2.1 0)), (2, .ref m0), (3, .int (nI i))]) (hq : qX10_bestStir g σ ((xs (nI i + 1).toNatClampNeg)) ((xs (nI i + 2).toNatClampNeg)) (fun r σ1 => qX11_bestStir μ ((xs (nI i + 1).toNatClampNeg)) ((xs (nI i + 2).toNatClampNeg)) (fun r2 μ1 => r = r2 ∧ K g σ1 μ1)))
    (kk : ∀ (g : XG) (σ : XS) (μ : MS) (H : Heap) (locs : List Loc) (cells1 slots1 : Nat), cells1 ≤ cells + 2 → slots1 ≤ slots + 14 → K g σ μ → WI g.1 idw (tyL g cZ cB) (ALs s) s (LW g σ m0 a cZ cB μ) H locs → lv_has ls 4 [(0, .ref b), (1, .ref (g.2.1 0)), (2, .ref m0), (3, .int (nI i))] → W p l e room_1 s m #[Value.ref b] below meth c H locs cells1 slots1 Q (F0 m 1160 ls [])) : W p l e room_1 s m #[Value.ref b] below meth c H locs cells slots Q (F0 m 849 ls []) := by
  have hx := C.1
  have hb := C.2.1
  have hbA : ¬ ALs s b := Nat.not_le.mpr hbl
  refine lv_aload_n hx hb dL_law_849 rfl (lv_at hl 1 rfl) ?_
  refine lv_aload_n hx hb dL_law_850 rfl (lv_at hl 0 rfl) ?_
  refine lv_iload_n hx hb dL_law_851 rfl (lv_at hl 3 rfl) ?_
  refine lv_iconst (v := 1) hx hb dL_law_852 (by decide) ?_
  refine lv_iadd hx hb dL_law_853 ?_
  refine va_sld hx hb hX hbl hbA hW.2.2.2.1 (lin hi hL 1 (by decide)) dL_law_854 ?_
  refine lv_aload_n hx hb dL_law_855 rfl (lv_at hl 0 rfl) ?_
  refine lv_iload_n hx hb dL_law_856 rfl (lv_at hl 3 rfl) ?_
  refine lv_iconst (v := 2) hx hb dL_law_857 (by decide) ?_
  refine lv_iadd hx hb dL_law_858 ?_
  refine va_sld hx hb hX hbl hbA hW.2.2.2.1 (lin hi hL 2 (by decide)) dL_law_859 ?_
  refine kL_X10_bestStir (wr := mw (gmL g m0 a cZ cB) μ) C hW (xty_in g cZ cB) (by decide) (by decide) hl.1 (Nat.le_of_ble_eq_true rfl) dL_law_860 (show cells ≤ 600000 by omega) (show slots ≤ 7302250 by omega) hq (fun r σ1 H locs hq hW => ?_)
  refine lv_aload_n hx hb dL_law_863 rfl (lv_at hl 2 rfl) ?_
  refine lv_aload_n hx hb dL_law_864 rfl (lv_at hl 0 rfl) ?_
  refine lv_iload_n hx hb dL_law_865 rfl (lv_at hl 3 rfl) ?_
  refine lv_iconst (v := 1) hx hb dL_law_866 (by decide) ?_
  refine lv_iadd hx hb dL_law_867 ?_
  refine va_sld hx hb hX hbl hbA hW.2.2.2.1 (lin hi hL 1 (by decide)) dL_law_868 ?_
  refine lv_aload_n hx hb dL_law_869 rfl (lv_at hl 0 rfl) ?_
  refine lv_iload_n hx hb dL_law_870 rfl (lv_at hl 3 rfl) ?_
  refine lv_iconst (v := 2) hx hb dL_law_871 (by decide) ?_
  refine lv_iadd hx hb dL_law_872 ?_
  refine va_sld hx hb hX hbl hbA hW.2.2.2.1 (lin hi hL 2 (by decide)) dL_law_873 ?_
  refine kL_X11_bestStir (gm := gmL g m0 a cZ cB) (wr := xw g σ1) C (wi_swap hW) (mty_in g m0 a cZ cB) (by decide) (by decide) hl.1 (Nat.le_of_ble_eq_true rfl) dL_law_874 (show cells ≤ 600000 by omega) (show slots ≤ 7302250 by omega) hq (fun r2 μ1 H locs hq hW => ?_)
  replace hW := wi_swap hW
  obtain ⟨rfl, hq⟩ := hq
  exact lv_icmp_eq (tgt := 1160) hx hb dL_law_877 (by decide) (fun _ => kk g _ _ _ _ _ _ (by omega) (by omega) hq hW hl) (fun h => absurd rfl h)
set_option maxHeartbeats 4000000 in
set_option maxRecDepth 100000 in
theorem lc_live {K : XG → XS → MS → Prop} (C : CallFix p m c cL_law 4 s #[Value.ref b] lwg RL) (hX : va_X b L xs s s.heap) (hbl : b < s.heap.size) (hZ : zst em (ALs s) s s.heap) (hL : L ≤ 3584) (hi : i + 7 ≤ L) (hc : cells + 2 ≤ 600000) (hs : slots + 14 ≤ 7302250) (hW : WI g.1 idw (tyL g cZ cB) (ALs s) s (LW g σ m0 a cZ cB μ) H locs) (hl : lv_has ls 4 [(0, .ref b), (1, .ref (g.2.1 0)), (2, .ref m0), (3, .int (nI i))]) (hq : qX10_live g σ ((xs (nI i + 1).toNatClampNeg)) ((xs (nI i + 2).toNatClampNeg)) ((xs (nI i + 3).toNatClampNeg)) (fun r σ1 => qX11_live μ ((xs (nI i + 1).toNatClampNeg)) ((xs (nI i + 2).toNatClampNeg)) ((xs (nI i + 3).toNatClampNeg)) (fun r2 μ1 => r = r2 ∧ K g σ1 μ1)))
    (kk : ∀ (g : XG) (σ : XS) (μ : MS) (H : Heap) (locs : List Loc) (cells1 slots1 : Nat), cells1 ≤ cells + 2 → slots1 ≤ slots + 14 → K g σ μ → WI g.1 idw (tyL g cZ cB) (ALs s) s (LW g σ m0 a cZ cB μ) H locs → lv_has ls 4 [(0, .ref b), (1, .ref (g.2.1 0)), (2, .ref m0), (3, .int (nI i))] → W p l e room_1 s m #[Value.ref b] below meth c H locs cells1 slots1 Q (F0 m 1160 ls [])) : W p l e room_1 s m #[Value.ref b] below meth c H locs cells slots Q (F0 m 882 ls []) := by
  have hx := C.1
  have hb := C.2.1
  have hbA : ¬ ALs s b := Nat.not_le.mpr hbl
  refine lv_aload_n hx hb dL_law_882 rfl (lv_at hl 1 rfl) ?_
  refine lv_aload_n hx hb dL_law_883 rfl (lv_at hl 0 rfl) ?_
  refine lv_iload_n hx hb dL_law_884 rfl (lv_at hl 3 rfl) ?_
  refine lv_iconst (v := 1) hx hb dL_law_885 (by decide) ?_
  refine lv_iadd hx hb dL_law_886 ?_
  refine va_sld hx hb hX hbl hbA hW.2.2.2.1 (lin hi hL 1 (by decide)) dL_law_887 ?_
  refine lv_aload_n hx hb dL_law_888 rfl (lv_at hl 0 rfl) ?_
  refine lv_iload_n hx hb dL_law_889 rfl (lv_at hl 3 rfl) ?_
  refine lv_iconst (v := 2) hx hb dL_law_890 (by decide) ?_
  refine lv_iadd hx hb dL_law_891 ?_
  refine va_sld hx hb hX hbl hbA hW.2.2.2.1 (lin hi hL 2 (by decide)) dL_law_892 ?_
  refine lv_aload_n hx hb dL_law_893 rfl (lv_at hl 0 rfl) ?_
  refine lv_iload_n hx hb dL_law_894 rfl (lv_at hl 3 rfl) ?_
  refine lv_iconst (v := 3) hx hb dL_law_895 (by decide) ?_
  refine lv_iadd hx hb dL_law_896 ?_
  refine va_sld hx hb hX hbl hbA hW.2.2.2.1 (lin hi hL 3 (by decide)) dL_law_897 ?_
  refine kL_X10_live (wr := mw (gmL g m0 a cZ cB) μ) C hW (xty_in g cZ cB) (by decide) (by decide) hl.1 (Nat.le_of_ble_eq_true rfl) dL_law_898 (show cells ≤ 600000 by omega) (show slots ≤ 7302250 by omega) hq (fun r σ1 H locs hq hW => ?_)
  refine lv_aload_n hx hb dL_law_901 rfl (lv_at hl 2 rfl) ?_
  refine lv_aload_n hx hb dL_law_902 rfl (lv_at hl 0 rfl) ?_
  refine lv_iload_n hx hb dL_law_903 rfl (lv_at hl 3 rfl) ?_
  refine lv_iconst (v := 1) hx hb dL_law_904 (by decide) ?_
  refine lv_iadd hx hb dL_law_905 ?_
  refine va_sld hx hb hX hbl hbA hW.2.2.2.1 (lin hi hL 1 (by decide)) dL_law_906 ?_
  refine lv_aload_n hx hb dL_law_907 rfl (lv_at hl 0 rfl) ?_
  refine lv_iload_n hx hb dL_law_908 rfl (lv_at hl 3 rfl) ?_
  refine lv_iconst (v := 2) hx hb dL_law_909 (by decide) ?_
  refine lv_iadd hx hb dL_law_910 ?_
  refine va_sld hx hb hX hbl hbA hW.2.2.2.1 (lin hi hL 2 (by decide)) dL_law_911 ?_
  refine lv_aload_n hx hb dL_law_912 rfl (lv_at hl 0 rfl) ?_
  refine lv_iload_n hx hb dL_law_913 rfl (lv_at hl 3 rfl) ?_
  refine lv_iconst (v := 3) hx hb dL_law_914 (by decide) ?_
  refine lv_iadd hx hb dL_law_915 ?_
  refine va_sld hx hb hX hbl hbA hW.2.2.2.1 (lin hi hL 3 (by decide)) dL_law_916 ?_
  refine kL_X11_live (gm := gmL g m0 a cZ cB) (wr := xw g σ1) C (wi_swap hW) (mty_in g m0 a cZ cB) (by decide) (by decide) hl.1 (Nat.le_of_ble_eq_true rfl) dL_law_917 (show cells ≤ 600000 by omega) (show slots ≤ 7302250 by omega) hq (fun r2 μ1 H locs hq hW => ?_)
  replace hW := wi_swap hW
  obtain ⟨rfl, hq⟩ := hq
  exact lv_icmp_eq (tgt := 1160) hx hb dL_law_920 (by decide) (fun _ => kk g _ _ _ _ _ _ (by omega) (by omega) hq hW hl) (fun h => absurd rfl h)
set_option maxHeartbeats 4000000 in
set_option maxRecDepth 100000 in
theorem lc_starves {K : XG → XS → MS → Prop} (C : CallFix p m c cL_law 4 s #[Value.ref b] lwg RL) (hX : va_X b L xs s s.heap) (hbl : b < s.heap.size) (hZ : zst em (ALs s) s s.heap) (hL : L ≤ 3584) (hi : i + 7 ≤ L) (hc : cells + 2 ≤ 600000) (hs : slots + 14 ≤ 7302250) (hW : WI g.1 idw (tyL g cZ cB) (ALs s) s (LW g σ m0 a cZ cB μ) H locs) (hl : lv_has ls 4 [(0, .ref b), (1, .ref (g.2.1 0)), (2, .ref m0), (3, .int (nI i))]) (hq : qX10_starves g σ ((xs (nI i + 1).toNatClampNeg)) ((xs (nI i + 2).toNatClampNeg)) ((xs (nI i + 3).toNatClampNeg)) (fun r σ1 => qX11_starves μ ((xs (nI i + 1).toNatClampNeg)) ((xs (nI i + 2).toNatClampNeg)) ((xs (nI i + 3).toNatClampNeg)) (fun r2 μ1 => r = r2 ∧ K g σ1 μ1)))
    (kk : ∀ (g : XG) (σ : XS) (μ : MS) (H : Heap) (locs : List Loc) (cells1 slots1 : Nat), cells1 ≤ cells + 2 → slots1 ≤ slots + 14 → K g σ μ → WI g.1 idw (tyL g cZ cB) (ALs s) s (LW g σ m0 a cZ cB μ) H locs → lv_has ls 4 [(0, .ref b), (1, .ref (g.2.1 0)), (2, .ref m0), (3, .int (nI i))] → W p l e room_1 s m #[Value.ref b] below meth c H locs cells1 slots1 Q (F0 m 1160 ls [])) : W p l e room_1 s m #[Value.ref b] below meth c H locs cells slots Q (F0 m 925 ls []) := by
  have hx := C.1
  have hb := C.2.1
  have hbA : ¬ ALs s b := Nat.not_le.mpr hbl
  refine lv_aload_n hx hb dL_law_925 rfl (lv_at hl 1 rfl) ?_
  refine lv_aload_n hx hb dL_law_926 rfl (lv_at hl 0 rfl) ?_
  refine lv_iload_n hx hb dL_law_927 rfl (lv_at hl 3 rfl) ?_
  refine lv_iconst (v := 1) hx hb dL_law_928 (by decide) ?_
  refine lv_iadd hx hb dL_law_929 ?_
  refine va_sld hx hb hX hbl hbA hW.2.2.2.1 (lin hi hL 1 (by decide)) dL_law_930 ?_
  refine lv_aload_n hx hb dL_law_931 rfl (lv_at hl 0 rfl) ?_
  refine lv_iload_n hx hb dL_law_932 rfl (lv_at hl 3 rfl) ?_
  refine lv_iconst (v := 2) hx hb dL_law_933 (by decide) ?_
  refine lv_iadd hx hb dL_law_934 ?_
  refine va_sld hx hb hX hbl hbA hW.2.2.2.1 (lin hi hL 2 (by decide)) dL_law_935 ?_
  refine lv_aload_n hx hb dL_law_936 rfl (lv_at hl 0 rfl) ?_
  refine lv_iload_n hx hb dL_law_937 rfl (lv_at hl 3 rfl) ?_
  refine lv_iconst (v := 3) hx hb dL_law_938 (by decide) ?_
  refine lv_iadd hx hb dL_law_939 ?_
  refine va_sld hx hb hX hbl hbA hW.2.2.2.1 (lin hi hL 3 (by decide)) dL_law_940 ?_
  refine kL_X10_starves (wr := mw (gmL g m0 a cZ cB) μ) C hW (xty_in g cZ cB) (by decide) (by decide) hl.1 (Nat.le_of_ble_eq_true rfl) dL_law_941 (show cells ≤ 600000 by omega) (show slots ≤ 7302250 by omega) hq (fun r σ1 H locs hq hW => ?_)
  refine lv_aload_n hx hb dL_law_944 rfl (lv_at hl 2 rfl) ?_
  refine lv_aload_n hx hb dL_law_945 rfl (lv_at hl 0 rfl) ?_
  refine lv_iload_n hx hb dL_law_946 rfl (lv_at hl 3 rfl) ?_
  refine lv_iconst (v := 1) hx hb dL_law_947 (by decide) ?_
  refine lv_iadd hx hb dL_law_948 ?_
  refine va_sld hx hb hX hbl hbA hW.2.2.2.1 (lin hi hL 1 (by decide)) dL_law_949 ?_
  refine lv_aload_n hx hb dL_law_950 rfl (lv_at hl 0 rfl) ?_
  refine lv_iload_n hx hb dL_law_951 rfl (lv_at hl 3 rfl) ?_
  refine lv_iconst (v := 2) hx hb dL_law_952 (by decide) ?_
  refine lv_iadd hx hb dL_law_953 ?_
  refine va_sld hx hb hX hbl hbA hW.2.2.2.1 (lin hi hL 2 (by decide)) dL_law_954 ?_
  refine lv_aload_n hx hb dL_law_955 rfl (lv_at hl 0 rfl) ?_
  refine lv_iload_n hx hb dL_law_956 rfl (lv_at hl 3 rfl) ?_
  refine lv_iconst (v := 3) hx hb dL_law_957 (by decide) ?_
  refine lv_iadd hx hb dL_law_958 ?_
  refine va_sld hx hb hX hbl hbA hW.2.2.2.1 (lin hi hL 3 (by decide)) dL_law_959 ?_
  refine kL_X11_starves (gm := gmL g m0 a cZ cB) (wr := xw g σ1) C (wi_swap hW) (mty_in g m0 a cZ cB) (by decide) (by decide) hl.1 (Nat.le_of_ble_eq_true rfl) dL_law_960 (show cells ≤ 600000 by omega) (show slots ≤ 7302250 by omega) hq (fun r2 μ1 H locs hq hW => ?_)
  replace hW := wi_swap hW
  obtain ⟨rfl, hq⟩ := hq
  exact lv_icmp_eq (tgt := 1160) hx hb dL_law_963 (by decide) (fun _ => kk g _ _ _ _ _ _ (by omega) (by omega) hq hW hl) (fun h => absurd rfl h)
set_option maxHeartbeats 4000000 in
set_option maxRecDepth 100000 in
theorem lc_fasting {K : XG → XS → MS → Prop} (C : CallFix p m c cL_law 4 s #[Value.ref b] lwg RL) (hX : va_X b L xs s s.heap) (hbl : b < s.heap.size) (hZ : zst em (ALs s) s s.heap) (hL : L ≤ 3584) (hi : i + 7 ≤ L) (hc : cells + 2 ≤ 600000) (hs : slots + 14 ≤ 7302250) (hW : WI g.1 idw (tyL g cZ cB) (ALs s) s (LW g σ m0 a cZ cB μ) H locs) (hl : lv_has ls 4 [(0, .ref b), (1, .ref (g.2.1 0)), (2, .ref m0), (3, .int (nI i))]) (hq : qX10_fasting g σ ((xs (nI i + 1).toNatClampNeg)) ((xs (nI i + 2).toNatClampNeg)) ((xs (nI i + 3).toNatClampNeg)) (fun r σ1 => qX11_fasting μ ((xs (nI i + 1).toNatClampNeg)) ((xs (nI i + 2).toNatClampNeg)) ((xs (nI i + 3).toNatClampNeg)) (fun r2 μ1 => r = r2 ∧ K g σ1 μ1)))
    (kk : ∀ (g : XG) (σ : XS) (μ : MS) (H : Heap) (locs : List Loc) (cells1 slots1 : Nat), cells1 ≤ cells + 2 → slots1 ≤ slots + 14 → K g σ μ → WI g.1 idw (tyL g cZ cB) (ALs s) s (LW g σ m0 a cZ cB μ) H locs → lv_has ls 4 [(0, .ref b), (1, .ref (g.2.1 0)), (2, .ref m0), (3, .int (nI i))] → W p l e room_1 s m #[Value.ref b] below meth c H locs cells1 slots1 Q (F0 m 1160 ls [])) : W p l e room_1 s m #[Value.ref b] below meth c H locs cells slots Q (F0 m 968 ls []) := by
  have hx := C.1
  have hb := C.2.1
  have hbA : ¬ ALs s b := Nat.not_le.mpr hbl
  refine lv_aload_n hx hb dL_law_968 rfl (lv_at hl 1 rfl) ?_
  refine lv_aload_n hx hb dL_law_969 rfl (lv_at hl 0 rfl) ?_
  refine lv_iload_n hx hb dL_law_970 rfl (lv_at hl 3 rfl) ?_
  refine lv_iconst (v := 1) hx hb dL_law_971 (by decide) ?_
  refine lv_iadd hx hb dL_law_972 ?_
  refine va_sld hx hb hX hbl hbA hW.2.2.2.1 (lin hi hL 1 (by decide)) dL_law_973 ?_
  refine lv_aload_n hx hb dL_law_974 rfl (lv_at hl 0 rfl) ?_
  refine lv_iload_n hx hb dL_law_975 rfl (lv_at hl 3 rfl) ?_
  refine lv_iconst (v := 2) hx hb dL_law_976 (by decide) ?_
  refine lv_iadd hx hb dL_law_977 ?_
  refine va_sld hx hb hX hbl hbA hW.2.2.2.1 (lin hi hL 2 (by decide)) dL_law_978 ?_
  refine lv_aload_n hx hb dL_law_979 rfl (lv_at hl 0 rfl) ?_
  refine lv_iload_n hx hb dL_law_980 rfl (lv_at hl 3 rfl) ?_
  refine lv_iconst (v := 3) hx hb dL_law_981 (by decide) ?_
  refine lv_iadd hx hb dL_law_982 ?_
  refine va_sld hx hb hX hbl hbA hW.2.2.2.1 (lin hi hL 3 (by decide)) dL_law_983 ?_
  refine kL_X10_fasting (wr := mw (gmL g m0 a cZ cB) μ) C hW (xty_in g cZ cB) (by decide) (by decide) hl.1 (Nat.le_of_ble_eq_true rfl) dL_law_984 (show cells ≤ 600000 by omega) (show slots ≤ 7302250 by omega) hq (fun r σ1 H locs hq hW => ?_)
  refine lv_aload_n hx hb dL_law_987 rfl (lv_at hl 2 rfl) ?_
  refine lv_aload_n hx hb dL_law_988 rfl (lv_at hl 0 rfl) ?_
  refine lv_iload_n hx hb dL_law_989 rfl (lv_at hl 3 rfl) ?_
  refine lv_iconst (v := 1) hx hb dL_law_990 (by decide) ?_
  refine lv_iadd hx hb dL_law_991 ?_
  refine va_sld hx hb hX hbl hbA hW.2.2.2.1 (lin hi hL 1 (by decide)) dL_law_992 ?_
  refine lv_aload_n hx hb dL_law_993 rfl (lv_at hl 0 rfl) ?_
  refine lv_iload_n hx hb dL_law_994 rfl (lv_at hl 3 rfl) ?_
  refine lv_iconst (v := 2) hx hb dL_law_995 (by decide) ?_
  refine lv_iadd hx hb dL_law_996 ?_
  refine va_sld hx hb hX hbl hbA hW.2.2.2.1 (lin hi hL 2 (by decide)) dL_law_997 ?_
  refine lv_aload_n hx hb dL_law_998 rfl (lv_at hl 0 rfl) ?_
  refine lv_iload_n hx hb dL_law_999 rfl (lv_at hl 3 rfl) ?_
  refine lv_iconst (v := 3) hx hb dL_law_1000 (by decide) ?_
  refine lv_iadd hx hb dL_law_1001 ?_
  refine va_sld hx hb hX hbl hbA hW.2.2.2.1 (lin hi hL 3 (by decide)) dL_law_1002 ?_
  refine kL_X11_fasting (gm := gmL g m0 a cZ cB) (wr := xw g σ1) C (wi_swap hW) (mty_in g m0 a cZ cB) (by decide) (by decide) hl.1 (Nat.le_of_ble_eq_true rfl) dL_law_1003 (show cells ≤ 600000 by omega) (show slots ≤ 7302250 by omega) hq (fun r2 μ1 H locs hq hW => ?_)
  replace hW := wi_swap hW
  obtain ⟨rfl, hq⟩ := hq
  exact lv_icmp_eq (tgt := 1160) hx hb dL_law_1006 (by decide) (fun _ => kk g _ _ _ _ _ _ (by omega) (by omega) hq hW hl) (fun h => absurd rfl h)
set_option maxHeartbeats 4000000 in
set_option maxRecDepth 100000 in
theorem lc_schism {K : XG → XS → MS → Prop} (C : CallFix p m c cL_law 4 s #[Value.ref b] lwg RL) (hX : va_X b L xs s s.heap) (hbl : b < s.heap.size) (hZ : zst em (ALs s) s s.heap) (hL : L ≤ 3584) (hi : i + 7 ≤ L) (hc : cells + 2 ≤ 600000) (hs : slots + 14 ≤ 7302250) (hW : WI g.1 idw (tyL g cZ cB) (ALs s) s (LW g σ m0 a cZ cB μ) H locs) (hl : lv_has ls 4 [(0, .ref b), (1, .ref (g.2.1 0)), (2, .ref m0), (3, .int (nI i))]) (hq : qX10_schism g σ ((xs (nI i + 1).toNatClampNeg)) ((xs (nI i + 2).toNatClampNeg)) (fun r σ1 => qX11_schism μ ((xs (nI i + 1).toNatClampNeg)) ((xs (nI i + 2).toNatClampNeg)) (fun r2 μ1 => r = r2 ∧ K g σ1 μ1)))
    (kk : ∀ (g : XG) (σ : XS) (μ : MS) (H : Heap) (locs : List Loc) (cells1 slots1 : Nat), cells1 ≤ cells + 2 → slots1 ≤ slots + 14 → K g σ μ → WI g.1 idw (tyL g cZ cB) (ALs s) s (LW g σ m0 a cZ cB μ) H locs → lv_has ls 4 [(0, .ref b), (1, .ref (g.2.1 0)), (2, .ref m0), (3, .int (nI i))] → W p l e room_1 s m #[Value.ref b] below meth c H locs cells1 slots1 Q (F0 m 1160 ls [])) : W p l e room_1 s m #[Value.ref b] below meth c H locs cells slots Q (F0 m 1011 ls []) := by
  have hx := C.1
  have hb := C.2.1
  have hbA : ¬ ALs s b := Nat.not_le.mpr hbl
  refine lv_aload_n hx hb dL_law_1011 rfl (lv_at hl 1 rfl) ?_
  refine lv_aload_n hx hb dL_law_1012 rfl (lv_at hl 0 rfl) ?_
  refine lv_iload_n hx hb dL_law_1013 rfl (lv_at hl 3 rfl) ?_
  refine lv_iconst (v := 1) hx hb dL_law_1014 (by decide) ?_
  refine lv_iadd hx hb dL_law_1015 ?_
  refine va_sld hx hb hX hbl hbA hW.2.2.2.1 (lin hi hL 1 (by decide)) dL_law_1016 ?_
  refine lv_aload_n hx hb dL_law_1017 rfl (lv_at hl 0 rfl) ?_
  refine lv_iload_n hx hb dL_law_1018 rfl (lv_at hl 3 rfl) ?_
  refine lv_iconst (v := 2) hx hb dL_law_1019 (by decide) ?_
  refine lv_iadd hx hb dL_law_1020 ?_
  refine va_sld hx hb hX hbl hbA hW.2.2.2.1 (lin hi hL 2 (by decide)) dL_law_1021 ?_
  refine kL_X10_schism (wr := mw (gmL g m0 a cZ cB) μ) C hW (xty_in g cZ cB) (by decide) (by decide) hl.1 (Nat.le_of_ble_eq_true rfl) dL_law_1022 (show cells ≤ 600000 by omega) (show slots ≤ 7302250 by omega) hq (fun r σ1 H locs hq hW => ?_)
  refine lv_aload_n hx hb dL_law_1025 rfl (lv_at hl 2 rfl) ?_
  refine lv_aload_n hx hb dL_law_1026 rfl (lv_at hl 0 rfl) ?_
  refine lv_iload_n hx hb dL_law_1027 rfl (lv_at hl 3 rfl) ?_
  refine lv_iconst (v := 1) hx hb dL_law_1028 (by decide) ?_
  refine lv_iadd hx hb dL_law_1029 ?_
  refine va_sld hx hb hX hbl hbA hW.2.2.2.1 (lin hi hL 1 (by decide)) dL_law_1030 ?_
  refine lv_aload_n hx hb dL_law_1031 rfl (lv_at hl 0 rfl) ?_
  refine lv_iload_n hx hb dL_law_1032 rfl (lv_at hl 3 rfl) ?_
  refine lv_iconst (v := 2) hx hb dL_law_1033 (by decide) ?_
  refine lv_iadd hx hb dL_law_1034 ?_
  refine va_sld hx hb hX hbl hbA hW.2.2.2.1 (lin hi hL 2 (by decide)) dL_law_1035 ?_
  refine kL_X11_schism (gm := gmL g m0 a cZ cB) (wr := xw g σ1) C (wi_swap hW) (mty_in g m0 a cZ cB) (by decide) (by decide) hl.1 (Nat.le_of_ble_eq_true rfl) dL_law_1036 (show cells ≤ 600000 by omega) (show slots ≤ 7302250 by omega) hq (fun r2 μ1 H locs hq hW => ?_)
  replace hW := wi_swap hW
  obtain ⟨rfl, hq⟩ := hq
  exact lv_icmp_eq (tgt := 1160) hx hb dL_law_1039 (by decide) (fun _ => kk g _ _ _ _ _ _ (by omega) (by omega) hq hW hl) (fun h => absurd rfl h)
set_option maxHeartbeats 4000000 in
set_option maxRecDepth 100000 in
theorem lc_twice {K : XG → XS → MS → Prop} (C : CallFix p m c cL_law 4 s #[Value.ref b] lwg RL) (hX : va_X b L xs s s.heap) (hbl : b < s.heap.size) (hZ : zst em (ALs s) s s.heap) (hL : L ≤ 3584) (hi : i + 7 ≤ L) (hc : cells + 2 ≤ 600000) (hs : slots + 14 ≤ 7302250) (hW : WI g.1 idw (tyL g cZ cB) (ALs s) s (LW g σ m0 a cZ cB μ) H locs) (hl : lv_has ls 4 [(0, .ref b), (1, .ref (g.2.1 0)), (2, .ref m0), (3, .int (nI i))]) (hq : qX10_twice g σ ((xs (nI i + 1).toNatClampNeg)) ((xs (nI i + 2).toNatClampNeg)) ((xs (nI i + 3).toNatClampNeg)) ((xs (nI i + 4).toNatClampNeg)) (fun r σ1 => qX11_twice μ ((xs (nI i + 1).toNatClampNeg)) ((xs (nI i + 2).toNatClampNeg)) ((xs (nI i + 3).toNatClampNeg)) ((xs (nI i + 4).toNatClampNeg)) (fun r2 μ1 => r = r2 ∧ K g σ1 μ1)))
    (kk : ∀ (g : XG) (σ : XS) (μ : MS) (H : Heap) (locs : List Loc) (cells1 slots1 : Nat), cells1 ≤ cells + 2 → slots1 ≤ slots + 14 → K g σ μ → WI g.1 idw (tyL g cZ cB) (ALs s) s (LW g σ m0 a cZ cB μ) H locs → lv_has ls 4 [(0, .ref b), (1, .ref (g.2.1 0)), (2, .ref m0), (3, .int (nI i))] → W p l e room_1 s m #[Value.ref b] below meth c H locs cells1 slots1 Q (F0 m 1160 ls [])) : W p l e room_1 s m #[Value.ref b] below meth c H locs cells slots Q (F0 m 1044 ls []) := by
  have hx := C.1
  have hb := C.2.1
  have hbA : ¬ ALs s b := Nat.not_le.mpr hbl
  refine lv_aload_n hx hb dL_law_1044 rfl (lv_at hl 1 rfl) ?_
  refine lv_aload_n hx hb dL_law_1045 rfl (lv_at hl 0 rfl) ?_
  refine lv_iload_n hx hb dL_law_1046 rfl (lv_at hl 3 rfl) ?_
  refine lv_iconst (v := 1) hx hb dL_law_1047 (by decide) ?_
  refine lv_iadd hx hb dL_law_1048 ?_
  refine va_sld hx hb hX hbl hbA hW.2.2.2.1 (lin hi hL 1 (by decide)) dL_law_1049 ?_
  refine lv_aload_n hx hb dL_law_1050 rfl (lv_at hl 0 rfl) ?_
  refine lv_iload_n hx hb dL_law_1051 rfl (lv_at hl 3 rfl) ?_
  refine lv_iconst (v := 2) hx hb dL_law_1052 (by decide) ?_
  refine lv_iadd hx hb dL_law_1053 ?_
  refine va_sld hx hb hX hbl hbA hW.2.2.2.1 (lin hi hL 2 (by decide)) dL_law_1054 ?_
  refine lv_aload_n hx hb dL_law_1055 rfl (lv_at hl 0 rfl) ?_
  refine lv_iload_n hx hb dL_law_1056 rfl (lv_at hl 3 rfl) ?_
  refine lv_iconst (v := 3) hx hb dL_law_1057 (by decide) ?_
  refine lv_iadd hx hb dL_law_1058 ?_
  refine va_sld hx hb hX hbl hbA hW.2.2.2.1 (lin hi hL 3 (by decide)) dL_law_1059 ?_
  refine lv_aload_n hx hb dL_law_1060 rfl (lv_at hl 0 rfl) ?_
  refine lv_iload_n hx hb dL_law_1061 rfl (lv_at hl 3 rfl) ?_
  refine lv_iconst (v := 4) hx hb dL_law_1062 (by decide) ?_
  refine lv_iadd hx hb dL_law_1063 ?_
  refine va_sld hx hb hX hbl hbA hW.2.2.2.1 (lin hi hL 4 (by decide)) dL_law_1064 ?_
  refine kL_X10_twice (wr := mw (gmL g m0 a cZ cB) μ) C hW (xty_in g cZ cB) (by decide) (by decide) hl.1 (Nat.le_of_ble_eq_true rfl) dL_law_1065 (show cells ≤ 600000 by omega) (show slots ≤ 7302250 by omega) hq (fun r σ1 H locs hq hW => ?_)
  refine lv_aload_n hx hb dL_law_1068 rfl (lv_at hl 2 rfl) ?_
  refine lv_aload_n hx hb dL_law_1069 rfl (lv_at hl 0 rfl) ?_
  refine lv_iload_n hx hb dL_law_1070 rfl (lv_at hl 3 rfl) ?_
  refine lv_iconst (v := 1) hx hb dL_law_1071 (by decide) ?_
  refine lv_iadd hx hb dL_law_1072 ?_
  refine va_sld hx hb hX hbl hbA hW.2.2.2.1 (lin hi hL 1 (by decide)) dL_law_1073 ?_
  refine lv_aload_n hx hb dL_law_1074 rfl (lv_at hl 0 rfl) ?_
  refine lv_iload_n hx hb dL_law_1075 rfl (lv_at hl 3 rfl) ?_
  refine lv_iconst (v := 2) hx hb dL_law_1076 (by decide) ?_
  refine lv_iadd hx hb dL_law_1077 ?_
  refine va_sld hx hb hX hbl hbA hW.2.2.2.1 (lin hi hL 2 (by decide)) dL_law_1078 ?_
  refine lv_aload_n hx hb dL_law_1079 rfl (lv_at hl 0 rfl) ?_
  refine lv_iload_n hx hb dL_law_1080 rfl (lv_at hl 3 rfl) ?_
  refine lv_iconst (v := 3) hx hb dL_law_1081 (by decide) ?_
  refine lv_iadd hx hb dL_law_1082 ?_
  refine va_sld hx hb hX hbl hbA hW.2.2.2.1 (lin hi hL 3 (by decide)) dL_law_1083 ?_
  refine lv_aload_n hx hb dL_law_1084 rfl (lv_at hl 0 rfl) ?_
  refine lv_iload_n hx hb dL_law_1085 rfl (lv_at hl 3 rfl) ?_
  refine lv_iconst (v := 4) hx hb dL_law_1086 (by decide) ?_
  refine lv_iadd hx hb dL_law_1087 ?_
  refine va_sld hx hb hX hbl hbA hW.2.2.2.1 (lin hi hL 4 (by decide)) dL_law_1088 ?_
  refine kL_X11_twice (gm := gmL g m0 a cZ cB) (wr := xw g σ1) C (wi_swap hW) (mty_in g m0 a cZ cB) (by decide) (by decide) hl.1 (Nat.le_of_ble_eq_true rfl) dL_law_1089 (show cells ≤ 600000 by omega) (show slots ≤ 7302250 by omega) hq (fun r2 μ1 H locs hq hW => ?_)
  replace hW := wi_swap hW
  obtain ⟨rfl, hq⟩ := hq
  exact lv_icmp_eq (tgt := 1160) hx hb dL_law_1092 (by decide) (fun _ => kk g _ _ _ _ _ _ (by omega) (by omega) hq hW hl) (fun h => absurd rfl h)
set_option maxHeartbeats 4000000 in
set_option maxRecDepth 100000 in
theorem lc_image {K : XG → XS → MS → Prop} (C : CallFix p m c cL_law 4 s #[Value.ref b] lwg RL) (hX : va_X b L xs s s.heap) (hbl : b < s.heap.size) (hZ : zst em (ALs s) s s.heap) (hL : L ≤ 3584) (hi : i + 7 ≤ L) (hc : cells + 2 ≤ 600000) (hs : slots + 14 ≤ 7302250) (hW : WI g.1 idw (tyL g cZ cB) (ALs s) s (LW g σ m0 a cZ cB μ) H locs) (hl : lv_has ls 4 [(0, .ref b), (1, .ref (g.2.1 0)), (2, .ref m0), (3, .int (nI i))]) (hq : qX10_image g σ  (fun r σ1 => qX11_image μ  (fun r2 μ1 => r = r2 ∧ K g σ1 μ1)))
    (kk : ∀ (g : XG) (σ : XS) (μ : MS) (H : Heap) (locs : List Loc) (cells1 slots1 : Nat), cells1 ≤ cells + 2 → slots1 ≤ slots + 14 → K g σ μ → WI g.1 idw (tyL g cZ cB) (ALs s) s (LW g σ m0 a cZ cB μ) H locs → lv_has ls 4 [(0, .ref b), (1, .ref (g.2.1 0)), (2, .ref m0), (3, .int (nI i))] → W p l e room_1 s m #[Value.ref b] below meth c H locs cells1 slots1 Q (F0 m 1160 ls [])) : W p l e room_1 s m #[Value.ref b] below meth c H locs cells slots Q (F0 m 1097 ls []) := by
  have hx := C.1
  have hb := C.2.1
  have hbA : ¬ ALs s b := Nat.not_le.mpr hbl
  refine lv_aload_n hx hb dL_law_1097 rfl (lv_at hl 1 rfl) ?_
  refine kL_X10_image (wr := mw (gmL g m0 a cZ cB) μ) C hW (xty_in g cZ cB) (by decide) (by decide) hl.1 (Nat.le_of_ble_eq_true rfl) dL_law_1098 (show cells ≤ 600000 by omega) (show slots ≤ 7302250 by omega) hq (fun r σ1 H locs hq hW => ?_)
  refine lv_aload_n hx hb dL_law_1101 rfl (lv_at hl 2 rfl) ?_
  refine kL_X11_image (gm := gmL g m0 a cZ cB) (wr := xw g σ1) C (wi_swap hW) (mty_in g m0 a cZ cB) (by decide) (by decide) hl.1 (Nat.le_of_ble_eq_true rfl) dL_law_1102 (show cells ≤ 600000 by omega) (show slots ≤ 7302250 by omega) hq (fun r2 μ1 H locs hq hW => ?_)
  replace hW := wi_swap hW
  obtain ⟨rfl, hq⟩ := hq
  exact lv_icmp_eq (tgt := 1160) hx hb dL_law_1105 (by decide) (fun _ => kk g _ _ _ _ _ _ (by omega) (by omega) hq hW hl) (fun h => absurd rfl h)
set_option maxHeartbeats 4000000 in
set_option maxRecDepth 100000 in
theorem lc_restore {K : XG → XS → MS → Prop} (C : CallFix p m c cL_law 4 s #[Value.ref b] lwg RL) (hX : va_X b L xs s s.heap) (hbl : b < s.heap.size) (hZ : zst em (ALs s) s s.heap) (hL : L ≤ 3584) (hi : i + 7 ≤ L) (hc : cells + 2 ≤ 600000) (hs : slots + 14 ≤ 7302250) (hW : WI g.1 idw (tyL g cZ cB) (ALs s) s (LW g σ m0 a cZ cB μ) H locs) (hl : lv_has ls 4 [(0, .ref b), (1, .ref (g.2.1 0)), (2, .ref m0), (3, .int (nI i))]) (hq : qX10_restore g σ  (fun r σ1 => qX11_restore μ  (fun r2 μ1 => r = r2 ∧ K g σ1 μ1)))
    (kk : ∀ (g : XG) (σ : XS) (μ : MS) (H : Heap) (locs : List Loc) (cells1 slots1 : Nat), cells1 ≤ cells + 2 → slots1 ≤ slots + 14 → K g σ μ → WI g.1 idw (tyL g cZ cB) (ALs s) s (LW g σ m0 a cZ cB μ) H locs → lv_has ls 4 [(0, .ref b), (1, .ref (g.2.1 0)), (2, .ref m0), (3, .int (nI i))] → W p l e room_1 s m #[Value.ref b] below meth c H locs cells1 slots1 Q (F0 m 1160 ls [])) : W p l e room_1 s m #[Value.ref b] below meth c H locs cells slots Q (F0 m 1110 ls []) := by
  have hx := C.1
  have hb := C.2.1
  have hbA : ¬ ALs s b := Nat.not_le.mpr hbl
  refine lv_aload_n hx hb dL_law_1110 rfl (lv_at hl 1 rfl) ?_
  refine kL_X10_restore (wr := mw (gmL g m0 a cZ cB) μ) C hW (xty_in g cZ cB) (by decide) (by decide) hl.1 (Nat.le_of_ble_eq_true rfl) dL_law_1111 (show cells ≤ 600000 by omega) (show slots ≤ 7302250 by omega) hq (fun r σ1 H locs hq hW => ?_)
  refine lv_aload_n hx hb dL_law_1114 rfl (lv_at hl 2 rfl) ?_
  refine kL_X11_restore (gm := gmL g m0 a cZ cB) (wr := xw g σ1) C (wi_swap hW) (mty_in g m0 a cZ cB) (by decide) (by decide) hl.1 (Nat.le_of_ble_eq_true rfl) dL_law_1115 (show cells ≤ 600000 by omega) (show slots ≤ 7302250 by omega) hq (fun r2 μ1 H locs hq hW => ?_)
  replace hW := wi_swap hW
  obtain ⟨rfl, hq⟩ := hq
  exact lv_icmp_eq (tgt := 1160) hx hb dL_law_1118 (by decide) (fun _ => kk g _ _ _ _ _ _ (by omega) (by omega) hq hW hl) (fun h => absurd rfl h)
set_option maxHeartbeats 4000000 in
set_option maxRecDepth 100000 in
theorem lc_count {K : XG → XS → MS → Prop} (C : CallFix p m c cL_law 4 s #[Value.ref b] lwg RL) (hX : va_X b L xs s s.heap) (hbl : b < s.heap.size) (hZ : zst em (ALs s) s s.heap) (hL : L ≤ 3584) (hi : i + 7 ≤ L) (hc : cells + 2 ≤ 600000) (hs : slots + 14 ≤ 7302250) (hW : WI g.1 idw (tyL g cZ cB) (ALs s) s (LW g σ m0 a cZ cB μ) H locs) (hl : lv_has ls 4 [(0, .ref b), (1, .ref (g.2.1 0)), (2, .ref m0), (3, .int (nI i))]) (hq : qX10_count g σ ((xs (nI i + 1).toNatClampNeg)) (fun r σ1 => qX11_count μ ((xs (nI i + 1).toNatClampNeg)) (fun r2 μ1 => r = r2 ∧ K g σ1 μ1)))
    (kk : ∀ (g : XG) (σ : XS) (μ : MS) (H : Heap) (locs : List Loc) (cells1 slots1 : Nat), cells1 ≤ cells + 2 → slots1 ≤ slots + 14 → K g σ μ → WI g.1 idw (tyL g cZ cB) (ALs s) s (LW g σ m0 a cZ cB μ) H locs → lv_has ls 4 [(0, .ref b), (1, .ref (g.2.1 0)), (2, .ref m0), (3, .int (nI i))] → W p l e room_1 s m #[Value.ref b] below meth c H locs cells1 slots1 Q (F0 m 1160 ls [])) : W p l e room_1 s m #[Value.ref b] below meth c H locs cells slots Q (F0 m 1123 ls []) := by
  have hx := C.1
  have hb := C.2.1
  have hbA : ¬ ALs s b := Nat.not_le.mpr hbl
  refine lv_aload_n hx hb dL_law_1123 rfl (lv_at hl 1 rfl) ?_
  refine lv_aload_n hx hb dL_law_1124 rfl (lv_at hl 0 rfl) ?_
  refine lv_iload_n hx hb dL_law_1125 rfl (lv_at hl 3 rfl) ?_
  refine lv_iconst (v := 1) hx hb dL_law_1126 (by decide) ?_
  refine lv_iadd hx hb dL_law_1127 ?_
  refine va_sld hx hb hX hbl hbA hW.2.2.2.1 (lin hi hL 1 (by decide)) dL_law_1128 ?_
  refine kL_X10_count (wr := mw (gmL g m0 a cZ cB) μ) C hW (xty_in g cZ cB) (by decide) (by decide) hl.1 (Nat.le_of_ble_eq_true rfl) dL_law_1129 (show cells ≤ 600000 by omega) (show slots ≤ 7302250 by omega) hq (fun r σ1 H locs hq hW => ?_)
  refine lv_aload_n hx hb dL_law_1132 rfl (lv_at hl 2 rfl) ?_
  refine lv_aload_n hx hb dL_law_1133 rfl (lv_at hl 0 rfl) ?_
  refine lv_iload_n hx hb dL_law_1134 rfl (lv_at hl 3 rfl) ?_
  refine lv_iconst (v := 1) hx hb dL_law_1135 (by decide) ?_
  refine lv_iadd hx hb dL_law_1136 ?_
  refine va_sld hx hb hX hbl hbA hW.2.2.2.1 (lin hi hL 1 (by decide)) dL_law_1137 ?_
  refine kL_X11_count (gm := gmL g m0 a cZ cB) (wr := xw g σ1) C (wi_swap hW) (mty_in g m0 a cZ cB) (by decide) (by decide) hl.1 (Nat.le_of_ble_eq_true rfl) dL_law_1138 (show cells ≤ 600000 by omega) (show slots ≤ 7302250 by omega) hq (fun r2 μ1 H locs hq hW => ?_)
  replace hW := wi_swap hW
  obtain ⟨rfl, hq⟩ := hq
  exact lv_icmp_eq (tgt := 1160) hx hb dL_law_1141 (by decide) (fun _ => kk g _ _ _ _ _ _ (by omega) (by omega) hq hW hl) (fun h => absurd rfl h)
set_option maxHeartbeats 4000000 in
set_option maxRecDepth 100000 in
theorem lc_digest {K : XG → XS → MS → Prop} (C : CallFix p m c cL_law 4 s #[Value.ref b] lwg RL) (hX : va_X b L xs s s.heap) (hbl : b < s.heap.size) (hZ : zst em (ALs s) s s.heap) (hL : L ≤ 3584) (hi : i + 7 ≤ L) (hc : cells + 2 ≤ 600000) (hs : slots + 14 ≤ 7302250) (hW : WI g.1 idw (tyL g cZ cB) (ALs s) s (LW g σ m0 a cZ cB μ) H locs) (hl : lv_has ls 4 [(0, .ref b), (1, .ref (g.2.1 0)), (2, .ref m0), (3, .int (nI i))]) (hq : qX10_digest g σ  (fun r σ1 => qX11_digest μ  (fun r2 μ1 => r = r2 ∧ K g σ1 μ1)))
    (kk : ∀ (g : XG) (σ : XS) (μ : MS) (H : Heap) (locs : List Loc) (cells1 slots1 : Nat), cells1 ≤ cells + 2 → slots1 ≤ slots + 14 → K g σ μ → WI g.1 idw (tyL g cZ cB) (ALs s) s (LW g σ m0 a cZ cB μ) H locs → lv_has ls 4 [(0, .ref b), (1, .ref (g.2.1 0)), (2, .ref m0), (3, .int (nI i))] → W p l e room_1 s m #[Value.ref b] below meth c H locs cells1 slots1 Q (F0 m 1160 ls [])) : W p l e room_1 s m #[Value.ref b] below meth c H locs cells slots Q (F0 m 1146 ls []) := by
  have hx := C.1
  have hb := C.2.1
  have hbA : ¬ ALs s b := Nat.not_le.mpr hbl
  refine lv_aload_n hx hb dL_law_1146 rfl (lv_at hl 1 rfl) ?_
  refine kL_X10_digest (wr := mw (gmL g m0 a cZ cB) μ) C hW (xty_in g cZ cB) (by decide) (by decide) hl.1 (Nat.le_of_ble_eq_true rfl) dL_law_1147 (show cells ≤ 600000 by omega) (show slots ≤ 7302250 by omega) hq (fun r σ1 H locs hq hW => ?_)
  refine lv_aload_n hx hb dL_law_1150 rfl (lv_at hl 2 rfl) ?_
  refine kL_X11_digest (gm := gmL g m0 a cZ cB) (wr := xw g σ1) C (wi_swap hW) (mty_in g m0 a cZ cB) (by decide) (by decide) hl.1 (Nat.le_of_ble_eq_true rfl) dL_law_1151 (show cells ≤ 600000 by omega) (show slots ≤ 7302250 by omega) hq (fun r2 μ1 H locs hq hW => ?_)
  replace hW := wi_swap hW
  obtain ⟨rfl, hq⟩ := hq
  refine W.lcmp hx hb dL_law_1154 ?_
  exact lv_if_eq (tgt := 1160) hx hb dL_law_1155 (by decide) (fun _ => kk g _ _ _ _ _ _ (by omega) (by omega) hq hW hl) (fun h => absurd (lg_cmp_self r) h)
end LAWC
/-- what is wanted of a relation K between component and model: every call keeps it, and is answered alike -/
def LawOK (em : Nat) (K : XG → XS → MS → Prop) : Prop :=
  (∀ (g : XG) (σ : XS) (μ : MS) (a0 : Int64), K g σ μ → qX10_letters g σ a0 (fun r σ1 => qX11_letters μ a0 (fun r2 μ1 => r = r2 ∧ K g σ1 μ1))) ∧
  (∀ (g : XG) (σ : XS) (μ : MS), K g σ μ → qX10_blank g σ  (fun r σ1 => qX11_blank μ  (fun r2 μ1 => r = r2 ∧ K g σ1 μ1))) ∧
  (∀ (g : XG) (σ : XS) (μ : MS), K g σ μ → qX10_fault g σ  (fun r σ1 => qX11_fault μ  (fun r2 μ1 => r = r2 ∧ K g σ1 μ1))) ∧
  (∀ (g : XG) (σ : XS) (μ : MS), K g σ μ → qX10_vow g (fun τ => (nV g = 0 → g.2.2.2.2.2.2.2.1 = em) ∧ isB (xP τ 4) ∧ isB (xP τ 6) ∧ ∃ (hlt : nV g < 10), ∀ q ed, (fun (r : Int32) (ξ : XG × XS) => sameG g ξ.1 ∧ qX11_vow μ (fun r2 μ1 => r = r2 ∧ K ξ.1 ξ.2 μ1)) (nI (nV g)) (addV g ed (q, xP τ 4, xP τ 5, xP τ 6, xP τ 7) hlt, xsP τ 1 0)) σ (fun r τ => (fun (r : Int32) (ξ : XG × XS) => sameG g ξ.1 ∧ qX11_vow μ (fun r2 μ1 => r = r2 ∧ K ξ.1 ξ.2 μ1)) r (g, τ))) ∧
  (∀ (g : XG) (σ : XS) (μ : MS) (a0 : Int32) (a1 : Int32), K g σ μ → qX10_vowTold g σ a0 a1 (fun r σ1 => qX11_vowTold μ a0 a1 (fun r2 μ1 => r = r2 ∧ K g σ1 μ1))) ∧
  (∀ (g : XG) (σ : XS) (μ : MS) (a0 : Int32) (a1 : Int32) (a2 : Int32) (a3 : Int32) (a4 : Int32) (a5 : Int32), K g σ μ → qX10_hermit g (fun τ y1 y2 y3 y4 y5 y6 y7 => (nH g = 0 → g.2.2.2.2.2.1.2.1 = em) ∧ ∃ (hlt : nH g < 10) (kd : Fin 5), y1 = nI kd.val ∧ y7 = nI (nH g) ∧ ∀ q ed, (fun (r : Int32) (ξ : XG × XS) => sameG g ξ.1 ∧ qX11_hermit μ a0 a1 a2 a3 a4 a5 (fun r2 μ1 => r = r2 ∧ K ξ.1 ξ.2 μ1)) (nI (nH g)) (addH g ed (hrec q kd y2 y3 y4 y5) hlt, xsTB τ 0 0 (nI (nH g)) y6)) σ a0 a1 a2 a3 a4 a5 (fun r τ => (fun (r : Int32) (ξ : XG × XS) => sameG g ξ.1 ∧ qX11_hermit μ a0 a1 a2 a3 a4 a5 (fun r2 μ1 => r = r2 ∧ K ξ.1 ξ.2 μ1)) r (g, τ))) ∧
  (∀ (g : XG) (σ : XS) (μ : MS) (a0 : Int32) (a1 : Int32), K g σ μ → qX10_as g σ a0 a1 (fun r σ1 => qX11_as μ a0 a1 (fun r2 μ1 => r = r2 ∧ K g σ1 μ1))) ∧
  (∀ (g : XG) (σ : XS) (μ : MS) (a0 : Int32) (a1 : Int32), K g σ μ → qX10_about g σ a0 a1 (fun r σ1 => qX11_about μ a0 a1 (fun r2 μ1 => r = r2 ∧ K g σ1 μ1))) ∧
  (∀ (g : XG) (σ : XS) (μ : MS) (a0 : Int32) (a1 : Int32), K g σ μ → qX10_store g σ a0 a1 (fun r σ1 => qX11_store μ a0 a1 (fun r2 μ1 => r = r2 ∧ K g σ1 μ1))) ∧
  (∀ (g : XG) (σ : XS) (μ : MS) (a0 : Int32) (a1 : Int32), K g σ μ → qX10_change g σ a0 a1 (fun r σ1 => qX11_change μ a0 a1 (fun r2 μ1 => r = r2 ∧ K g σ1 μ1))) ∧
  (∀ (g : XG) (σ : XS) (μ : MS) (a0 : Int32) (a1 : Int32), K g σ μ → qX10_soup g σ a0 a1 (fun r σ1 => qX11_soup μ a0 a1 (fun r2 μ1 => r = r2 ∧ K g σ1 μ1))) ∧
  (∀ (g : XG) (σ : XS) (μ : MS) (a0 : Int32), K g σ μ → qX10_heat g σ a0 (fun r σ1 => qX11_heat μ a0 (fun r2 μ1 => r = r2 ∧ K g σ1 μ1))) ∧
  (∀ (g : XG) (σ : XS) (μ : MS) (a0 : Int32), K g σ μ → (a0 = 0 ∨ a0 = 1) → qX10_feast g σ a0 (fun r σ1 => qX11_feast μ a0 (fun r2 μ1 => r = r2 ∧ K g σ1 μ1))) ∧
  (∀ (g : XG) (σ : XS) (μ : MS) (a0 : Int32) (a1 : Int32) (a2 : Int32) (a3 : Int32), K g σ μ → qX10_day g σ a0 a1 a2 a3 (fun r σ1 => qX11_day μ a0 a1 a2 a3 (fun r2 μ1 => r = r2 ∧ K g σ1 μ1))) ∧
  (∀ (g : XG) (σ : XS) (μ : MS) (a0 : Int32) (a1 : Int32) (a2 : Int32) (a3 : Int32), K g σ μ → qX10_meal g σ a0 a1 a2 a3 (fun r σ1 => qX11_meal μ a0 a1 a2 a3 (fun r2 μ1 => r = r2 ∧ K g σ1 μ1))) ∧
  (∀ (g : XG) (σ : XS) (μ : MS) (a0 : Int32) (a1 : Int32) (a2 : Int32) (a3 : Int32) (a4 : Int32), K g σ μ → qX10_bite g σ a0 a1 a2 a3 a4 (fun r σ1 => qX11_bite μ a0 a1 a2 a3 a4 (fun r2 μ1 => r = r2 ∧ K g σ1 μ1))) ∧
  (∀ (g : XG) (σ : XS) (μ : MS) (a0 : Int32) (a1 : Int32), K g σ μ → qX10_least g σ a0 a1 (fun r σ1 => qX11_least μ a0 a1 (fun r2 μ1 => r = r2 ∧ K g σ1 μ1))) ∧
  (∀ (g : XG) (σ : XS) (μ : MS) (a0 : Int32), K g σ μ → qX10_bestStart g σ a0 (fun r σ1 => qX11_bestStart μ a0 (fun r2 μ1 => r = r2 ∧ K g σ1 μ1))) ∧
  (∀ (g : XG) (σ : XS) (μ : MS) (a0 : Int32) (a1 : Int32), K g σ μ → qX10_bestSwap g σ a0 a1 (fun r σ1 => qX11_bestSwap μ a0 a1 (fun r2 μ1 => r = r2 ∧ K g σ1 μ1))) ∧
  (∀ (g : XG) (σ : XS) (μ : MS) (a0 : Int32) (a1 : Int32), K g σ μ → qX10_bestStir g σ a0 a1 (fun r σ1 => qX11_bestStir μ a0 a1 (fun r2 μ1 => r = r2 ∧ K g σ1 μ1))) ∧
  (∀ (g : XG) (σ : XS) (μ : MS) (a0 : Int32) (a1 : Int32) (a2 : Int32), K g σ μ → qX10_live g σ a0 a1 a2 (fun r σ1 => qX11_live μ a0 a1 a2 (fun r2 μ1 => r = r2 ∧ K g σ1 μ1))) ∧
  (∀ (g : XG) (σ : XS) (μ : MS) (a0 : Int32) (a1 : Int32) (a2 : Int32), K g σ μ → qX10_starves g σ a0 a1 a2 (fun r σ1 => qX11_starves μ a0 a1 a2 (fun r2 μ1 => r = r2 ∧ K g σ1 μ1))) ∧
  (∀ (g : XG) (σ : XS) (μ : MS) (a0 : Int32) (a1 : Int32) (a2 : Int32), K g σ μ → qX10_fasting g σ a0 a1 a2 (fun r σ1 => qX11_fasting μ a0 a1 a2 (fun r2 μ1 => r = r2 ∧ K g σ1 μ1))) ∧
  (∀ (g : XG) (σ : XS) (μ : MS) (a0 : Int32) (a1 : Int32), K g σ μ → qX10_schism g σ a0 a1 (fun r σ1 => qX11_schism μ a0 a1 (fun r2 μ1 => r = r2 ∧ K g σ1 μ1))) ∧
  (∀ (g : XG) (σ : XS) (μ : MS) (a0 : Int32) (a1 : Int32) (a2 : Int32) (a3 : Int32), K g σ μ → qX10_twice g σ a0 a1 a2 a3 (fun r σ1 => qX11_twice μ a0 a1 a2 a3 (fun r2 μ1 => r = r2 ∧ K g σ1 μ1))) ∧
  (∀ (g : XG) (σ : XS) (μ : MS), K g σ μ → qX10_image g σ  (fun r σ1 => qX11_image μ  (fun r2 μ1 => r = r2 ∧ K g σ1 μ1))) ∧
  (∀ (g : XG) (σ : XS) (μ : MS), K g σ μ → qX10_restore g σ  (fun r σ1 => qX11_restore μ  (fun r2 μ1 => r = r2 ∧ K g σ1 μ1))) ∧
  (∀ (g : XG) (σ : XS) (μ : MS) (a0 : Int32), K g σ μ → qX10_count g σ a0 (fun r σ1 => qX11_count μ a0 (fun r2 μ1 => r = r2 ∧ K g σ1 μ1))) ∧
  (∀ (g : XG) (σ : XS) (μ : MS), K g σ μ → qX10_digest g σ  (fun r σ1 => qX11_digest μ  (fun r2 μ1 => r = r2 ∧ K g σ1 μ1)))
