/-! the law, from its entry -/
set_option maxHeartbeats 8000000 in
set_option maxRecDepth 100000 in
theorem whole_start {p : Program} {e : Env} {s : State} {m : MethodId} {below : List Frame} {meth : Method} {c : Code} (l : Launch) {b L : Nat} {xs : Nat → Int32} (hL : L ≤ 3584) (C0 : lw_At p s m meth c b L xs) : W p l e room_1 s m #[Value.ref b] below meth c s.heap [] 0 0 (lw_Z below #[Value.ref b] s) (entryFrame m ([Value.ref b] : List Value).toArray 4) := by
  obtain ⟨hx, hb, hr, hml, hown, hts, hX, hbl, hlocks, hgv⟩ := id C0
  have hs := flat_of_before _ hgv
  have hg : ∀ w ∈ lwg, w.before #[Value.ref b] s = true := fun w hw => hts w (List.mem_filter.mp hw).1
  have C : CallFix p m c cL_law 4 s #[Value.ref b] lwg RL := ⟨hx, hb, hml, hown, hg⟩
  have hN := st_Nc hs hts
  have hO := st_AOA hts
  obtain ⟨em, hZ⟩ := st_zst hs hts
  obtain ⟨D, hD0⟩ := st_cls hg
  obtain ⟨cI, hI⟩ := st_arr (t := .int) (by intro C h; cases h) (hts _ (List.mem_of_getElem? (i := 160) (by decide +kernel)))
  obtain ⟨cZ, hZb⟩ := st_arr (t := .boolean) (by intro C h; cases h) (hts _ (List.mem_of_getElem? (i := 1061) (by decide +kernel)))
  obtain ⟨cB, hBy⟩ := st_arr (t := .byte) (by intro C h; cases h) (hts _ (List.mem_of_getElem? (i := 1062) (by decide +kernel)))
  obtain ⟨cII, hII⟩ := st_arrA hO
  obtain ⟨cO, hOb⟩ := st_arrO hN.2.2.2
  have hK : va_K D vwCl [(cI, .int), (cZ, .boolean), (cB, .byte), (cII, .array .int), (cO, .object "java/lang/Object")] s := ⟨hD0, fun k q h => by
    match k, h with
    | 0, h => cases h; exact hI
    | 1, h => cases h; exact hZb
    | 2, h => cases h; exact hBy
    | 3, h => cases h; exact hII
    | 4, h => cases h; exact hOb
    | k + 5, h => simp at h⟩
  generalize hty : [(cI, FieldType.int), (cZ, .boolean), (cB, .byte), (cII, .array .int), (cO, .object "java/lang/Object")] = ty at hK
  have t0 : ty[0]? = some (cI, .int) := by rw [← hty]; rfl
  have t1 : ty[1]? = some (cZ, .boolean) := by rw [← hty]; rfl
  have t2 : ty[2]? = some (cB, .byte) := by rw [← hty]; rfl
  have t3 : ty[3]? = some (cII, .array .int) := by rw [← hty]; rfl
  have hW : WI D idw ty (ALs s) s [] s.heap [] := ⟨fun k q h => by simp at h, ⟨fun i j x y h => by simp at h, fun k q h => by simp at h⟩, hK, va_S.rf, fun q h => h, hN⟩
  have hl := lv_entry ([.ref b]) (n := 4) (Nat.le_of_ble_eq_true rfl)
  rw [lg_entry_eq]
  generalize (lg_sl ([.ref b]) ++ List.replicate (4 - (lg_sl ([.ref b])).length) Slot.unset).toArray = ls at hl ⊢
  have hl : lv_has ls 4 [(0, .ref b)] := hl
  refine w_new C hW inXg tyX10 tyX10_ok (lwg_at 87 (by decide +kernel) rfl) (lwg_at 88 (by decide +kernel) rfl) (lwg_at 66 (by decide +kernel) rfl) (ci := 11) rfl (fs := [.null, .null, .null, .null, .null, .int 0, .null, .null]) (fun j hj => by rcases (show j = 0 ∨ j = 1 ∨ j = 2 ∨ j = 3 ∨ j = 4 ∨ j = 5 ∨ j = 6 ∨ j = 7 by omega) with rfl | rfl | rfl | rfl | rfl | rfl | rfl | rfl <;> rfl) (Nat.le_of_ble_eq_true rfl) (Nat.le_of_ble_eq_true rfl) dL_law_0 (fun q0 H hW => ?_)
  refine W.widen (k := 1) (n := 8) (by omega) (by omega) ?_
  refine lv_dup hx hb dL_law_3 rfl ?_
  replace hW : WI D idw ty (ALs s) s ([] ++ [(q0, .inr (11, [.null, .null, .null, .null, .null, .int 0, .null, .null]))]) _ _ := hW
  refine f_callv (wr := []) (ww := idw) hW (w_runI (ww := idw) C (wi_right (wr := []) hW) (mX10_init (cO := cO) (em := em) t0 t3 _) (wx_blind (X := fun U => zst em (va_A (idw [(q0, .inr (11, [.null, .null, .null, .null, .null, .int 0, .null, .null]))]) H.size) U U.heap ∧ va_AOA .int U) (fun U g mk a q => ⟨⟨q.1.1.moved (u := U) (U := U.calling g mk a) (Vm.Alike.refl U.vm), q.1.2.moved (u := U) (U := U.calling g mk a) (Vm.Alike.refl U.vm)⟩, aoa_blind U g mk a q.2⟩)) (fun U hU hV => ⟨rfl, (w_pre (Av := [.ref q0]) (wi_right hW) U hU hV).2, by rw [hU]; exact hZ.at hW.2.2.2.1 (w_sub (wi_right hW)) hV.alike, hO.moved hV.alike⟩) ⟨(lwg_at 91 (by decide +kernel) rfl), (lwg_at 66 (by decide +kernel) rfl), (lwg_at 89 (by decide +kernel) rfl)⟩ rfl (lwg_at 90 (by decide +kernel) rfl) (np := 0) (by decide +kernel) ⟨rfl, rfl⟩ ⟨Nat.le_of_ble_eq_true rfl, Nat.le_of_ble_eq_true rfl⟩ rfl hl.1 rfl (Nat.le_of_ble_eq_true rfl) dL_law_4 ⟨Nat.le_of_ble_eq_true rfl, Nat.le_of_ble_eq_true rfl⟩) (fun u H locs hq hW => ?_)
  obtain ⟨ad, fs, had, hfs, rfl⟩ := hq
  refine W.widen (k := 35) (n := 298) (by omega) (by omega) ?_
  refine lv_astore_n (lv' := [(1, .ref q0), (0, .ref b)]) hx hb dL_law_7 rfl hl (by decide) rfl (fun ls hl => ?_)
  replace hW : WI D idw ty (ALs s) s (xw (xg0 D ad cI cII cO em) (xσ0 fs)) H locs := hW
  refine w_new C hW inMg tyX11 tyX11_ok (lwg_at 904 (by decide +kernel) rfl) (lwg_at 905 (by decide +kernel) rfl) (lwg_at 74 (by decide +kernel) rfl) (ci := 12) rfl (fs := mdef) (fun j hj => by rcases (show j = 0 ∨ j = 1 ∨ j = 2 ∨ j = 3 ∨ j = 4 ∨ j = 5 ∨ j = 6 ∨ j = 7 ∨ j = 8 ∨ j = 9 ∨ j = 10 ∨ j = 11 ∨ j = 12 ∨ j = 13 ∨ j = 14 ∨ j = 15 ∨ j = 16 ∨ j = 17 ∨ j = 18 ∨ j = 19 ∨ j = 20 ∨ j = 21 ∨ j = 22 ∨ j = 23 ∨ j = 24 ∨ j = 25 ∨ j = 26 ∨ j = 27 ∨ j = 28 ∨ j = 29 ∨ j = 30 ∨ j = 31 ∨ j = 32 ∨ j = 33 ∨ j = 34 ∨ j = 35 ∨ j = 36 ∨ j = 37 ∨ j = 38 ∨ j = 39 ∨ j = 40 ∨ j = 41 ∨ j = 42 ∨ j = 43 ∨ j = 44 ∨ j = 45 ∨ j = 46 ∨ j = 47 ∨ j = 48 ∨ j = 49 by omega) with rfl | rfl | rfl | rfl | rfl | rfl | rfl | rfl | rfl | rfl | rfl | rfl | rfl | rfl | rfl | rfl | rfl | rfl | rfl | rfl | rfl | rfl | rfl | rfl | rfl | rfl | rfl | rfl | rfl | rfl | rfl | rfl | rfl | rfl | rfl | rfl | rfl | rfl | rfl | rfl | rfl | rfl | rfl | rfl | rfl | rfl | rfl | rfl | rfl | rfl <;> rfl) (Nat.le_of_ble_eq_true rfl) (Nat.le_of_ble_eq_true rfl) dL_law_8 (fun m0 H hW => ?_)
  refine W.widen (k := 36) (n := 348) (by omega) (by omega) ?_
  refine lv_dup hx hb dL_law_11 rfl ?_
  refine f_callv (wr := xw (xg0 D ad cI cII cO em) (xσ0 fs)) (ww := idw) (σ := [(m0, .inr (12, mdef))]) hW (w_runI (ww := idw) C (wi_right hW) (mX11_init t0 t1 t2 _) w_blind (fun U hU hV => w_pre (wi_right hW) U hU hV) ⟨(lwg_at 908 (by decide +kernel) rfl), (lwg_at 74 (by decide +kernel) rfl), (lwg_at 906 (by decide +kernel) rfl)⟩ rfl (lwg_at 907 (by decide +kernel) rfl) (np := 0) (by decide +kernel) ⟨rfl, rfl⟩ ⟨Nat.le_of_ble_eq_true rfl, Nat.le_of_ble_eq_true rfl⟩ rfl hl.1 rfl (Nat.le_of_ble_eq_true rfl) dL_law_12 ⟨Nat.le_of_ble_eq_true rfl, Nat.le_of_ble_eq_true rfl⟩) (fun u H locs hq hW => ?_)
  obtain ⟨a, rfl⟩ := hq
  refine W.widen (k := 59) (n := 3543) (by omega) (by omega) ?_
  refine lv_astore_n (lv' := [(2, .ref m0), (1, .ref q0), (0, .ref b)]) hx hb dL_law_15 rfl hl (by decide) rfl (fun ls hl => ?_)
  refine lv_iconst (v := 0) hx hb dL_law_16 (by decide) ?_
  refine lv_istore_n (lv' := [(3, .int 0), (2, .ref m0), (1, .ref q0), (0, .ref b)]) hx hb dL_law_17 rfl hl (by decide) rfl (fun ls hl => ?_)
  have hW2 : WI D idw ty (ALs s) s (mw (D, m0, a, cI, cZ, cB) mσ0 ++ xw (xg0 D ad cI cII cO em) (xσ0 fs)) H locs := wi_swap hW
  rw [← hty] at hW2
  rw [← had] at hl
  exact law_loop (K := KK em) (law_ok em) C hr hlocks hX hbl hZ hL 513 0 (by omega) (Nat.zero_le _) 59 3543 (by omega) (by omega) (xg0 D ad cI cII cO em) (xσ0 fs) mσ0 (KK_start hfs) H locs ls hW2 (lv_sub hl [3, 2, 1, 0] rfl)
