/-! what holds at the law's entry; the two objects as they are made -/
section
variable {s : State} {b : Nat}
theorem st_N1 (hs : ∀ c ∈ flatC (Jvm.Cond.and given_1 narrow_1), c.before #[Value.ref b] s = true) : xN1 s :=
  ⟨va_Nc.of (hs _ (by decide +kernel)), va_Nc.of (hs _ (by decide +kernel)), va_Nc.of (hs _ (by decide +kernel)), va_Nc.of (hs _ (by decide +kernel)), va_Nc.of (hs _ (by decide +kernel)), va_Nc.of (hs _ (by decide +kernel)), va_Nc.of (hs _ (by decide +kernel)), va_Nc.of (hs _ (by decide +kernel)), va_Nc.of (hs _ (by decide +kernel)), va_Nc.of (hs _ (by decide +kernel)), va_Nc.of (hs _ (by decide +kernel)), va_Nc.of (hs _ (by decide +kernel)), va_Nc.of (hs _ (by decide +kernel)), va_Nc.of (hs _ (by decide +kernel)), va_Nc.of (hs _ (by decide +kernel))⟩
theorem st_N2 (hts : ∀ w ∈ lw_tbl, w.before #[Value.ref b] s = true) : xN2 s :=
  ⟨va_Nw.of rfl (hts _ (List.mem_of_getElem? (i := 1354) (by decide +kernel))), va_Nw.of rfl (hts _ (List.mem_of_getElem? (i := 1355) (by decide +kernel))), va_Nw.of rfl (hts _ (List.mem_of_getElem? (i := 1356) (by decide +kernel))), va_Nw.of rfl (hts _ (List.mem_of_getElem? (i := 1357) (by decide +kernel))), va_Nw.of rfl (hts _ (List.mem_of_getElem? (i := 1358) (by decide +kernel))), va_Nw.of rfl (hts _ (List.mem_of_getElem? (i := 1368) (by decide +kernel))), va_Nw.of rfl (hts _ (List.mem_of_getElem? (i := 1370) (by decide +kernel))), va_Nw.of rfl (hts _ (List.mem_of_getElem? (i := 1369) (by decide +kernel))), va_Nw.of rfl (hts _ (List.mem_of_getElem? (i := 1367) (by decide +kernel))), va_Nw.of rfl (hts _ (List.mem_of_getElem? (i := 1371) (by decide +kernel))), va_Nw.of rfl (hts _ (List.mem_of_getElem? (i := 1366) (by decide +kernel)))⟩
theorem st_N3 (hts : ∀ w ∈ lw_tbl, w.before #[Value.ref b] s = true) : xN3 s :=
  ⟨va_Nw.of rfl (hts _ (List.mem_of_getElem? (i := 123) (by decide +kernel))), va_Nw.of rfl (hts _ (List.mem_of_getElem? (i := 451) (by decide +kernel))), va_Nw.of rfl (hts _ (List.mem_of_getElem? (i := 680) (by decide +kernel))), va_Nw.of rfl (hts _ (List.mem_of_getElem? (i := 861) (by decide +kernel)))⟩
theorem st_Nc (hs : ∀ c ∈ flatC (Jvm.Cond.and given_1 narrow_1), c.before #[Value.ref b] s = true) (hts : ∀ w ∈ lw_tbl, w.before #[Value.ref b] s = true) : xNc s :=
  ⟨st_N1 hs, st_N2 hts, st_N3 hts, va_AO.of (hts _ (List.mem_of_getElem? (i := 415) (by decide +kernel)))⟩
theorem st_AOA (hts : ∀ w ∈ lw_tbl, w.before #[Value.ref b] s = true) : va_AOA .int s := hts (.arrayOver (.array .int)) (List.mem_of_getElem? (i := 262) (by decide +kernel))
theorem st_arr {t : FieldType} (ht : ∀ C, t ≠ .object C) (h : (Cond.arrayClass t).before #[Value.ref b] s = true) : ∃ cA : ClassId, ArrOfT s cA t ∧ va_RA s cA t := by
  obtain ⟨cA, kA, comp, hf, hk, hkind⟩ := Cond.arrayClass_spec h
  refine ⟨cA, fun n z => ⟨fun k h => (by cases h), kA, hk, comp, hkind⟩, ?_⟩
  cases t with
  | object C => exact absurd rfl (ht C)
  | _ => exact hf
theorem st_arrA (h : va_AOA .int s) : ∃ cA : ClassId, ArrOfT s cA (.array .int) ∧ va_RA s cA (.array .int) := by
  obtain ⟨comp, cA, kA, h1, h2, h3, h4, h5⟩ := aoA_spec h
  exact ⟨cA, fun n z => ⟨fun k h => (by cases h), kA, h3, comp, h4⟩, h5⟩
theorem st_arrO (h : va_AO "java/lang/Object" s) : ∃ cA : ClassId, ArrOfT s cA (.object "java/lang/Object") ∧ va_RA s cA (.object "java/lang/Object") := by
  obtain ⟨comp, cA, kA, h1, h2, h3, h4, h5⟩ := Cond.arrayOver_spec h
  exact ⟨cA, fun n z => ⟨fun k h => (by cases h), kA, h3, comp, h4⟩, kA, comp, h3, h4, h1, h5⟩
theorem st_zst (hs : ∀ c ∈ flatC (Jvm.Cond.and given_1 narrow_1), c.before #[Value.ref b] s = true) (hts : ∀ w ∈ lw_tbl, w.before #[Value.ref b] s = true) : ∃ em : Nat, zst em (ALs s) s s.heap := by
  have hA : ∀ a : Nat, a < s.heap.size → ¬ ALs s a := fun a h => Nat.not_le.mpr h
  have hlen : (Term.length (.static "java/util/ArrayList" "DEFAULTCAPACITY_EMPTY_ELEMENTDATA" "[Ljava/lang/Object;")).eval #[Value.ref b] s none [] s = some (.int (Int32.ofNat 0)) := va_eqt (hs (.eq (.length (.static "java/util/ArrayList" "DEFAULTCAPACITY_EMPTY_ELEMENTDATA" "[Ljava/lang/Object;")) (.int 0)) (by decide +kernel))
  obtain ⟨t, ht, hT⟩ := va_Tof (N := 0) (f := fun _ => .null) (A := ALs s) (by decide) (hs (.arrayOf (.static "java/util/ArrayList" "DEFAULTCAPACITY_EMPTY_ELEMENTDATA" "[Ljava/lang/Object;") (.object "java/lang/Object")) (by decide +kernel)) hlen (fun j hj => absurd hj (Nat.not_lt_zero _)) hA
  exact ⟨t, va_Zref (hts _ (List.mem_of_getElem? (i := 108) (by decide +kernel))) (hts _ (List.mem_of_getElem? (i := 69) (by decide +kernel))) ht hA, hT⟩
theorem st_kn {C : String} {T : u_T} {N : Nat} (hg : ∀ w ∈ lwg, w.before #[Value.ref b] s = true) (hin : ∀ w ∈ u_ws C T N, w ∈ lwg) (hi : Cond.instantiable C N ∈ lwg) : ∃ (cC : ClassId) (iS : Nat → Nat), ∀ q : vw_C, some (C, T, N) = some q → u_Kn s q.1 q.2.1 q.2.2 cC iS := by
  obtain ⟨cC, iS, h⟩ := u_known hg hin (hg _ hi)
  exact ⟨cC, iS, fun q e => by cases e; exact h⟩
theorem st_cls (hg : ∀ w ∈ lwg, w.before #[Value.ref b] s = true) : ∃ D : va_G, ∀ (k : Nat) (q : vw_C), vwCl[k]? = some q → u_Kn s q.1 q.2.1 q.2.2 (D.1 k) (D.2 k) := by
  have hall : ∀ k : Nat, ∃ (cC : ClassId) (iS : Nat → Nat), ∀ q : vw_C, vwCl[k]? = some q → u_Kn s q.1 q.2.1 q.2.2 cC iS := by
    intro k
    match k with
    | 0 => exact st_kn hg inLg (lwg_at 96 (by decide +kernel) rfl)
    | 1 => exact st_kn hg inCg (lwg_at 256 (by decide +kernel) rfl)
    | 2 => exact st_kn hg inK2g (lwg_at 503 (by decide +kernel) rfl)
    | 3 => exact st_kn hg inK4g (lwg_at 525 (by decide +kernel) rfl)
    | 4 => exact st_kn hg inK3g (lwg_at 514 (by decide +kernel) rfl)
    | 5 => exact st_kn hg inK0g (lwg_at 536 (by decide +kernel) rfl)
    | 6 => exact st_kn hg inPg (lwg_at 122 (by decide +kernel) rfl)
    | 7 => exact st_kn hg inSg (lwg_at 199 (by decide +kernel) rfl)
    | 8 => exact st_kn hg inK1g (lwg_at 471 (by decide +kernel) rfl)
    | 9 => exact st_kn hg inTg (lwg_at 162 (by decide +kernel) rfl)
    | 10 => exact st_kn hg inVg (lwg_at 340 (by decide +kernel) rfl)
    | 11 => exact st_kn hg inXg (lwg_at 88 (by decide +kernel) rfl)
    | 12 => exact st_kn hg inMg (lwg_at 905 (by decide +kernel) rfl)
    | k + 13 =>
      obtain ⟨cC, iS, -⟩ := st_kn hg inXg (lwg_at 88 (by decide +kernel) rfl)
      exact ⟨cC, iS, fun q h => by simp [vwCl] at h⟩
  exact ⟨(fun k => (hall k).choose, fun k => (hall k).choose_spec.choose), fun k q h => (hall k).choose_spec.choose_spec q h⟩
end
/-- nothing there yet -/
def A00 : AS := (fun k => if k = 10 then 100 else 0, fun _ _ => 0)
theorem KK_start {D : va_G} {ad : Nat → Nat} {cI cII cO : ClassId} {em : Nat} {fs : Fin 3 → Nat → Int32} (hf : ∀ t i, i < 10 → fs t i = nI i) : KK em (xg0 D ad cI cII cO em) (xσ0 fs) mσ0 := by
  refine ⟨A00, ⟨⟨by decide, by decide, by decide, fun h hh => absurd hh (Nat.not_lt_zero _), fun h hh => absurd hh (Nat.not_lt_zero _), fun k hk => Nat.zero_le _⟩, ⟨by decide, fun v hv => absurd hv (Nat.not_lt_zero _)⟩, ⟨by decide, fun i hi => absurd hi (Nat.not_lt_zero _)⟩, by decide, fun z => absurd z (by decide)⟩, ⟨⟨rfl, rfl, fun j => j.elim0, fun v => v.elim0, fun _ => rfl, fun _ => rfl⟩, ⟨fun h hh => absurd hh (Nat.not_lt_zero _), fun k hk => ?_, fun k hk => rfl, rfl, rfl⟩, ⟨rfl, fun i hi => absurd hi (Nat.not_lt_zero _)⟩, fun _ => rfl, fun z => absurd z (by decide)⟩, ⟨rfl, rfl, rfl, fun h hh => absurd hh (Nat.not_lt_zero _), fun h hh => absurd hh (Nat.not_lt_zero _), fun k hk => rfl⟩, ⟨rfl, fun v hv => absurd hv (Nat.not_lt_zero _)⟩, ⟨rfl, fun i hi => absurd hi (Nat.not_lt_zero _)⟩, rfl, fun z => absurd z (by decide)⟩
  show fs 0 k = nI (if k < 0 then _ else k)
  rw [if_neg (Nat.not_lt_zero _)]; exact hf 0 k hk
