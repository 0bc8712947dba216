/-! The law's entry: what the Statement gives is what the walk stands on. -/
theorem z_in_str : ∀ q ∈ zstr, Cond.stringRef q.1 q.2.1 q.2.2 ∈ lw_tbl := by decide +kernel
set_option maxRecDepth 100000 in
theorem z_in_exa : ∀ q ∈ zstr, Cond.exactly (.string q.1 q.2.1) "java/lang/String" ∈ flatC (Jvm.Cond.and given_1 narrow_1) := by decide +kernel
set_option maxRecDepth 100000 in
theorem z_in_nc : ∀ q ∈ zNC, Cond.not (.castable q.1 q.2) ∈ flatC (Jvm.Cond.and given_1 narrow_1) := by decide +kernel
abbrev zDE : Term := .static "java/util/ArrayList" "DEFAULTCAPACITY_EMPTY_ELEMENTDATA" "[Ljava/lang/Object;"
set_option maxRecDepth 100000 in
theorem z_in_arr : Cond.arrayOf zDE (.object "java/lang/Object") ∈ flatC (Jvm.Cond.and given_1 narrow_1) ∧ Cond.eq (.length zDE) (.int 0) ∈ flatC (Jvm.Cond.and given_1 narrow_1) ∧ Cond.isRef (.static Bundle.tN "UNASSIGNED_STACK" Bundle.steD) ∈ flatC (Jvm.Cond.and given_1 narrow_1) ∧ Cond.isRef (.static Bundle.tN "SUPPRESSED_SENTINEL" Bundle.listD) ∈ flatC (Jvm.Cond.and given_1 narrow_1) ∧ Cond.isRef (.mirror "[Ljava/lang/Object;") ∈ flatC (Jvm.Cond.and given_1 narrow_1) := by decide +kernel
set_option maxRecDepth 100000 in
theorem z_in_tab : Cond.laysStatic "java/util/ArrayList" "DEFAULTCAPACITY_EMPTY_ELEMENTDATA" "[Ljava/lang/Object;" ∈ lw_tbl ∧ Cond.laysStatic Bundle.tN "UNASSIGNED_STACK" Bundle.steD ∈ lw_tbl ∧ Cond.laysStatic Bundle.tN "SUPPRESSED_SENTINEL" Bundle.listD ∈ lw_tbl ∧ Cond.initialized "java/util/ArrayList" ∈ lw_tbl ∧ Cond.initialized Bundle.tN ∈ lw_tbl ∧ Cond.arrayOver (.object "java/lang/Object") ∈ lw_tbl ∧ Cond.arrayClass .int ∈ lw_tbl ∧ Cond.arrayClass .boolean ∈ lw_tbl ∧ Cond.arrayClass .long ∈ lw_tbl ∧ Cond.instantiable R_A 7 ∈ lw_tbl ∧ Cond.instantiable R_L 8 ∈ lw_tbl ∧ Cond.instantiable R_G 5 ∈ lw_tbl ∧ Cond.instantiable R_P 7 ∈ lw_tbl ∧ Cond.instantiable R_M 25 ∈ lw_tbl ∧ Cond.instantiable R_Y 3 ∈ lw_tbl := by decide +kernel
theorem z_arrC {args : Array Value} {s : State} {ty : FieldType} (h : (Cond.arrayClass ty).before args s = true) (hp : ∀ cA, s.vm.findClass ("[" ++ ty.toString) = some cA → va_RA s cA ty) : ∃ cA : ClassId, ArrOfT s cA ty ∧ va_RA s cA ty := by
  obtain ⟨cA, kA, comp, h1, h2, h3⟩ := Cond.arrayClass_spec h
  exact ⟨cA, fun n z => ⟨fun k h => (by cases h), kA, h2, comp, h3⟩, hp cA h1⟩
set_option maxHeartbeats 4000000 in
set_option maxRecDepth 100000 in
theorem z_start {p : Program} {s : State} {m : MethodId} {meth : Method} {c : Code} {b L : Nat} {xs : Nat → Int32} (C0 : lw_At p s m meth c b L xs) : ∃ (D : va_G) (tc : Nat → ClassId), zL D tc (fun q => s.heap.size ≤ q) p s m meth c b L xs := by
  obtain ⟨hx, hb, hr, hml, hown, hts, hX, hbl, hlocks, hgv⟩ := C0
  have hs := flat_of_before _ hgv
  have hA : ∀ a : Nat, a < s.heap.size → ¬ (fun q : Nat => s.heap.size ≤ q) a := fun a h => Nat.not_le.mpr h
  have htb : ∀ w ∈ zTB, w.before #[Value.ref b] s = true := fun w hw => hts w (List.mem_filter.mp hw).1
  obtain ⟨t1, t2, t3, t4, t5, t6, t7, t8, t9, tA, tL, tG, tP, tM, tY⟩ := z_in_tab
  obtain ⟨n1, n2, n3, n4, n5⟩ := z_in_arr
  obtain ⟨d0, e0', k0⟩ := u_known (C := R_A) (T := T_A) (N := 7) (n := 7) htb inw_A (hts _ tA)
  obtain ⟨d1, e1', k1⟩ := u_known (C := R_L) (T := T_L) (N := 8) (n := 8) htb inw_L (hts _ tL)
  obtain ⟨d2, e2', k2⟩ := u_known (C := R_G) (T := T_G) (N := 5) (n := 5) htb inw_G (hts _ tG)
  obtain ⟨d3, e3', k3⟩ := u_known (C := R_P) (T := T_P) (N := 7) (n := 7) htb inw_P (hts _ tP)
  obtain ⟨d4, e4', k4⟩ := u_known (C := R_M) (T := T_M) (N := 25) (n := 25) htb inw_M (hts _ tM)
  obtain ⟨d5, e5', k5⟩ := u_known (C := R_Y) (T := T_Y) (N := 3) (n := 3) htb inw_Y (hts _ tY)
  obtain ⟨cI, aI, rI⟩ := z_arrC (hts _ t7) (fun _ h => h)
  obtain ⟨cZ, aZ, rZ⟩ := z_arrC (hts _ t8) (fun _ h => h)
  obtain ⟨cJ, aJ, rJ⟩ := z_arrC (hts _ t9) (fun _ h => h)
  obtain ⟨comp, cO, kO, o1, -, o3, o4, o5⟩ := Cond.arrayOver_spec (hts _ t6)
  have aO : ArrOfT s cO (.object "java/lang/Object") := fun n z => ⟨fun k h => (by cases h), kO, o3, comp, o4⟩
  have hlen : (Term.length zDE).eval #[Value.ref b] s none [] s = some (.int (Int32.ofNat 0)) := va_eqI (u := .int 0) (by simpa [Cond.before, Cond.holds] using hs _ n2) rfl
  obtain ⟨ea, hea, hT⟩ := va_Tof (N := 0) (f := fun _ => .null) (A := fun q => s.heap.size ≤ q) (by decide) (hs _ n1) hlen (fun j hj => absurd hj (Nat.not_lt_zero _)) hA
  obtain ⟨mi, hMi⟩ := va_Mi.of (hs _ n5)
  have hsx : ∀ k : Nat, ∃ a : Nat, ∀ q, zstr[k]? = some q → vk_R q.1 q.2.1 q.2.2 a s := by
    intro k
    cases hk : zstr[k]? with
    | none => exact ⟨0, fun q h => by cases h⟩
    | some q =>
      have hm := List.mem_of_getElem? hk
      obtain ⟨a, -, -, -, ha, -⟩ := Cond.exactly_spec (hs _ (z_in_exa q hm))
      exact ⟨a, fun q' h => by cases h; exact vk_R.of (hts _ (z_in_str q hm)) ha⟩
  obtain ⟨sa, hsa⟩ : ∃ sa : Nat → Nat, ∀ k, ∀ q, zstr[k]? = some q → vk_R q.1 q.2.1 q.2.2 (sa k) s := ⟨fun k => (hsx k).choose, fun k => (hsx k).choose_spec⟩
  refine ⟨(fun k => match k with | 0 => d0 | 1 => d1 | 2 => d2 | 3 => d3 | 4 => d4 | _ => d5, fun k => match k with | 0 => e0' | 1 => e1' | 2 => e2' | 3 => e3' | 4 => e4' | _ => e5'), fun k => match k with | 0 => cI | 1 => cZ | 2 => cO | 3 => cJ | 8 => mi | 9 => ea | k => sa (k - 10), hx, hb, hml, hr, hown, htb, hlocks, fun _ h => h, ⟨⟨?_, ?_⟩, fun w hw => va_Nw.of (zNs_tab (List.mem_filter.mp hw).2) (hts w (List.mem_filter.mp hw).1), ?_, ?_, ?_, ?_, ?_, ?_, ?_⟩, fun q hq => va_Nc.of (hs _ (z_in_nc q hq)), hX, hbl, Nat.not_le.mpr hbl, fun _ h => h⟩
  · intro k q hq
    match k, hq with
    | 0, hq => cases hq; exact k0
    | 1, hq => cases hq; exact k1
    | 2, hq => cases hq; exact k2
    | 3, hq => cases hq; exact k3
    | 4, hq => cases hq; exact k4
    | 5, hq => cases hq; exact k5
    | k + 6, hq => simp at hq
  · intro k q hq
    match k, hq with
    | 0, hq => cases hq; exact ⟨aI, rI⟩
    | 1, hq => cases hq; exact ⟨aZ, rZ⟩
    | 2, hq => cases hq; exact ⟨aO, kO, comp, o3, o4, o1, o5⟩
    | 3, hq => cases hq; exact ⟨aJ, rJ⟩
    | k + 4, hq => simp at hq
  · exact vx_Zqof (hts _ t2) (hts _ t5) (hs _ n3) hA
  · exact vx_Zqof (hts _ t3) (hts _ t5) (hs _ n4) hA
  · intro k q hk
    exact hsa k q hk
  · exact va_Zof (hts _ t1) (hts _ t4) hea hA
  · exact hT
  · exact hMi
  · exact va_AO.of (hts _ t6)
