/-! The heap as a map from addresses to cells; the kit's rows seen through it. An array's class is a number (tc gives its class). -/
abbrev zE : Type := (Nat × vp_A) ⊕ (Nat × List Value)
abbrev zM : Type := Nat → Option zE
def z_tr (tc : Nat → ClassId) : zE → va_E
  | .inl a => .inl (tc a.1, a.2)
  | .inr o => .inr o
def z_g (tc : Nat → ClassId) (M : zM) (a : Nat) : va_E := match M a with
  | some e => z_tr tc e
  | none => .inr (0, [])
def zP (D : va_G) (cl : List vw_C) (tc : Nat → ClassId) (A : Nat → Prop) (M : zM) (H : Heap) : Prop :=
  ∃ L : List Nat, (∀ a, a ∈ L ↔ ∃ e, M a = some e) ∧ va_P D cl (va_pl L (z_g tc M)) H ∧ va_D A (va_pl L (z_g tc M))
theorem z_g_some {tc : Nat → ClassId} {M : zM} {a : Nat} {e : zE} (h : M a = some e) : z_g tc M a = z_tr tc e := by simp [z_g, h]
theorem z_open {D : va_G} {cl : List vw_C} {tc : Nat → ClassId} {A : Nat → Prop} {M : zM} {H : Heap} (h : zP D cl tc A M H) {a : Nat} {e : zE} (ha : M a = some e) :
    ∃ (ws : va_W) (k : Nat), va_P D cl ws H ∧ va_D A ws ∧ ws[k]? = some (a, z_tr tc e) ∧ (∀ b e2, M b = some e2 → ∃ k2 : Nat, ws[k2]? = some (b, z_tr tc e2)) ∧
      ∀ (e' : zE) (H' : Heap), va_P D cl (ws.set k (a, z_tr tc e')) H' → va_D A (ws.set k (a, z_tr tc e')) → zP D cl tc A (va_up M a (some e')) H' := by
  obtain ⟨L, hL, hP, hD⟩ := h
  have hin : ∀ b e2, M b = some e2 → ∃ k2 : Nat, (va_pl L (z_g tc M))[k2]? = some (b, z_tr tc e2) := by
    intro b e2 hb
    obtain ⟨k2, hk2⟩ := va_pl_get (X := []) (f := z_g tc M) ((hL b).mpr ⟨e2, hb⟩)
    rw [List.nil_append, z_g_some hb] at hk2
    exact ⟨k2, hk2⟩
  obtain ⟨k, hk⟩ := hin a e ha
  have haL : a ∈ L := (hL a).mpr ⟨e, ha⟩
  refine ⟨va_pl L (z_g tc M), k, hP, hD, hk, hin, fun e' H' hP' hD' => ?_⟩
  have hset : (va_pl L (z_g tc M)).set k (a, z_tr tc e') = va_pl L (va_up (z_g tc M) a (z_tr tc e')) :=
    va_pl_set (A := A) (X := []) (L := L) (f := z_g tc M) (a := a) (k := k) (e := z_tr tc e') hD haL (by rw [List.nil_append, z_g_some ha]; exact hk)
  have hcg : va_pl L (va_up (z_g tc M) a (z_tr tc e')) = va_pl L (z_g tc (va_up M a (some e'))) := va_pl_congr fun b => by
    by_cases hb : b = a
    · subst hb
      simp [z_g, va_up]
    · simp [z_g, va_up, hb]
  rw [hset, hcg] at hP' hD'
  refine ⟨L, fun b => ?_, hP', hD'⟩
  by_cases hb : b = a
  · subst hb
    exact ⟨fun _ => ⟨e', va_up_self _ _ _⟩, fun _ => haL⟩
  · rw [va_up_ne _ _ hb]
    exact hL b
theorem z_new {D : va_G} {cl : List vw_C} {tc : Nat → ClassId} {A : Nat → Prop} {M : zM} {H : Heap} (h : zP D cl tc A M H) :
    ∃ ws : va_W, va_P D cl ws H ∧ va_D A ws ∧ ∀ (q : Nat) (e : zE) (H' : Heap), va_P D cl (ws ++ [(q, z_tr tc e)]) H' → va_D A (ws ++ [(q, z_tr tc e)]) → M q = none ∧ zP D cl tc A (va_up M q (some e)) H' := by
  obtain ⟨L, hL, hP, hD⟩ := h
  refine ⟨va_pl L (z_g tc M), hP, hD, fun q e H' hP' hD' => ?_⟩
  have hq : q ∉ L := va_pl_fresh2 (X := []) hD'
  have hn : M q = none := by
    cases hM : M q with
    | none => rfl
    | some e2 => exact absurd ((hL q).mpr ⟨e2, hM⟩) hq
  have hcg : va_pl (L ++ [q]) (va_up (z_g tc M) q (z_tr tc e)) = va_pl (L ++ [q]) (z_g tc (va_up M q (some e))) := va_pl_congr fun b => by
    by_cases hb : b = q
    · subst hb
      simp [z_g, va_up]
    · simp [z_g, va_up, hb]
  rw [va_pl_push hq, hcg] at hP' hD'
  refine ⟨hn, L ++ [q], fun b => ?_, hP', hD'⟩
  by_cases hb : b = q
  · subst hb
    exact ⟨fun _ => ⟨e, va_up_self _ _ _⟩, fun _ => by simp⟩
  · rw [va_up_ne _ _ hb, List.mem_append, List.mem_singleton]
    exact ⟨fun h => (hL b).mp (h.resolve_right hb), fun h => Or.inl ((hL b).mpr h)⟩
theorem z_kept {D : va_G} {cl : List vw_C} {tc : Nat → ClassId} {A : Nat → Prop} {M : zM} {H H' : Heap} (h : zP D cl tc A M H) (hq : ∀ q : Nat, q < H.size → H'[q]? = H[q]?) : zP D cl tc A M H' := by
  obtain ⟨L, hL, hP, hD⟩ := h
  exact ⟨L, hL, hP.kept (fun k q hk => hq _ (hP k q hk).lt), hD⟩
theorem z_A {D : va_G} {cl : List vw_C} {tc : Nat → ClassId} {A : Nat → Prop} {M : zM} {H : Heap} (h : zP D cl tc A M H) {a : Nat} {e : zE} (ha : M a = some e) : A a := by
  obtain ⟨ws, k, -, hD, hk, -⟩ := z_open h ha
  exact hD.2 k _ hk
theorem z_recv {D : va_G} {cl : List vw_C} {tc : Nat → ClassId} {A : Nat → Prop} {tys : List (ClassId × FieldType)} {M : zM} {s : State} {H : Heap} (hK : va_K D cl tys s) (h : zP D cl tc A M H) {a ci : Nat} {fs : List Value} {q : vw_C} (ha : M a = some (.inr (ci, fs))) (hc : cl[ci]? = some q) :
    ∃ cell : Cell, H[a]? = some cell ∧ cell.vm.isStatics = false ∧ s.vm.findClass q.1 = some cell.cls := by
  obtain ⟨ws, k, hP, -, hk, -⟩ := z_open h ha
  exact va_recv hK hP hc hk
theorem z_tsw {x : Int32} {n : Nat} (hn : n < 2 ^ 31) (h : ∀ k : Nat, k < n → ¬ x = nI k) : x.toInt < 0 ∨ (n : Int) ≤ x.toInt := by
  rcases pk_ix x hn with h1 | h1 | ⟨j, hj, e⟩
  · exact Or.inl (by have := Int32.lt_iff_toInt_lt.mp h1; simpa using this)
  · exact Or.inr (by have := Int32.le_iff_toInt_le.mp h1; rw [nI_toInt hn] at this; exact this)
  · exact absurd e (h j hj)
/-! Instructions over the map. -/
section ZR
variable {p : Program} {l : Launch} {e : Env} {R : Room} {s : State} {m : MethodId} {args : Array Value} {below : List Frame} {meth : Method} {c : Code} {H : Heap} {locs : List Loc} {cells slots : Nat} {Q : State → Prop}
variable {cc : ByteArray} {pc : Nat} {ls : Array Slot} {rest : List Value} {D : va_G} {cl : List vw_C} {tc : Nat → ClassId} {A : Nat → Prop} {a : Nat} {tys : List (ClassId × FieldType)} {M : zM} {H0 : Heap}
theorem z_get (hexec : p.tables.exec = Jvm.exec) (hb : c.code = cc) {own ref C : String} {T : u_T} {N ci index : Nat} {Ts : List Cond} (hts : ∀ w ∈ Ts, w.before args s = true) (hin : ∀ w ∈ u_ws C T N, w ∈ Ts) (hown : s.vm.findClass own = some m.cls) (hK : va_K D cl tys s) (hM : zP D cl tc A M H) {fs : List Value} (he : M a = some (.inr (ci, fs))) (hc : cl[ci]? = some (C, T, N)) (k : Nat) (hk : k < N) (hlink : (Cond.fieldLink own index ref (T k).2.1 (T k).2.2.1).before args s = true) (hsame : ∀ x, s.fieldFound? (T k).1 (T k).2.1 (T k).2.2.1 = some x → s.fieldFound? ref (T k).2.1 (T k).2.2.1 = some x) {v : Value} (hv : fs[k]? = some v) (hdg : decode cc pc = .ok (.getfield index, 3))
    (kk : W p l e R s m args below meth c H locs cells slots Q (F0 m (pc + 3) ls (v :: rest))) : W p l e R s m args below meth c H locs cells slots Q (F0 m pc ls (.ref a :: rest)) := by
  obtain ⟨ws, q0, hP, -, hq, -⟩ := z_open hM he
  exact va_get hexec hb hts hin hown hK hP q0 hq hc k hk hlink hsame hv hdg kk
theorem z_getN (hexec : p.tables.exec = Jvm.exec) (hb : c.code = cc) {own ref C host : String} {T : u_T} {N ci index : Nat} {Ts : List Cond} (hts : ∀ w ∈ Ts, w.before args s = true) (hin : ∀ w ∈ u_ws C T N, w ∈ Ts) (hown : s.vm.findClass own = some m.cls) (hK : va_K D cl tys s) (hM : zP D cl tc A M H) {fs : List Value} (he : M a = some (.inr (ci, fs))) (hc : cl[ci]? = some (C, T, N)) (k : Nat) (hk : k < N) (hlink : (Cond.fieldLinkNest own index ref (T k).2.1 (T k).2.2.1 host).before args s = true) (hsame : ∀ x, s.fieldFound? (T k).1 (T k).2.1 (T k).2.2.1 = some x → s.fieldFound? ref (T k).2.1 (T k).2.2.1 = some x) {v : Value} (hv : fs[k]? = some v) (hdg : decode cc pc = .ok (.getfield index, 3))
    (kk : W p l e R s m args below meth c H locs cells slots Q (F0 m (pc + 3) ls (v :: rest))) : W p l e R s m args below meth c H locs cells slots Q (F0 m pc ls (.ref a :: rest)) := by
  obtain ⟨ws, q0, hP, -, hq, -⟩ := z_open hM he
  exact va_getN hexec hb hts hin hown hK hP q0 hq hc k hk hlink hsame hv hdg kk
theorem z_put (hexec : p.tables.exec = Jvm.exec) (hb : c.code = cc) {own ref C : String} {T : u_T} {N ci index : Nat} {Ts : List Cond} (hts : ∀ w ∈ Ts, w.before args s = true) (hin : ∀ w ∈ u_ws C T N, w ∈ Ts) (ty0 : Nat → FieldType) (hty : ∀ k, k < N → parseFieldDescriptor (T k).2.2.1 = some (ty0 k)) (hnm : ∀ a, a < N → ∀ b, b < N → a ≠ b → (T a).2.1 ≠ (T b).2.1) (hown : s.vm.findClass own = some m.cls) (hK : va_K D cl tys s) (hM : zP D cl tc A M H) (hS : va_S A H0 H locs) {fs : List Value} (he : M a = some (.inr (ci, fs))) (hc : cl[ci]? = some (C, T, N)) (k : Nat) (hk : k < N) (hlink : (Cond.fieldLink own index ref (T k).2.1 (T k).2.2.1).before args s = true) (hsame : ∀ x, s.fieldFound? (T k).1 (T k).2.1 (T k).2.2.1 = some x → s.fieldFound? ref (T k).2.1 (T k).2.2.1 = some x) (hfin : (T k).2.2.2 = false) {ty : FieldType} {v : Value} (hd : parseFieldDescriptor (T k).2.2.1 = some ty) (hn : narrow ty v = v) (hfit : fits ty v = true) (hl : k < fs.length) (hdg : decode cc pc = .ok (.putfield index, 3))
    (kk : ∀ (H1 : Heap) (locs1 : List Loc), zP D cl tc A (va_up M a (some (.inr (ci, fs.set k v)))) H1 → va_S A H0 H1 locs1 → W p l e R s m args below meth c H1 locs1 cells slots Q (F0 m (pc + 3) ls rest)) : W p l e R s m args below meth c H locs cells slots Q (F0 m pc ls (v :: .ref a :: rest)) := by
  obtain ⟨ws, q0, hP, hD, hq, -, hz⟩ := z_open hM he
  exact va_put hexec hb hts hin ty0 hty hnm hown hK hP hD hS q0 hq hc k hk hlink hsame hfin hd hn hfit hl hdg (fun H1 locs1 hP1 hD1 hS1 => kk H1 locs1 (hz (.inr (ci, fs.set k v)) H1 hP1 hD1) hS1)
theorem z_putN (hexec : p.tables.exec = Jvm.exec) (hb : c.code = cc) {own ref C host : String} {T : u_T} {N ci index : Nat} {Ts : List Cond} (hts : ∀ w ∈ Ts, w.before args s = true) (hin : ∀ w ∈ u_ws C T N, w ∈ Ts) (ty0 : Nat → FieldType) (hty : ∀ k, k < N → parseFieldDescriptor (T k).2.2.1 = some (ty0 k)) (hnm : ∀ a, a < N → ∀ b, b < N → a ≠ b → (T a).2.1 ≠ (T b).2.1) (hown : s.vm.findClass own = some m.cls) (hK : va_K D cl tys s) (hM : zP D cl tc A M H) (hS : va_S A H0 H locs) {fs : List Value} (he : M a = some (.inr (ci, fs))) (hc : cl[ci]? = some (C, T, N)) (k : Nat) (hk : k < N) (hlink : (Cond.fieldLinkNest own index ref (T k).2.1 (T k).2.2.1 host).before args s = true) (hsame : ∀ x, s.fieldFound? (T k).1 (T k).2.1 (T k).2.2.1 = some x → s.fieldFound? ref (T k).2.1 (T k).2.2.1 = some x) (hfin : (T k).2.2.2 = false) {ty : FieldType} {v : Value} (hd : parseFieldDescriptor (T k).2.2.1 = some ty) (hn : narrow ty v = v) (hfit : fits ty v = true) (hl : k < fs.length) (hdg : decode cc pc = .ok (.putfield index, 3))
    (kk : ∀ (H1 : Heap) (locs1 : List Loc), zP D cl tc A (va_up M a (some (.inr (ci, fs.set k v)))) H1 → va_S A H0 H1 locs1 → W p l e R s m args below meth c H1 locs1 cells slots Q (F0 m (pc + 3) ls rest)) : W p l e R s m args below meth c H locs cells slots Q (F0 m pc ls (v :: .ref a :: rest)) := by
  obtain ⟨ws, q0, hP, hD, hq, -, hz⟩ := z_open hM he
  exact va_putN hexec hb hts hin ty0 hty hnm hown hK hP hD hS q0 hq hc k hk hlink hsame hfin hd hn hfit hl hdg (fun H1 locs1 hP1 hD1 hS1 => kk H1 locs1 (hz (.inr (ci, fs.set k v)) H1 hP1 hD1) hS1)
theorem z_putF (hexec : p.tables.exec = Jvm.exec) (hb : c.code = cc) {own ref C : String} {T : u_T} {N ci index : Nat} {Ts : List Cond} (hts : ∀ w ∈ Ts, w.before args s = true) (hin : ∀ w ∈ u_ws C T N, w ∈ Ts) (ty0 : Nat → FieldType) (hty : ∀ k, k < N → parseFieldDescriptor (T k).2.2.1 = some (ty0 k)) (hnm : ∀ a, a < N → ∀ b, b < N → a ≠ b → (T a).2.1 ≠ (T b).2.1) (hown : s.vm.findClass own = some m.cls) (hK : va_K D cl tys s) (hM : zP D cl tc A M H) (hS : va_S A H0 H locs) {fs : List Value} (he : M a = some (.inr (ci, fs))) (hc : cl[ci]? = some (C, T, N)) (k : Nat) (hk : k < N) (hlink : (Cond.fieldLink own index ref (T k).2.1 (T k).2.2.1).before args s = true) (hsame : ∀ x, s.fieldFound? (T k).1 (T k).2.1 (T k).2.2.1 = some x → s.fieldFound? ref (T k).2.1 (T k).2.2.1 = some x) (hfin : (T k).2.2.2 = true) (hin2 : meth.name = "<init>") (hdecl : (T k).1 = own) {ty : FieldType} {v : Value} (hd : parseFieldDescriptor (T k).2.2.1 = some ty) (hn : narrow ty v = v) (hfit : fits ty v = true) (hl : k < fs.length) (hdg : decode cc pc = .ok (.putfield index, 3))
    (kk : ∀ (H1 : Heap) (locs1 : List Loc), zP D cl tc A (va_up M a (some (.inr (ci, fs.set k v)))) H1 → va_S A H0 H1 locs1 → W p l e R s m args below meth c H1 locs1 cells slots Q (F0 m (pc + 3) ls rest)) : W p l e R s m args below meth c H locs cells slots Q (F0 m pc ls (v :: .ref a :: rest)) := by
  obtain ⟨ws, q0, hP, hD, hq, -, hz⟩ := z_open hM he
  exact va_putF hexec hb hts hin ty0 hty hnm hown hK hP hD hS q0 hq hc k hk hlink hsame hfin hin2 hdecl hd hn hfit hl hdg (fun H1 locs1 hP1 hD1 hS1 => kk H1 locs1 (hz (.inr (ci, fs.set k v)) H1 hP1 hD1) hS1)
theorem z_alen (hexec : p.tables.exec = Jvm.exec) (hb : c.code = cc) (hK : va_K D cl tys s) (hM : zP D cl tc A M H) (t0 k0 : Nat) {x : vp_A} (ha : M a = some (.inl (k0, x))) {ty : FieldType} (ht : tys[t0]? = some (tc k0, ty)) {v : Int32} (hv : nI x.1 = v) (hdg : decode cc pc = .ok (.arraylength, 1))
    (kk : W p l e R s m args below meth c H locs cells slots Q (F0 m (pc + 1) ls (.int v :: rest))) : W p l e R s m args below meth c H locs cells slots Q (F0 m pc ls (.ref a :: rest)) := by
  obtain ⟨ws, q0, hP, -, hq, -⟩ := z_open hM ha
  exact va_alen hexec hb hK hP q0 t0 hq ht hv hdg kk
theorem z_iald (hexec : p.tables.exec = Jvm.exec) (hb : c.code = cc) (hK : va_K D cl tys s) (hM : zP D cl tc A M H) (t0 k0 : Nat) {n : Nat} {f : Nat → Int32} (ha : M a = some (.inl (k0, n, .inl f))) (ht : tys[t0]? = some (tc k0, .int)) {i : Int32} (hin : vp_in i n) {v : Int32} (hv : f i.toNatClampNeg = v) (hdg : decode cc pc = .ok (.iaload, 1))
    (kk : W p l e R s m args below meth c H locs cells slots Q (F0 m (pc + 1) ls (.int v :: rest))) : W p l e R s m args below meth c H locs cells slots Q (F0 m pc ls (.int i :: .ref a :: rest)) := by
  subst hv
  obtain ⟨ws, q0, hP, -, hq, -⟩ := z_open hM ha
  exact va_iald hexec hb hK hP q0 t0 hq ht hin hdg kk
theorem z_zald (hexec : p.tables.exec = Jvm.exec) (hb : c.code = cc) (hK : va_K D cl tys s) (hM : zP D cl tc A M H) (t0 k0 : Nat) {n : Nat} {f : Nat → Int32} (ha : M a = some (.inl (k0, n, .inl f))) (ht : tys[t0]? = some (tc k0, .boolean)) {i : Int32} (hin : vp_in i n) {v : Int32} (hv : f i.toNatClampNeg = v) (hdg : decode cc pc = .ok (.baload, 1))
    (kk : W p l e R s m args below meth c H locs cells slots Q (F0 m (pc + 1) ls (.int v :: rest))) : W p l e R s m args below meth c H locs cells slots Q (F0 m pc ls (.int i :: .ref a :: rest)) := by
  subst hv
  obtain ⟨ws, q0, hP, -, hq, -⟩ := z_open hM ha
  exact va_zald hexec hb hK hP q0 t0 hq ht hin hdg kk
theorem z_lald (hexec : p.tables.exec = Jvm.exec) (hb : c.code = cc) (hK : va_K D cl tys s) (hM : zP D cl tc A M H) (t0 k0 : Nat) {n : Nat} {f : Nat → Int64} (ha : M a = some (.inl (k0, n, .inr (.inl f)))) (ht : tys[t0]? = some (tc k0, .long)) {i : Int32} (hin : vp_in i n) {v : Int64} (hv : f i.toNatClampNeg = v) (hdg : decode cc pc = .ok (.laload, 1))
    (kk : W p l e R s m args below meth c H locs cells slots Q (F0 m (pc + 1) ls (.long v :: rest))) : W p l e R s m args below meth c H locs cells slots Q (F0 m pc ls (.int i :: .ref a :: rest)) := by
  subst hv
  obtain ⟨ws, q0, hP, -, hq, -⟩ := z_open hM ha
  exact va_lald hexec hb hK hP q0 t0 hq ht hin hdg kk
theorem z_aldq (hexec : p.tables.exec = Jvm.exec) (hb : c.code = cc) (hK : va_K D cl tys s) (hM : zP D cl tc A M H) (t0 k0 : Nat) {C : String} {n : Nat} {f : Nat → Option Nat} (ha : M a = some (.inl (k0, n, .inr (.inr (.inr (.inr f)))))) (ht : tys[t0]? = some (tc k0, .object C)) {i : Int32} (hin : vp_in i n) {v : Option Nat} (hv : f i.toNatClampNeg = v) (hdg : decode cc pc = .ok (.aaload, 1))
    (kk : W p l e R s m args below meth c H locs cells slots Q (F0 m (pc + 1) ls (va_rf v :: rest))) : W p l e R s m args below meth c H locs cells slots Q (F0 m pc ls (.int i :: .ref a :: rest)) := by
  subst hv
  obtain ⟨ws, q0, hP, -, hq, -⟩ := z_open hM ha
  exact va_aldq hexec hb hK hP q0 t0 hq ht hin hdg kk
theorem z_iast (hexec : p.tables.exec = Jvm.exec) (hb : c.code = cc) (hK : va_K D cl tys s) (hM : zP D cl tc A M H) (hS : va_S A H0 H locs) (t0 k0 : Nat) {n : Nat} {f : Nat → Int32} (ha : M a = some (.inl (k0, n, .inl f))) (ht : tys[t0]? = some (tc k0, .int)) {i x : Int32} (hin : vp_in i n) (hdg : decode cc pc = .ok (.iastore, 1))
    (kk : ∀ (H1 : Heap) (locs1 : List Loc), zP D cl tc A (va_up M a (some (.inl (k0, n, .inl (upd f i.toNatClampNeg x))))) H1 → va_S A H0 H1 locs1 → W p l e R s m args below meth c H1 locs1 cells slots Q (F0 m (pc + 1) ls rest)) : W p l e R s m args below meth c H locs cells slots Q (F0 m pc ls (.int x :: .int i :: .ref a :: rest)) := by
  obtain ⟨ws, q0, hP, hD, hq, -, hz⟩ := z_open hM ha
  exact va_iast hexec hb hK hP hD hS q0 t0 hq ht hin hdg (fun H1 locs1 hP1 hD1 hS1 => kk H1 locs1 (hz (.inl (k0, n, .inl (upd f i.toNatClampNeg x))) H1 hP1 hD1) hS1)
theorem z_zast (hexec : p.tables.exec = Jvm.exec) (hb : c.code = cc) (hK : va_K D cl tys s) (hM : zP D cl tc A M H) (hS : va_S A H0 H locs) (t0 k0 : Nat) {n : Nat} {f : Nat → Int32} (ha : M a = some (.inl (k0, n, .inl f))) (ht : tys[t0]? = some (tc k0, .boolean)) {i x : Int32} (hin : vp_in i n) (hdg : decode cc pc = .ok (.bastore, 1))
    (kk : ∀ (H1 : Heap) (locs1 : List Loc), zP D cl tc A (va_up M a (some (.inl (k0, n, .inl (upd f i.toNatClampNeg (vp_nar .boolean x)))))) H1 → va_S A H0 H1 locs1 → W p l e R s m args below meth c H1 locs1 cells slots Q (F0 m (pc + 1) ls rest)) : W p l e R s m args below meth c H locs cells slots Q (F0 m pc ls (.int x :: .int i :: .ref a :: rest)) := by
  obtain ⟨ws, q0, hP, hD, hq, -, hz⟩ := z_open hM ha
  exact va_zast hexec hb hK hP hD hS q0 t0 hq ht hin hdg (fun H1 locs1 hP1 hD1 hS1 => kk H1 locs1 (hz (.inl (k0, n, .inl (upd f i.toNatClampNeg (vp_nar .boolean x)))) H1 hP1 hD1) hS1)
theorem z_last (hexec : p.tables.exec = Jvm.exec) (hb : c.code = cc) (hK : va_K D cl tys s) (hM : zP D cl tc A M H) (hS : va_S A H0 H locs) (t0 k0 : Nat) {n : Nat} {f : Nat → Int64} (ha : M a = some (.inl (k0, n, .inr (.inl f)))) (ht : tys[t0]? = some (tc k0, .long)) {i : Int32} {x : Int64} (hin : vp_in i n) (hdg : decode cc pc = .ok (.lastore, 1))
    (kk : ∀ (H1 : Heap) (locs1 : List Loc), zP D cl tc A (va_up M a (some (.inl (k0, n, .inr (.inl (vp_updL f i.toNatClampNeg x)))))) H1 → va_S A H0 H1 locs1 → W p l e R s m args below meth c H1 locs1 cells slots Q (F0 m (pc + 1) ls rest)) : W p l e R s m args below meth c H locs cells slots Q (F0 m pc ls (.long x :: .int i :: .ref a :: rest)) := by
  obtain ⟨ws, q0, hP, hD, hq, -, hz⟩ := z_open hM ha
  exact va_last hexec hb hK hP hD hS q0 t0 hq ht hin hdg (fun H1 locs1 hP1 hD1 hS1 => kk H1 locs1 (hz (.inl (k0, n, .inr (.inl (vp_updL f i.toNatClampNeg x)))) H1 hP1 hD1) hS1)
theorem z_newO (hexec : p.tables.exec = Jvm.exec) (hb : c.code = cc) {own C : String} {T : u_T} {N ci index : Nat} {Ts : List Cond} (hts : ∀ w ∈ Ts, w.before args s = true) (hin : ∀ w ∈ u_ws C T N, w ∈ Ts) (ty : Nat → FieldType) (hty : ∀ k, k < N → parseFieldDescriptor (T k).2.2.1 = some (ty k)) (hown : s.vm.findClass own = some m.cls) (hcl : (Cond.classLink own index C).before args s = true) (hinst : (Cond.instantiable C N).before args s = true) (hini : (Cond.initialized C).before args s = true)
    (hK : va_K D cl tys s) (hM : zP D cl tc A M H) (hS : va_S A H0 H locs) (hA : ∀ q, H0.size ≤ q → A q) (hc : cl[ci]? = some (C, T, N)) {fs : List Value} (hfs : ∀ j, j < N → defaultValue (ty j) = vp_V fs j) (hcells : cells + 1 ≤ R.cells) (hslots : slots + N ≤ R.slots) (hdg : decode cc pc = .ok (.new index, 3))
    (kk : ∀ (q : Nat) (H1 : Heap), M q = none → zP D cl tc A (va_up M q (some (.inr (ci, fs)))) H1 → va_S A H0 H1 locs → W p l e R s m args below meth c H1 locs (cells + 1) (slots + N) Q (F0 m (pc + 3) ls (.ref q :: rest))) : W p l e R s m args below meth c H locs cells slots Q (F0 m pc ls rest) := by
  obtain ⟨ws, hP, hD, hz⟩ := z_new hM
  refine va_new hexec hb hts hin ty hty hown hcl hinst hini hK hP hD hS hA hc hfs hcells hslots hdg (fun q H1 hP1 hD1 hS1 => ?_)
  obtain ⟨h1, h2⟩ := hz q (.inr (ci, fs)) H1 hP1 hD1
  exact kk q H1 h1 h2 hS1
theorem z_newa (hexec : p.tables.exec = Jvm.exec) (hb : c.code = cc) {atype : ArrayType} (harr : (Cond.arrayClass (newarray.typeOf atype)).before args s = true) {ty : FieldType} (hty : newarray.typeOf atype = ty) (hK : va_K D cl tys s) (hM : zP D cl tc A M H) (hS : va_S A H0 H locs) (hA : ∀ q, H0.size ≤ q → A q) (t0 k0 : Nat) (ht : tys[t0]? = some (tc k0, ty)) (hprim : ∀ cA, va_RA s cA ty → s.vm.findClass ("[" ++ ty.toString) = some cA)
    {n : Int32} {N' : Nat} {a0 : vp_A} (ha : ∀ cA : ClassId, vp_cell cA a0 = arrV cA N' (fun _ => defaultValue ty)) (hn : ¬ n < 0) (hN : n.toNatClampNeg = N') (hbytes : N' * componentBytes ty ≤ 536870912) (hcells : cells + 1 ≤ R.cells) (hslots : slots + N' ≤ R.slots) (hdg : decode cc pc = .ok (.newarray atype, 2))
    (kk : ∀ (q : Nat) (H1 : Heap), M q = none → zP D cl tc A (va_up M q (some (.inl (k0, a0)))) H1 → va_S A H0 H1 locs → W p l e R s m args below meth c H1 locs (cells + 1) (slots + N') Q (F0 m (pc + 2) ls (.ref q :: rest))) : W p l e R s m args below meth c H locs cells slots Q (F0 m pc ls (.int n :: rest)) := by
  obtain ⟨ws, hP, hD, hz⟩ := z_new hM
  refine va_newa hexec hb harr hty hK hP hD hS hA ha hn hN hbytes hcells hslots hdg (fun q cA H1 hK1 hP1 hD1 hS1 => ?_)
  have e1 : cA = tc k0 := Option.some.inj ((hprim _ (hK1.2 tys.length (cA, ty) (by simp)).2).symm.trans (hprim _ (hK.2 t0 _ ht).2))
  subst e1
  obtain ⟨h1, h2⟩ := hz q (.inl (k0, a0)) H1 hP1 hD1
  exact kk q H1 h1 h2 hS1
end ZR
