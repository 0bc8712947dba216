abbrev zty (tc : Nat → ClassId) : List (ClassId × FieldType) := [(tc 0, .int), (tc 1, .boolean), (tc 2, .object "java/lang/Object"), (tc 3, .long)]
/-- the statics and texts that throws need; zstr: class, pool place, text -/
def zSt (tc : Nat → ClassId) (A : Nat → Prop) (U : State) (H : Heap) : Prop :=
  vx_Zq Bundle.tN "UNASSIGNED_STACK" Bundle.steD A U H ∧ vx_Zq Bundle.tN "SUPPRESSED_SENTINEL" Bundle.listD A U H ∧ (∀ (k : Nat) (q : String × Nat × String), (zstr[k]? = some q → vk_R q.1 q.2.1 q.2.2 (tc (k + 10)) U)) ∧
  va_Z "java/util/ArrayList" "DEFAULTCAPACITY_EMPTY_ELEMENTDATA" "[Ljava/lang/Object;" (.ref (tc 9)) A U H ∧ va_T (.object "java/lang/Object") (tc 9) 0 (fun _ => .null) A U H ∧ va_Mi "[Ljava/lang/Object;" (tc 8) U ∧ va_AO "java/lang/Object" U
def zG (D : va_G) (tc : Nat → ClassId) (A : Nat → Prop) (U : State) (H : Heap) : Prop := va_K D vwCl (zty tc) U ∧ (∀ w ∈ zNW, va_Nw w U) ∧ zSt tc A U H
def zI (D : va_G) (tc : Nat → ClassId) (A : Nat → Prop) (M : zM) (U : State) : Prop := (∀ q, U.heap.size ≤ q → A q) ∧ zP D vwCl tc A M U.heap ∧ zG D tc A U U.heap
def zB (D : va_G) (tc : Nat → ClassId) (A : Nat → Prop) (u : zM) (t : State) : Prop := zP D vwCl tc A u t.heap
theorem zB_of {D : va_G} {tc : Nat → ClassId} {A : Nat → Prop} {M : zM} {t : State} {H : Heap} (ht : t.heap = H) (hM : zP D vwCl tc A M H) : zB D tc A M t := by
  show zP D vwCl tc A M t.heap
  rw [ht]
  exact hM
def zX (D : va_G) (tc : Nat → ClassId) (A : Nat → Prop) (px : String → zM → Prop) : String → State → State → Prop := vx_X (fun u : String × zM => px u.1 u.2) (fun E u t => u.1 = E ∧ zP D vwCl tc A u.2 t.heap) A
theorem zG_call {D : va_G} {tc : Nat → ClassId} {A : Nat → Prop} {s U : State} {H : Heap} {locs : List Loc} (hG : zG D tc A s s.heap) (hS : va_S A s.heap H locs) (hU : U.heap = H) (hW : s.WarmedH U.vm) : zG D tc A U U.heap := by
  obtain ⟨hK, hN, h1, h2, h3, h4, h5, h7, h8⟩ := hG
  refine ⟨va_K.moved hW.alike hK, fun w hw => zNs_warm (List.mem_filter.mp hw).2 hW (hN w hw), ?_, ?_, fun k q hk => vk_R.warm hW (h3 k q hk), ?_, ?_, va_Mi.moved hW.alike h7, va_AO.moved hW.alike h8⟩
  · rw [hU]; exact vx_Zq.moved hW.alike (h1.kept hS.2.1)
  · rw [hU]; exact vx_Zq.moved hW.alike (h2.kept hS.2.1)
  · rw [hU]; exact va_Z.moved hW.alike (h4.kept hS.2.1)
  · rw [hU]; exact va_T.moved hW.alike (h5.kept hS.2.1)
theorem zG_blind {D : va_G} {tc : Nat → ClassId} {A : Nat → Prop} {U : State} {g : JFrame} {mk : MethodId} {a : Array Value} (hG : zG D tc A U U.heap) : zG D tc A (U.calling g mk a) (U.calling g mk a).heap := by
  obtain ⟨hK, hN, h1, h2, h3, h4, h5, h7, h8⟩ := hG
  have hv : (U.calling g mk a).vm = U.vm := rfl
  refine ⟨va_K.moved (u := U) (U := U.calling g mk a) (Vm.Alike.refl U.vm) hK, fun w hw => va_Nw.same (zNs_tab (List.mem_filter.mp hw).2) hv.symm (hN w hw), ?_, ?_, fun k q hk => vk_R.same hv (h3 k q hk), ?_, va_T.moved (u := U) (U := U.calling g mk a) (Vm.Alike.refl U.vm) h5, va_Mi.moved (u := U) (U := U.calling g mk a) (Vm.Alike.refl U.vm) h7, va_AO.moved (u := U) (U := U.calling g mk a) (Vm.Alike.refl U.vm) h8⟩
  · exact vx_Zq.moved (u := U) (U := U.calling g mk a) (Vm.Alike.refl U.vm) h1
  · exact vx_Zq.moved (u := U) (U := U.calling g mk a) (Vm.Alike.refl U.vm) h2
  · exact va_Z.moved (u := U) (U := U.calling g mk a) (Vm.Alike.refl U.vm) h4
theorem z_blind {D : va_G} {tc : Nat → ClassId} {A : Nat → Prop} {M : zM} {As : List Value} : FrameBlind (va_Pc As (zI D tc A M)) := fun _ _ _ _ q => ⟨q.1, q.2.1, q.2.2.1, zG_blind q.2.2.2⟩
theorem z_preS {D : va_G} {tc : Nat → ClassId} {A : Nat → Prop} {M : zM} {s : State} {H : Heap} {locs : List Loc} {As : List Value} (hG : zG D tc A s s.heap) (hA : ∀ q, s.heap.size ≤ q → A q) (hS : va_S A s.heap H locs) (hM : zP D vwCl tc A M H) : PreS s H (va_Pc As (zI D tc A M)) As :=
  ⟨z_blind, fun U hU hW => ⟨rfl, fun q hq => hA q (Nat.le_trans hS.1 (by rw [← hU]; exact hq)), by rw [hU]; exact hM, zG_call hG hS hU hW⟩⟩
theorem z_preV {D : va_G} {tc : Nat → ClassId} {A : Nat → Prop} {M : zM} {s : State} {H : Heap} {locs : List Loc} {b ci : Nat} {fs : List Value} {q : vw_C} {As : List Value} (hG : zG D tc A s s.heap) (hA : ∀ q, s.heap.size ≤ q → A q) (hS : va_S A s.heap H locs) (hM : zP D vwCl tc A M H) (hb : M b = some (.inr (ci, fs))) (hc : vwCl[ci]? = some q) : PreV s H q.1 b (va_Pc (.ref b :: As) (zI D tc A M)) As :=
  ⟨z_blind, z_recv hG.1 hM hb hc, fun U hU hW => ⟨rfl, fun q hq => hA q (Nat.le_trans hS.1 (by rw [← hU]; exact hq)), by rw [hU]; exact hM, zG_call hG hS hU hW⟩⟩
/-- what a method's walk has from its entry on -/
def zC (own : String) (cc : ByteArray) (nL : Nat) (rt : Option FieldType) (nm : String) (D : va_G) (tc : Nat → ClassId) (A : Nat → Prop) (p : Program) (l : Launch) (s : State) (m : MethodId) (args : Array Value) (meth : Method) (c : Code) : Prop :=
  p.tables.exec = Jvm.exec ∧ c.code = cc ∧ c.maxLocals = nL ∧ meth.sig.returnType = rt ∧ s.vm.findClass own = some m.cls ∧ (∀ w ∈ zTB, w.before args s = true) ∧ meth.locks = false ∧ (∀ q, s.heap.size ≤ q → A q) ∧ zG D tc A s s.heap ∧ meth.name = nm ∧ (∀ x ∈ c.exceptionTable.toList, False)
theorem zC_of {l : Launch} {y : MethodName} {cc : ByteArray} {nL : Nat} {rt : Option FieldType} {rm : Room} {D : va_G} {tc : Nat → ClassId} {A : Nat → Prop} {p : Program} {e : Env} {s s₁ : State} {m : MethodId} {args : Array Value} {below : List Frame} {meth : Method} {c : Code}
    (B : BodyLoose p l y (headSpec (.code y cc nL rt :: zTB) rm) cc nL rt e s m args below meth c s₁) (hml : c.maxLocals = nL) (ht : ∀ x ∈ c.exceptionTable.toList, False) (hA : ∀ q, s.heap.size ≤ q → A q) (hG : zG D tc A s s.heap) : zC y.cls cc nL rt y.name D tc A p l s m args meth c :=
  ⟨B.exec, B.bytes, hml, B.returns, findClass_of_methodNamed B.named, fun w hw => atoms_spec (ws := .code y cc nL rt :: zTB) B.pre w (List.mem_cons_of_mem _ hw), B.notSynchronized, hA, hG, (name_of_methodNamed B.named B.method).1, ht⟩
theorem zC_ex {l : Launch} {y : MethodName} {cc : ByteArray} {nL : Nat} {rt : Option FieldType} {rm : Room} {p : Program} {e : Env} {s s₁ : State} {m : MethodId} {args : Array Value} {below : List Frame} {meth : Method} {c : Code}
    (B : BodyLoose p l y (headSpec (.code y cc nL rt :: zTB) rm) cc nL rt e s m args below meth c s₁) : ∀ x ∈ c.exceptionTable.toList, False := by
  have h := B.noHandlers (atoms_spec (ws := .code y cc nL rt :: zTB) B.pre _ List.mem_cons_self)
  intro x hx
  rw [Array.isEmpty_iff.mp h] at hx
  cases hx
section ZO
variable {p : Program} {l : Launch} {e : Env} {R : Room} {s : State} {m : MethodId} {args : Array Value} {below : List Frame} {meth : Method} {c : Code} {H : Heap} {locs : List Loc} {cells slots : Nat}
variable {cc : ByteArray} {pc : Nat} {ls : Array Slot} {rest : List Value} {D : va_G} {tc : Nat → ClassId} {A : Nat → Prop} {M : zM} {mcT msT : Nat} {Qc : Array Value → State → Outcome → State → Prop} {px : String → zM → Prop}
/-- a callee's exception leaves this method too -/
theorem z_out {E : String} {ce : Cell} {q9 : Addr} {u : String × zM} {t : State} (hex : ∀ x ∈ c.exceptionTable.toList, covers x pc = false) (hlk : meth.locks = false) (hce : H[q9]? = some ce) (hcv : ce.vm = .none) (hcl : s.vm.findClass E = some ce.cls) (ht : t.heap = H) (hB : u.1 = E ∧ zP D vwCl tc A u.2 t.heap) (hS : va_S A s.heap H locs) (hw : px u.1 u.2) (hc : cells ≤ mcT) (hs : slots ≤ msT) :
    vx_W p l e R s m args below meth c H locs cells slots (vx_MQ below Qc (zX D tc A px) args s mcT msT A) (F0 m pc ls rest) q9 :=
  vx_out hex hlk hce hcv hcl (fun t' ht' _ => ⟨u, hw, ⟨hB.1, by rw [ht', ← ht]; exact hB.2⟩, hS.F ht'⟩) hS.2.2 hc hs
abbrev zEx : List String := ["java/lang/RuntimeException", "java/lang/Exception"]
theorem z_throwS (hexec : p.tables.exec = Jvm.exec) (hb : c.code = cc) (hst : l.stackTraces = false) {own cls text : String} {ik is ic k : Nat} (hown : s.vm.findClass own = some m.cls) (hcls : Bundle.fit cls = true) (hk : (Cond.classLink own ik cls).before args s = true) (hini : (Cond.initialized cls).before args s = true) (hstr : zstr[k]? = some (own, is, text))
    (hat : ∀ w ∈ vx_atS own ic cls zEx, w.before args s = true) (hgood : ∀ w ∈ Cond.classLink own ik cls :: Cond.initialized cls :: vx_atS own ic cls zEx, vx_ot w = true) (hG : zG D tc A s s.heap) (hS : va_S A s.heap H locs) (hM : zP D vwCl tc A M H) (hsize : ls.size = c.maxLocals)
    (d0 : decode cc pc = .ok (.new ik, 3)) (d3 : decode cc (pc + 3) = .ok (.dup, 1)) (d4 : decode cc (pc + 4) = .ok (.ldc is, 2)) (d6 : decode cc (pc + 6) = .ok (.invokespecial ic, 3)) (d9 : decode cc (pc + 9) = .ok (.athrow, 1))
    (hout : ∀ x ∈ c.exceptionTable.toList, covers x (pc + 9) = false) (hRf : 5 < R.frames) (hRl : (rest.map fun v => v.category).sum + 82 ≤ R.locals) (hRc : cells + 1 ≤ R.cells) (hRs : slots + 6 ≤ R.slots) (hlk : meth.locks = false) (hw : px cls M) (hc : cells + 1 ≤ mcT) (hs : slots + 6 ≤ msT) :
    W p l e R s m args below meth c H locs cells slots (vx_MQ below Qc (zX D tc A px) args s mcT msT A) (F0 m pc ls rest) :=
  vx_throwS hexec hb hst hown hcls (by decide +kernel) hk hini (hG.2.2.2.2.1 k _ hstr) hat hgood hG.2.2.1 hG.2.2.2.1 hS hsize d0 d3 d4 d6 d9 hout hRf hRl hRc hRs hlk
    (fun t _ hz hq => ⟨(cls, M), hw, ⟨rfl, z_kept hM hq⟩, Nat.le_trans hS.1 hz, fun q h1 h2 => by rw [hq q (Nat.lt_of_lt_of_le h1 hS.1)]; exact hS.2.1 q h1 h2⟩) hS.2.2 hc hs
theorem z_throwSW (hexec : p.tables.exec = Jvm.exec) (hb : c.code = cc) (hst : l.stackTraces = false) {own cls text : String} {ik is ic k : Nat} (hown : s.vm.findClass own = some m.cls) (hcls : Bundle.fit cls = true) (hk : (Cond.classLink own ik cls).before args s = true) (hini : (Cond.initialized cls).before args s = true) (hstr : zstr[k]? = some (own, is, text))
    (hat : ∀ w ∈ vx_atS own ic cls zEx, w.before args s = true) (hgood : ∀ w ∈ Cond.classLink own ik cls :: Cond.initialized cls :: vx_atS own ic cls zEx, vx_ot w = true) (hG : zG D tc A s s.heap) (hS : va_S A s.heap H locs) (hM : zP D vwCl tc A M H) (hsize : ls.size = c.maxLocals)
    (d0 : decode cc pc = .ok (.new ik, 3)) (d3 : decode cc (pc + 3) = .ok (.dup, 1)) (d4 : decode cc (pc + 4) = .ok (.ldc_w is, 3)) (d7 : decode cc (pc + 7) = .ok (.invokespecial ic, 3)) (d10 : decode cc (pc + 10) = .ok (.athrow, 1))
    (hout : ∀ x ∈ c.exceptionTable.toList, covers x (pc + 10) = false) (hRf : 5 < R.frames) (hRl : (rest.map fun v => v.category).sum + 82 ≤ R.locals) (hRc : cells + 1 ≤ R.cells) (hRs : slots + 6 ≤ R.slots) (hlk : meth.locks = false) (hw : px cls M) (hc : cells + 1 ≤ mcT) (hs : slots + 6 ≤ msT) :
    W p l e R s m args below meth c H locs cells slots (vx_MQ below Qc (zX D tc A px) args s mcT msT A) (F0 m pc ls rest) :=
  vx_throwSW hexec hb hst hown hcls (by decide +kernel) hk hini (hG.2.2.2.2.1 k _ hstr) hat hgood hG.2.2.1 hG.2.2.2.1 hS hsize d0 d3 d4 d7 d10 hout hRf hRl hRc hRs hlk
    (fun t _ hz hq => ⟨(cls, M), hw, ⟨rfl, z_kept hM hq⟩, Nat.le_trans hS.1 hz, fun q h1 h2 => by rw [hq q (Nat.lt_of_lt_of_le h1 hS.1)]; exact hS.2.1 q h1 h2⟩) hS.2.2 hc hs
end ZO
/-- the words of a throw's list, out of the tables -/
theorem z_hat {args : Array Value} {s : State} {L : List Cond} (hL : L.all (fun w => decide (w ∈ lw_tbl) && (goodWord w || zNs w)) = true) (htb : ∀ w ∈ zTB, w.before args s = true) (hN : ∀ w ∈ zNW, va_Nw w s) : ∀ w ∈ L, w.before args s = true := by
  intro w hw
  have h := List.all_eq_true.mp hL w hw
  simp only [Bool.and_eq_true, Bool.or_eq_true, decide_eq_true_eq] at h
  rcases h.2 with h2 | h2
  · exact htb w (List.mem_filter.mpr ⟨h.1, h2⟩)
  · exact va_Nw.use (zNs_tab h2) (hN w (List.mem_filter.mpr ⟨h.1, h2⟩))
/-! The words that a weakest precondition is made of. -/
def wGI (M : zM) (a ci k : Nat) (K : Int32 → Prop) : Prop := ∃ (fs : List Value) (v : Int32), M a = some (.inr (ci, fs)) ∧ fs[k]? = some (.int v) ∧ K v
def wGR (M : zM) (a ci k : Nat) (K : Nat → Prop) : Prop := ∃ (fs : List Value) (v : Nat), M a = some (.inr (ci, fs)) ∧ fs[k]? = some (.ref v) ∧ K v
def wPF (M : zM) (a ci k : Nat) (v : Value) (K : zM → Prop) : Prop := ∃ fs : List Value, M a = some (.inr (ci, fs)) ∧ k < fs.length ∧ K (va_up M a (some (.inr (ci, fs.set k v))))
def wAL (M : zM) (a k0 : Nat) (K : Int32 → Prop) : Prop := ∃ (x : vp_A) (v : Int32), M a = some (.inl (k0, x)) ∧ nI x.1 = v ∧ K v
def wLI (M : zM) (a k0 : Nat) (i : Int32) (K : Int32 → Prop) : Prop := ∃ (n : Nat) (f : Nat → Int32) (v : Int32), M a = some (.inl (k0, n, .inl f)) ∧ vp_in i n ∧ f i.toNatClampNeg = v ∧ K v
def wLJ (M : zM) (a k0 : Nat) (i : Int32) (K : Int64 → Prop) : Prop := ∃ (n : Nat) (f : Nat → Int64) (v : Int64), M a = some (.inl (k0, n, .inr (.inl f))) ∧ vp_in i n ∧ f i.toNatClampNeg = v ∧ K v
def wLQ (M : zM) (a k0 : Nat) (i : Int32) (K : Option Nat → Prop) : Prop := ∃ (n : Nat) (f : Nat → Option Nat) (v : Option Nat), M a = some (.inl (k0, n, .inr (.inr (.inr (.inr f))))) ∧ vp_in i n ∧ f i.toNatClampNeg = v ∧ K v
def wSI (M : zM) (a k0 : Nat) (i x : Int32) (K : zM → Prop) : Prop := ∃ (n : Nat) (f : Nat → Int32), M a = some (.inl (k0, n, .inl f)) ∧ vp_in i n ∧ K (va_up M a (some (.inl (k0, n, .inl (upd f i.toNatClampNeg x)))))
def wSZ (M : zM) (a k0 : Nat) (i x : Int32) (K : zM → Prop) : Prop := ∃ (n : Nat) (f : Nat → Int32), M a = some (.inl (k0, n, .inl f)) ∧ vp_in i n ∧ K (va_up M a (some (.inl (k0, n, .inl (upd f i.toNatClampNeg (vp_nar .boolean x))))))
def wSJ (M : zM) (a k0 : Nat) (i : Int32) (x : Int64) (K : zM → Prop) : Prop := ∃ (n : Nat) (f : Nat → Int64), M a = some (.inl (k0, n, .inr (.inl f))) ∧ vp_in i n ∧ K (va_up M a (some (.inl (k0, n, .inr (.inl (vp_updL f i.toNatClampNeg x))))))
def wNO (M : zM) (ci : Nat) (fs : List Value) (N mc ms : Nat) (K : Nat → zM → Prop) : Prop := 1 ≤ mc ∧ N ≤ ms ∧ ∀ q, M q = none → K q (va_up M q (some (.inr (ci, fs))))
def wNA (M : zM) (k0 : Nat) (n : Int32) (N by9 mc ms : Nat) (K : Nat → zM → Prop) : Prop := ¬ n < 0 ∧ N * by9 ≤ 536870912 ∧ 1 ≤ mc ∧ N ≤ ms ∧ n.toNatClampNeg = N ∧ ∀ q, M q = none → K q (va_up M q (some (.inl (k0, N, .inl (fun _ => 0)))))
def wNJ (M : zM) (k0 : Nat) (n : Int32) (N by9 mc ms : Nat) (K : Nat → zM → Prop) : Prop := ¬ n < 0 ∧ N * by9 ≤ 536870912 ∧ 1 ≤ mc ∧ N ≤ ms ∧ n.toNatClampNeg = N ∧ ∀ q, M q = none → K q (va_up M q (some (.inl (k0, N, .inr (.inl (fun _ => 0))))))
def wIs (M : zM) (a ci : Nat) : Prop := ∃ fs : List Value, M a = some (.inr (ci, fs))
def wSm (r : Option Nat) (K : Nat → Prop) : Prop := ∃ a : Nat, r = some a ∧ K a
def wSC (L : Nat) (xs : Nat → Int32) (i : Int32) (K : Int32 → Prop) : Prop := ∃ v : Int32, vp_in i L ∧ xs i.toNatClampNeg = v ∧ K v
def wSL (L : Nat) (K : Int32 → Prop) : Prop := ∃ v : Int32, nI L = v ∧ K v
def wAE (M : zM) (e0 a : Nat) (K : Int32 → Prop) : Prop := ∃ v : Int32, ((a = e0 ∧ v = 0) ∨ ∃ x : vp_A, M a = some (.inl (2, x)) ∧ nI x.1 = v) ∧ K v
def wNQ (M : zM) (n : Int32) (mc ms : Nat) (K : Nat → zM → Prop) : Prop := ¬ n < 0 ∧ n.toNatClampNeg * 4 ≤ 536870912 ∧ 1 ≤ mc ∧ n.toNatClampNeg ≤ ms ∧ ∀ q, M q = none → K q (va_up M q (some (.inl (2, n.toNatClampNeg, .inr (.inr (.inr (.inr (fun _ => none))))))))
def wSQ (M : zM) (a : Nat) (i : Int32) (v : Nat) (K : zM → Prop) : Prop := ∃ (n : Nat) (f : Nat → Option Nat) (ci : Nat) (fs : List Value), M a = some (.inl (2, n, .inr (.inr (.inr (.inr f))))) ∧ vp_in i n ∧ M v = some (.inr (ci, fs)) ∧ (1 ≤ ci ∧ ci ≤ 3) ∧ K (va_up M a (some (.inl (2, n, .inr (.inr (.inr (.inr (va_up f i.toNatClampNeg (some v)))))))))
section ZY
variable {p : Program} {l : Launch} {e : Env} {R : Room} {s : State} {m : MethodId} {args : Array Value} {below : List Frame} {meth : Method} {c : Code} {H : Heap} {locs : List Loc} {cells slots : Nat} {Q : State → Prop}
variable {cc : ByteArray} {pc : Nat} {ls : Array Slot} {rest : List Value} {D : va_G} {tc : Nat → ClassId} {A : Nat → Prop} {a : Nat} {M : zM}
theorem z_alenE (hexec : p.tables.exec = Jvm.exec) (hb : c.code = cc) (hK : va_K D vwCl (zty tc) s) (hM : zP D vwCl tc A M H) (hG : zG D tc A s s.heap) (hS : va_S A s.heap H locs) {v : Int32} (hv : (a = tc 9 ∧ v = 0) ∨ ∃ x : vp_A, M a = some (.inl (2, x)) ∧ nI x.1 = v) (hdg : decode cc pc = .ok (.arraylength, 1))
    (kk : W p l e R s m args below meth c H locs cells slots Q (F0 m (pc + 1) ls (.int v :: rest))) : W p l e R s m args below meth c H locs cells slots Q (F0 m pc ls (.ref a :: rest)) := by
  rcases hv with ⟨rfl, rfl⟩ | ⟨x, hx, hv⟩
  · obtain ⟨cell, q1, q2, q3, q4, q5, q6, q7⟩ := hG.2.2.2.2.2.2.1
    exact W.alen (n := 0) hexec hb (by rw [hS.2.1 _ (Array.getElem?_eq_some_iff.mp q1).1 q7]; exact q1) q2 q5 rfl rfl hdg kk
  · exact z_alen hexec hb hK hM 2 2 hx rfl hv hdg kk
theorem z_newq (hexec : p.tables.exec = Jvm.exec) (hb : c.code = cc) {own : String} {index : Nat} (hown : s.vm.findClass own = some m.cls) (hcl : (Cond.classLink own index "java/lang/Object").before args s = true) (hG : zG D tc A s s.heap) (hK : va_K D vwCl (zty tc) s) (hM : zP D vwCl tc A M H) (hS : va_S A s.heap H locs) (hA : ∀ q, s.heap.size ≤ q → A q)
    {n : Int32} (hn : ¬ n < 0) (hbytes : n.toNatClampNeg * 4 ≤ 536870912) (hcells : cells + 1 ≤ R.cells) (hslots : slots + n.toNatClampNeg ≤ R.slots) (hdg : decode cc pc = .ok (.anewarray index, 3))
    (kk : ∀ (q : Nat) (H1 : Heap), M q = none → zP D vwCl tc A (va_up M q (some (.inl (2, n.toNatClampNeg, .inr (.inr (.inr (.inr (fun _ => none)))))))) H1 → va_S A s.heap H1 locs → W p l e R s m args below meth c H1 locs (cells + 1) (slots + n.toNatClampNeg) Q (F0 m (pc + 3) ls (.ref q :: rest))) : W p l e R s m args below meth c H locs cells slots Q (F0 m pc ls (.int n :: rest)) := by
  obtain ⟨ws, hP, hD, hz⟩ := z_new hM
  refine va_newq hexec hb hown hcl hG.2.2.2.2.2.2.2.2 hK hP hD hS hA hn rfl hbytes hcells hslots hdg (fun q cA H1 hK1 hP1 hD1 hS1 => ?_)
  obtain ⟨kA, comp, -, -, -, h4⟩ := (hK1.2 4 _ rfl).2
  obtain ⟨kA', comp', -, -, -, h4'⟩ := (hK.2 2 _ rfl).2
  have e1 : cA = tc 2 := Option.some.inj (h4.symm.trans h4')
  subst e1
  obtain ⟨h1, h2⟩ := hz q (.inl (2, n.toNatClampNeg, .inr (.inr (.inr (.inr (fun _ => none)))))) H1 hP1 hD1
  exact kk q H1 h1 h2 hS1
theorem z_astq (hexec : p.tables.exec = Jvm.exec) (hb : c.code = cc) (hK : va_K D vwCl (zty tc) s) (hG : zG D tc A s s.heap) (hM : zP D vwCl tc A M H) (hS : va_S A s.heap H locs) {n v ci : Nat} {f : Nat → Option Nat} {fs : List Value} (ha : M a = some (.inl (2, n, .inr (.inr (.inr (.inr f)))))) {i : Int32} (hin : vp_in i n) (hv : M v = some (.inr (ci, fs))) (hci : 1 ≤ ci ∧ ci ≤ 3) (hdg : decode cc pc = .ok (.aastore, 1))
    (kk : ∀ (H1 : Heap) (locs1 : List Loc), zP D vwCl tc A (va_up M a (some (.inl (2, n, .inr (.inr (.inr (.inr (va_up f i.toNatClampNeg (some v))))))))) H1 → va_S A s.heap H1 locs1 → W p l e R s m args below meth c H1 locs1 cells slots Q (F0 m (pc + 1) ls rest)) : W p l e R s m args below meth c H locs cells slots Q (F0 m pc ls (.ref v :: .int i :: .ref a :: rest)) := by
  obtain ⟨ws, q0, hP, hD, hq, hin2, hz⟩ := z_open hM ha
  obtain ⟨qk, hqk⟩ := hin2 v _ hv
  rcases (show ci = 1 ∨ ci = 2 ∨ ci = 3 by omega) with rfl | rfl | rfl
  · exact va_astqO hexec hb hK hP hD hS q0 2 qk 1 hq rfl (hG.2.1 _ t_castL) hqk rfl hin hdg (fun H1 locs1 hP1 hD1 hS1 => kk H1 locs1 (hz (.inl (2, n, .inr (.inr (.inr (.inr (va_up f i.toNatClampNeg (some v))))))) H1 hP1 hD1) hS1)
  · exact va_astqO hexec hb hK hP hD hS q0 2 qk 2 hq rfl (hG.2.1 _ t_castG) hqk rfl hin hdg (fun H1 locs1 hP1 hD1 hS1 => kk H1 locs1 (hz (.inl (2, n, .inr (.inr (.inr (.inr (va_up f i.toNatClampNeg (some v))))))) H1 hP1 hD1) hS1)
  · exact va_astqO hexec hb hK hP hD hS q0 2 qk 3 hq rfl (hG.2.1 _ t_castP) hqk rfl hin hdg (fun H1 locs1 hP1 hD1 hS1 => kk H1 locs1 (hz (.inl (2, n, .inr (.inr (.inr (.inr (va_up f i.toNatClampNeg (some v))))))) H1 hP1 hD1) hS1)
theorem z_any (hK : va_K D vwCl (zty tc) s) (hG : zG D tc A s s.heap) (hM : zP D vwCl tc A M H) {y ci : Nat} {fs : List Value} (hy : M y = some (.inr (ci, fs))) (hci : 1 ≤ ci ∧ ci ≤ 3) : va_Any "java/lang/Object" s H y := by
  obtain ⟨ws, k, hP, -, hk, -⟩ := z_open hM hy
  rcases (show ci = 1 ∨ ci = 2 ∨ ci = 3 by omega) with rfl | rfl | rfl
  · exact va_rAny hK hP hk rfl (fun comp c0 h1 h2 => vb_asgC (hG.2.1 _ t_castL) comp c0 h1 h2)
  · exact va_rAny hK hP hk rfl (fun comp c0 h1 h2 => vb_asgC (hG.2.1 _ t_castG) comp c0 h1 h2)
  · exact va_rAny hK hP hk rfl (fun comp c0 h1 h2 => vb_asgC (hG.2.1 _ t_castP) comp c0 h1 h2)
theorem z_getC (hexec : p.tables.exec = Jvm.exec) (hb : c.code = cc) (hml : c.maxLocals = ls.size) {own : String} {index : Nat} (hown : s.vm.findClass own = some m.cls) (htb : ∀ w ∈ zTB, w.before args s = true) (hlink : (Cond.methodLink own index ⟨"java/lang/Object", "getClass", "()Ljava/lang/Class;"⟩).before args s = true) (hK : va_K D vwCl (zty tc) s) (hG : zG D tc A s s.heap) (hM : zP D vwCl tc A M H) {x : vp_A} (ha : M a = some (.inl (2, x))) (hframes : 1 ≤ R.frames) (hlocals : (rest.map fun v => v.category).sum + 14 ≤ R.locals) (hdg : decode cc pc = .ok (.invokevirtual index, 3))
    (k : W p l e R s m args below meth c H locs cells slots Q (F0 m (pc + 3) ls (.ref (tc 8) :: rest))) : W p l e R s m args below meth c H locs cells slots Q (F0 m pc ls (.ref a :: rest)) := by
  refine va_getC hexec hb hml (C := "[Ljava/lang/Object;") hown hlink (va_Nw.use rfl (hG.2.1 _ t_gcD)) (htb _ t_gcS) (htb _ t_gcI) (htb _ t_gcN) hG.2.2.2.2.2.2.2.1 ?_ hframes hlocals hdg k
  obtain ⟨ws, q0, hP, -, hq, -⟩ := z_open hM ha
  have h1 : H[a]? = some (vp_cell (tc 2) x) := hP q0 _ hq
  refine ⟨_, h1, ?_, ?_⟩
  · obtain ⟨n, f | f | f | f | f⟩ := x <;> rfl
  · have h9 : s.vm.findClass "[Ljava/lang/Object;" = some (tc 2) := va_nmO (hK.2 2 _ rfl).2 (by decide +kernel)
    refine h9.trans ?_
    obtain ⟨n, f | f | f | f | f⟩ := x <;> rfl
theorem z_copy (hexec : p.tables.exec = Jvm.exec) (hb : c.code = cc) (hml : c.maxLocals = ls.size) {own : String} {index : Nat} (hown : s.vm.findClass own = some m.cls) (hlink : (Cond.methodLink own index arraycopyName).before args s = true) (hnat : (Cond.native arraycopyName).before args s = true) (hstat : (Cond.static arraycopyName).before args s = true) (hini : (Cond.initialized "java/lang/System").before args s = true)
    (hK : va_K D vwCl (zty tc) s) (hG : zG D tc A s s.heap) (hM : zP D vwCl tc A M H) (hS : va_S A s.heap H locs) {a0 n0 n1 : Nat} {f g : Nat → Option Nat} (ha0 : M a0 = some (.inl (2, n0, .inr (.inr (.inr (.inr f)))))) (ha1 : M a = some (.inl (2, n1, .inr (.inr (.inr (.inr g)))))) {sp dp n : Int32} (h1 : ¬ sp < 0) (h2 : ¬ dp < 0) (h3 : ¬ n < 0) (h4 : sp.toNatClampNeg + n.toNatClampNeg ≤ n0) (h5 : dp.toNatClampNeg + n.toNatClampNeg ≤ n1) (hel : ∀ i : Nat, i < n.toNatClampNeg → ∀ y : Nat, f (sp.toNatClampNeg + i) = some y → ∃ (ci : Nat) (fs : List Value), M y = some (.inr (ci, fs)) ∧ 1 ≤ ci ∧ ci ≤ 3)
    (hframes : 1 ≤ R.frames) (hlocals : (rest.map fun v => v.category).sum + (nativeFrameWords "java/lang/System" "arraycopy" 5 + 11) ≤ R.locals) (hdg : decode cc pc = .ok (.invokestatic index, 3))
    (kk : ∀ (H1 : Heap) (locs1 : List Loc), zP D vwCl tc A (va_up M a (some (.inl (2, n1, .inr (.inr (.inr (.inr (va_cpy f g sp.toNatClampNeg dp.toNatClampNeg n.toNatClampNeg)))))))) H1 → va_S A s.heap H1 locs1 → W p l e R s m args below meth c H1 locs1 cells slots Q (F0 m (pc + 3) ls rest)) : W p l e R s m args below meth c H locs cells slots Q (F0 m pc ls (.int n :: .int dp :: .ref a :: .int sp :: .ref a0 :: rest)) := by
  obtain ⟨ws, q1, hP, hD, hq, hin2, hz⟩ := z_open hM ha1
  obtain ⟨q0, hq0⟩ := hin2 a0 _ ha0
  exact va_copyM hexec hb hml hown hlink hnat hstat hini hK hP hD hS q0 q1 2 2 hq0 hq rfl rfl h1 h2 h3 h4 h5 (fun i hi y hy => by obtain ⟨ci, fs, e1, e2⟩ := hel i hi y hy; exact z_any hK hG hM e1 e2) hframes hlocals hdg (fun H1 locs1 hP1 hD1 hS1 => kk H1 locs1 (hz (.inl (2, n1, .inr (.inr (.inr (.inr (va_cpy f g sp.toNatClampNeg dp.toNatClampNeg n.toNatClampNeg)))))) H1 hP1 hD1) hS1)
end ZY
def wIA (M : zM) (a : Nat) : Prop := ∃ x : vp_A, M a = some (.inl (2, x))
def wCP (M : zM) (a0 : Nat) (sp : Int32) (a : Nat) (dp n : Int32) (K : zM → Prop) : Prop := ∃ (n0 n1 : Nat) (f g : Nat → Option Nat), M a0 = some (.inl (2, n0, .inr (.inr (.inr (.inr f))))) ∧ M a = some (.inl (2, n1, .inr (.inr (.inr (.inr g))))) ∧ ¬ sp < 0 ∧ ¬ dp < 0 ∧ ¬ n < 0 ∧ sp.toNatClampNeg + n.toNatClampNeg ≤ n0 ∧ dp.toNatClampNeg + n.toNatClampNeg ≤ n1 ∧ (∀ i : Nat, i < n.toNatClampNeg → ∀ y : Nat, f (sp.toNatClampNeg + i) = some y → ∃ (ci : Nat) (fs : List Value), M y = some (.inr (ci, fs)) ∧ 1 ≤ ci ∧ ci ≤ 3) ∧ K (va_up M a (some (.inl (2, n1, .inr (.inr (.inr (.inr (va_cpy f g sp.toNatClampNeg dp.toNatClampNeg n.toNatClampNeg))))))))
