def R_law : String := "AlertRowsLaw"
def lw_P (b : Addr) (xs : List Int32) (args : Array Value) (s : State) : Prop := args = #[.ref b] ∧ s.IntsAt b xs ∧ xs.length ≤ 2048 ∧ (Jvm.Cond.and given_1 narrow_1).before args s = true
def lw_Q (_ : Array Value) (s : State) (o : Outcome) (t : State) : Prop := o = .returned (some (.int 1)) ∧ Framed s o t [] 601024 7293034
def lw_Z (below : List Frame) (a : Array Value) (s : State) : State → Prop := fun t => ∃ o, t.status = .running ∧ Ended t below o ∧ lw_Q a s o t
/-- the law's own end, with 1 on the stack, nothing written that was there before, its room as the claim has it -/
theorem lw_ret {p : Program} {l : Launch} {e : Env} {s : State} {m : MethodId} {below : List Frame} {meth : Method} {c : Code} {b : Nat} (hx : p.tables.exec = Jvm.exec) (hb : c.code = code) (hr : meth.sig.returnType = ret) (hlocks : meth.locks = false) {pc : Nat} {H : Heap} {ls : Array Slot} (hdg : decode code pc = .ok (.ireturn, 1)) : W p l e room_1 s m #[Value.ref b] below meth c H [] 601024 7293034 (lw_Z below #[Value.ref b] s) (F0 m pc ls [.int 1]) := by
  intro T hT X
  obtain ⟨fs, hret, hrun, hended, hW, hframe⟩ := X.leave (v := some (.int 1)) (hlocks := hlocks) (fun h => by rw [hr] at h; cases h)
  have hmeth' : T.vm.method? m = some meth := X.method'
  refine ⟨T.setFrames fs, ?_, .returned (some (.int 1)), hrun, hended, rfl, ⟨_, rfl⟩, hW, hframe⟩
  jvm_step X.here [X.here.top, hx, hb, hdg, hmeth', hr, ret, narrow_b1]
  (try refine ⟨rfl, ?_⟩); (try refine ⟨rfl, ?_⟩)
  first | (intro acts; rw [hret _ acts rfl rfl rfl]) | rw [hret _ _ rfl rfl rfl]
  exact Steps.refl _
/-- what holds at the law's entry: the machine, the code, the tables' words (any of lw_tbl by 'hts w (by decide +kernel)'), the script of L ints xs at the cell b, what the Statement gives of the start (any of its parts by flat_of_before) -/
def lw_At (p : Program) (s : State) (m : MethodId) (meth : Method) (c : Code) (b L : Nat) (xs : Nat → Int32) : Prop :=
  p.tables.exec = Jvm.exec ∧ c.code = code ∧ meth.sig.returnType = ret ∧ c.maxLocals = 7 ∧ s.vm.findClass R_law = some m.cls ∧ (∀ w ∈ lw_tbl, w.before #[Value.ref b] s = true) ∧ va_X b L xs s s.heap ∧ b < s.heap.size ∧ meth.locks = false ∧ (Jvm.Cond.and given_1 narrow_1).before #[Value.ref b] s = true
/-- what the law's walk has from its entry on -/
def zL (D : va_G) (tc : Nat → ClassId) (A : Nat → Prop) (p : Program) (s : State) (m : MethodId) (meth : Method) (c : Code) (b L : Nat) (xs : Nat → Int32) : Prop :=
  p.tables.exec = Jvm.exec ∧ c.code = code ∧ c.maxLocals = 7 ∧ meth.sig.returnType = ret ∧ s.vm.findClass R_W = some m.cls ∧ (∀ w ∈ zTB, w.before #[Value.ref b] s = true) ∧ meth.locks = false ∧ (∀ q, s.heap.size ≤ q → A q) ∧ zG D tc A s s.heap ∧ (∀ q ∈ zNC, va_Nc q.1 q.2 s) ∧ va_X b L xs s s.heap ∧ b < s.heap.size ∧ ¬ A b ∧ ∀ q, A q → s.heap.size ≤ q
theorem z_empty {D : va_G} {cl : List vw_C} {tc : Nat → ClassId} {A : Nat → Prop} {H : Heap} : zP D cl tc A (fun _ => none) H :=
  ⟨[], fun a => ⟨fun h => (List.not_mem_nil h).elim, fun ⟨_, h⟩ => nomatch h⟩, fun k q h => by simp [va_pl] at h, ⟨fun i j p q h => by simp [va_pl] at h, fun k q h => by simp [va_pl] at h⟩⟩
abbrev J_W_law_1028 (p : Program) (l : Launch) (e : Env) (s : State) (m : MethodId) (below : List Frame) (meth : Method) (c : Code) (D : va_G) (tc : Nat → ClassId) (A : Nat → Prop) (b : Nat) (K : Nat → Nat → zM → Nat → Nat → Nat → Int32 → Prop) : Prop := ∀ (mc : Nat) (ms : Nat) (M : zM) (l1 : Nat) (l2 : Nat) (l3 : Nat) (l4 : Int32) (H : Heap) (locs : List Loc) (cells slots : Nat) (ls : Array Slot), cells + mc ≤ 601024 → slots + ms ≤ 7293034 → zP D vwCl tc A M H → va_S A s.heap H locs → lv_has ls 7 [(0, .ref b), (1, .ref l1), (2, .ref l2), (3, .ref l3), (4, .int l4)] → K mc ms M l1 l2 l3 l4 → W p l e room_1 s m #[Value.ref b] below meth c H locs cells slots (lw_Z below #[Value.ref b] s) (F0 m 1028 ls [])
abbrev J_W_law_173 (p : Program) (l : Launch) (e : Env) (s : State) (m : MethodId) (below : List Frame) (meth : Method) (c : Code) (D : va_G) (tc : Nat → ClassId) (A : Nat → Prop) (b : Nat) (K : Nat → Nat → zM → Nat → Nat → Nat → Int32 → Prop) : Prop := ∀ (mc : Nat) (ms : Nat) (M : zM) (l1 : Nat) (l2 : Nat) (l3 : Nat) (l4 : Int32) (H : Heap) (locs : List Loc) (cells slots : Nat) (ls : Array Slot), cells + mc ≤ 601024 → slots + ms ≤ 7293034 → zP D vwCl tc A M H → va_S A s.heap H locs → lv_has ls 7 [(0, .ref b), (1, .ref l1), (2, .ref l2), (3, .ref l3), (4, .int l4)] → K mc ms M l1 l2 l3 l4 → W p l e room_1 s m #[Value.ref b] below meth c H locs cells slots (lw_Z below #[Value.ref b] s) (F0 m 173 ls [])
abbrev J_W_law_277 (p : Program) (l : Launch) (e : Env) (s : State) (m : MethodId) (below : List Frame) (meth : Method) (c : Code) (D : va_G) (tc : Nat → ClassId) (A : Nat → Prop) (b : Nat) (K : Nat → Nat → zM → Nat → Nat → Nat → Int32 → Prop) : Prop := ∀ (mc : Nat) (ms : Nat) (M : zM) (l1 : Nat) (l2 : Nat) (l3 : Nat) (l4 : Int32) (H : Heap) (locs : List Loc) (cells slots : Nat) (ls : Array Slot), cells + mc ≤ 601024 → slots + ms ≤ 7293034 → zP D vwCl tc A M H → va_S A s.heap H locs → lv_has ls 7 [(0, .ref b), (1, .ref l1), (2, .ref l2), (3, .ref l3), (4, .int l4)] → K mc ms M l1 l2 l3 l4 → W p l e room_1 s m #[Value.ref b] below meth c H locs cells slots (lw_Z below #[Value.ref b] s) (F0 m 277 ls [])
abbrev J_W_law_373 (p : Program) (l : Launch) (e : Env) (s : State) (m : MethodId) (below : List Frame) (meth : Method) (c : Code) (D : va_G) (tc : Nat → ClassId) (A : Nat → Prop) (b : Nat) (K : Nat → Nat → zM → Nat → Nat → Nat → Int32 → Prop) : Prop := ∀ (mc : Nat) (ms : Nat) (M : zM) (l1 : Nat) (l2 : Nat) (l3 : Nat) (l4 : Int32) (H : Heap) (locs : List Loc) (cells slots : Nat) (ls : Array Slot), cells + mc ≤ 601024 → slots + ms ≤ 7293034 → zP D vwCl tc A M H → va_S A s.heap H locs → lv_has ls 7 [(0, .ref b), (1, .ref l1), (2, .ref l2), (3, .ref l3), (4, .int l4)] → K mc ms M l1 l2 l3 l4 → W p l e room_1 s m #[Value.ref b] below meth c H locs cells slots (lw_Z below #[Value.ref b] s) (F0 m 373 ls [])
abbrev J_W_law_340 (p : Program) (l : Launch) (e : Env) (s : State) (m : MethodId) (below : List Frame) (meth : Method) (c : Code) (D : va_G) (tc : Nat → ClassId) (A : Nat → Prop) (b : Nat) (K : Nat → Nat → zM → Nat → Nat → Nat → Int32 → Int32 → Int32 → Int32 → Int32 → Nat → Prop) : Prop := ∀ (mc : Nat) (ms : Nat) (M : zM) (l1 : Nat) (l2 : Nat) (l3 : Nat) (l4 : Int32) (l5 : Int32) (s0 : Int32) (s1 : Int32) (s2 : Int32) (s3 : Nat) (H : Heap) (locs : List Loc) (cells slots : Nat) (ls : Array Slot), cells + mc ≤ 601024 → slots + ms ≤ 7293034 → zP D vwCl tc A M H → va_S A s.heap H locs → lv_has ls 7 [(0, .ref b), (1, .ref l1), (2, .ref l2), (3, .ref l3), (4, .int l4), (5, .int l5)] → K mc ms M l1 l2 l3 l4 l5 s0 s1 s2 s3 → W p l e room_1 s m #[Value.ref b] below meth c H locs cells slots (lw_Z below #[Value.ref b] s) (F0 m 340 ls [.int s0, .int s1, .int s2, .ref s3])
abbrev J_W_law_307 (p : Program) (l : Launch) (e : Env) (s : State) (m : MethodId) (below : List Frame) (meth : Method) (c : Code) (D : va_G) (tc : Nat → ClassId) (A : Nat → Prop) (b : Nat) (K : Nat → Nat → zM → Nat → Nat → Nat → Int32 → Int32 → Int32 → Int32 → Nat → Prop) : Prop := ∀ (mc : Nat) (ms : Nat) (M : zM) (l1 : Nat) (l2 : Nat) (l3 : Nat) (l4 : Int32) (s0 : Int32) (s1 : Int32) (s2 : Int32) (s3 : Nat) (H : Heap) (locs : List Loc) (cells slots : Nat) (ls : Array Slot), cells + mc ≤ 601024 → slots + ms ≤ 7293034 → zP D vwCl tc A M H → va_S A s.heap H locs → lv_has ls 7 [(0, .ref b), (1, .ref l1), (2, .ref l2), (3, .ref l3), (4, .int l4)] → K mc ms M l1 l2 l3 l4 s0 s1 s2 s3 → W p l e room_1 s m #[Value.ref b] below meth c H locs cells slots (lw_Z below #[Value.ref b] s) (F0 m 307 ls [.int s0, .int s1, .int s2, .ref s3])
abbrev J_W_law_505 (p : Program) (l : Launch) (e : Env) (s : State) (m : MethodId) (below : List Frame) (meth : Method) (c : Code) (D : va_G) (tc : Nat → ClassId) (A : Nat → Prop) (b : Nat) (K : Nat → Nat → zM → Nat → Nat → Nat → Int32 → Prop) : Prop := ∀ (mc : Nat) (ms : Nat) (M : zM) (l1 : Nat) (l2 : Nat) (l3 : Nat) (l4 : Int32) (H : Heap) (locs : List Loc) (cells slots : Nat) (ls : Array Slot), cells + mc ≤ 601024 → slots + ms ≤ 7293034 → zP D vwCl tc A M H → va_S A s.heap H locs → lv_has ls 7 [(0, .ref b), (1, .ref l1), (2, .ref l2), (3, .ref l3), (4, .int l4)] → K mc ms M l1 l2 l3 l4 → W p l e room_1 s m #[Value.ref b] below meth c H locs cells slots (lw_Z below #[Value.ref b] s) (F0 m 505 ls [])
abbrev J_W_law_472 (p : Program) (l : Launch) (e : Env) (s : State) (m : MethodId) (below : List Frame) (meth : Method) (c : Code) (D : va_G) (tc : Nat → ClassId) (A : Nat → Prop) (b : Nat) (K : Nat → Nat → zM → Nat → Nat → Nat → Int32 → Int32 → Int32 → Int32 → Nat → Prop) : Prop := ∀ (mc : Nat) (ms : Nat) (M : zM) (l1 : Nat) (l2 : Nat) (l3 : Nat) (l4 : Int32) (l5 : Int32) (s0 : Int32) (s1 : Int32) (s2 : Nat) (H : Heap) (locs : List Loc) (cells slots : Nat) (ls : Array Slot), cells + mc ≤ 601024 → slots + ms ≤ 7293034 → zP D vwCl tc A M H → va_S A s.heap H locs → lv_has ls 7 [(0, .ref b), (1, .ref l1), (2, .ref l2), (3, .ref l3), (4, .int l4), (5, .int l5)] → K mc ms M l1 l2 l3 l4 l5 s0 s1 s2 → W p l e room_1 s m #[Value.ref b] below meth c H locs cells slots (lw_Z below #[Value.ref b] s) (F0 m 472 ls [.int s0, .int s1, .ref s2])
abbrev J_W_law_445 (p : Program) (l : Launch) (e : Env) (s : State) (m : MethodId) (below : List Frame) (meth : Method) (c : Code) (D : va_G) (tc : Nat → ClassId) (A : Nat → Prop) (b : Nat) (K : Nat → Nat → zM → Nat → Nat → Nat → Int32 → Int32 → Int32 → Nat → Prop) : Prop := ∀ (mc : Nat) (ms : Nat) (M : zM) (l1 : Nat) (l2 : Nat) (l3 : Nat) (l4 : Int32) (s0 : Int32) (s1 : Int32) (s2 : Nat) (H : Heap) (locs : List Loc) (cells slots : Nat) (ls : Array Slot), cells + mc ≤ 601024 → slots + ms ≤ 7293034 → zP D vwCl tc A M H → va_S A s.heap H locs → lv_has ls 7 [(0, .ref b), (1, .ref l1), (2, .ref l2), (3, .ref l3), (4, .int l4)] → K mc ms M l1 l2 l3 l4 s0 s1 s2 → W p l e room_1 s m #[Value.ref b] below meth c H locs cells slots (lw_Z below #[Value.ref b] s) (F0 m 445 ls [.int s0, .int s1, .ref s2])
abbrev J_W_law_585 (p : Program) (l : Launch) (e : Env) (s : State) (m : MethodId) (below : List Frame) (meth : Method) (c : Code) (D : va_G) (tc : Nat → ClassId) (A : Nat → Prop) (b : Nat) (K : Nat → Nat → zM → Nat → Nat → Nat → Int32 → Prop) : Prop := ∀ (mc : Nat) (ms : Nat) (M : zM) (l1 : Nat) (l2 : Nat) (l3 : Nat) (l4 : Int32) (H : Heap) (locs : List Loc) (cells slots : Nat) (ls : Array Slot), cells + mc ≤ 601024 → slots + ms ≤ 7293034 → zP D vwCl tc A M H → va_S A s.heap H locs → lv_has ls 7 [(0, .ref b), (1, .ref l1), (2, .ref l2), (3, .ref l3), (4, .int l4)] → K mc ms M l1 l2 l3 l4 → W p l e room_1 s m #[Value.ref b] below meth c H locs cells slots (lw_Z below #[Value.ref b] s) (F0 m 585 ls [])
abbrev J_W_law_641 (p : Program) (l : Launch) (e : Env) (s : State) (m : MethodId) (below : List Frame) (meth : Method) (c : Code) (D : va_G) (tc : Nat → ClassId) (A : Nat → Prop) (b : Nat) (K : Nat → Nat → zM → Nat → Nat → Nat → Int32 → Prop) : Prop := ∀ (mc : Nat) (ms : Nat) (M : zM) (l1 : Nat) (l2 : Nat) (l3 : Nat) (l4 : Int32) (H : Heap) (locs : List Loc) (cells slots : Nat) (ls : Array Slot), cells + mc ≤ 601024 → slots + ms ≤ 7293034 → zP D vwCl tc A M H → va_S A s.heap H locs → lv_has ls 7 [(0, .ref b), (1, .ref l1), (2, .ref l2), (3, .ref l3), (4, .int l4)] → K mc ms M l1 l2 l3 l4 → W p l e room_1 s m #[Value.ref b] below meth c H locs cells slots (lw_Z below #[Value.ref b] s) (F0 m 641 ls [])
abbrev J_W_law_709 (p : Program) (l : Launch) (e : Env) (s : State) (m : MethodId) (below : List Frame) (meth : Method) (c : Code) (D : va_G) (tc : Nat → ClassId) (A : Nat → Prop) (b : Nat) (K : Nat → Nat → zM → Nat → Nat → Nat → Int32 → Prop) : Prop := ∀ (mc : Nat) (ms : Nat) (M : zM) (l1 : Nat) (l2 : Nat) (l3 : Nat) (l4 : Int32) (H : Heap) (locs : List Loc) (cells slots : Nat) (ls : Array Slot), cells + mc ≤ 601024 → slots + ms ≤ 7293034 → zP D vwCl tc A M H → va_S A s.heap H locs → lv_has ls 7 [(0, .ref b), (1, .ref l1), (2, .ref l2), (3, .ref l3), (4, .int l4)] → K mc ms M l1 l2 l3 l4 → W p l e room_1 s m #[Value.ref b] below meth c H locs cells slots (lw_Z below #[Value.ref b] s) (F0 m 709 ls [])
abbrev J_W_law_777 (p : Program) (l : Launch) (e : Env) (s : State) (m : MethodId) (below : List Frame) (meth : Method) (c : Code) (D : va_G) (tc : Nat → ClassId) (A : Nat → Prop) (b : Nat) (K : Nat → Nat → zM → Nat → Nat → Nat → Int32 → Prop) : Prop := ∀ (mc : Nat) (ms : Nat) (M : zM) (l1 : Nat) (l2 : Nat) (l3 : Nat) (l4 : Int32) (H : Heap) (locs : List Loc) (cells slots : Nat) (ls : Array Slot), cells + mc ≤ 601024 → slots + ms ≤ 7293034 → zP D vwCl tc A M H → va_S A s.heap H locs → lv_has ls 7 [(0, .ref b), (1, .ref l1), (2, .ref l2), (3, .ref l3), (4, .int l4)] → K mc ms M l1 l2 l3 l4 → W p l e room_1 s m #[Value.ref b] below meth c H locs cells slots (lw_Z below #[Value.ref b] s) (F0 m 777 ls [])
abbrev J_W_law_845 (p : Program) (l : Launch) (e : Env) (s : State) (m : MethodId) (below : List Frame) (meth : Method) (c : Code) (D : va_G) (tc : Nat → ClassId) (A : Nat → Prop) (b : Nat) (K : Nat → Nat → zM → Nat → Nat → Nat → Int32 → Prop) : Prop := ∀ (mc : Nat) (ms : Nat) (M : zM) (l1 : Nat) (l2 : Nat) (l3 : Nat) (l4 : Int32) (H : Heap) (locs : List Loc) (cells slots : Nat) (ls : Array Slot), cells + mc ≤ 601024 → slots + ms ≤ 7293034 → zP D vwCl tc A M H → va_S A s.heap H locs → lv_has ls 7 [(0, .ref b), (1, .ref l1), (2, .ref l2), (3, .ref l3), (4, .int l4)] → K mc ms M l1 l2 l3 l4 → W p l e room_1 s m #[Value.ref b] below meth c H locs cells slots (lw_Z below #[Value.ref b] s) (F0 m 845 ls [])
abbrev J_W_law_913 (p : Program) (l : Launch) (e : Env) (s : State) (m : MethodId) (below : List Frame) (meth : Method) (c : Code) (D : va_G) (tc : Nat → ClassId) (A : Nat → Prop) (b : Nat) (K : Nat → Nat → zM → Nat → Nat → Nat → Int32 → Prop) : Prop := ∀ (mc : Nat) (ms : Nat) (M : zM) (l1 : Nat) (l2 : Nat) (l3 : Nat) (l4 : Int32) (H : Heap) (locs : List Loc) (cells slots : Nat) (ls : Array Slot), cells + mc ≤ 601024 → slots + ms ≤ 7293034 → zP D vwCl tc A M H → va_S A s.heap H locs → lv_has ls 7 [(0, .ref b), (1, .ref l1), (2, .ref l2), (3, .ref l3), (4, .int l4)] → K mc ms M l1 l2 l3 l4 → W p l e room_1 s m #[Value.ref b] below meth c H locs cells slots (lw_Z below #[Value.ref b] s) (F0 m 913 ls [])
abbrev J_W_law_969 (p : Program) (l : Launch) (e : Env) (s : State) (m : MethodId) (below : List Frame) (meth : Method) (c : Code) (D : va_G) (tc : Nat → ClassId) (A : Nat → Prop) (b : Nat) (K : Nat → Nat → zM → Nat → Nat → Nat → Int32 → Prop) : Prop := ∀ (mc : Nat) (ms : Nat) (M : zM) (l1 : Nat) (l2 : Nat) (l3 : Nat) (l4 : Int32) (H : Heap) (locs : List Loc) (cells slots : Nat) (ls : Array Slot), cells + mc ≤ 601024 → slots + ms ≤ 7293034 → zP D vwCl tc A M H → va_S A s.heap H locs → lv_has ls 7 [(0, .ref b), (1, .ref l1), (2, .ref l2), (3, .ref l3), (4, .int l4)] → K mc ms M l1 l2 l3 l4 → W p l e room_1 s m #[Value.ref b] below meth c H locs cells slots (lw_Z below #[Value.ref b] s) (F0 m 969 ls [])
abbrev J_W_law_1025 (p : Program) (l : Launch) (e : Env) (s : State) (m : MethodId) (below : List Frame) (meth : Method) (c : Code) (D : va_G) (tc : Nat → ClassId) (A : Nat → Prop) (b : Nat) (K : Nat → Nat → zM → Nat → Nat → Nat → Int32 → Prop) : Prop := ∀ (mc : Nat) (ms : Nat) (M : zM) (l1 : Nat) (l2 : Nat) (l3 : Nat) (l4 : Int32) (H : Heap) (locs : List Loc) (cells slots : Nat) (ls : Array Slot), cells + mc ≤ 601024 → slots + ms ≤ 7293034 → zP D vwCl tc A M H → va_S A s.heap H locs → lv_has ls 7 [(0, .ref b), (1, .ref l1), (2, .ref l2), (3, .ref l3), (4, .int l4)] → K mc ms M l1 l2 l3 l4 → W p l e room_1 s m #[Value.ref b] below meth c H locs cells slots (lw_Z below #[Value.ref b] s) (F0 m 1025 ls [])
abbrev J_W_law_23 (p : Program) (l : Launch) (e : Env) (s : State) (m : MethodId) (below : List Frame) (meth : Method) (c : Code) (D : va_G) (tc : Nat → ClassId) (A : Nat → Prop) (b : Nat) (K : Nat → Nat → zM → Nat → Nat → Nat → Int32 → Prop) : Prop := ∀ (mc : Nat) (ms : Nat) (M : zM) (l1 : Nat) (l2 : Nat) (l3 : Nat) (l4 : Int32) (H : Heap) (locs : List Loc) (cells slots : Nat) (ls : Array Slot), cells + mc ≤ 601024 → slots + ms ≤ 7293034 → zP D vwCl tc A M H → va_S A s.heap H locs → lv_has ls 7 [(0, .ref b), (1, .ref l1), (2, .ref l2), (3, .ref l3), (4, .int l4)] → K mc ms M l1 l2 l3 l4 → W p l e room_1 s m #[Value.ref b] below meth c H locs cells slots (lw_Z below #[Value.ref b] s) (F0 m 23 ls [])
def w_W_law_j1028 (e0 L : Nat) (xs : Nat → Int32) (K23 : Nat → Nat → zM → Nat → Nat → Nat → Int32 → Prop) (mc : Nat) (ms : Nat) (M : zM) (l1 : Nat) (l2 : Nat) (l3 : Nat) (l4 : Int32) : Prop := K23 mc ms M l1 l2 l3 (l4 + 4)
set_option maxHeartbeats 4000000 in
set_option maxRecDepth 100000 in
theorem k_W_law_j1028 {p : Program} {l : Launch} {e : Env} {s : State} {m : MethodId} {below : List Frame} {meth : Method} {c : Code} {D : va_G} {tc : Nat → ClassId} {A : Nat → Prop} {b L : Nat} {xs : Nat → Int32} (C0 : zL D tc A p s m meth c b L xs) (hst : l.stackTraces = false) {K23 : Nat → Nat → zM → Nat → Nat → Nat → Int32 → Prop} (hK23 : J_W_law_23 p l e s m below meth c D tc A b K23) : J_W_law_1028 p l e s m below meth c D tc A b (w_W_law_j1028 (tc 9) L xs K23) := by
  obtain ⟨hx, hb, hml, hr, hown, htb, hlk, hA, hG, hNc, hX, hbl, hbA, hAq⟩ := id C0
  have hK := hG.1
  intro mc ms M l1 l2 l3 l4 H locs cells slots ls hbc hbs hM hS hl hw
  refine lv_iinc (v := (l4 + 4)) (lv' := [(4, .int (l4 + 4)), (0, .ref b), (1, .ref l1), (2, .ref l2), (3, .ref l3)]) hx hb dW_law_1028 hl (k := 4) rfl rfl (by decide) rfl (fun ls hl => ?_)
  refine lv_goto (tgt := 23) hx hb dW_law_1031 (by decide) ?_
  exact hK23 _ _ _ _ _ _ _ _ _ _ _ _ (show cells + mc ≤ 601024 by omega) (show slots + ms ≤ 7293034 by omega) hM hS (lv_sub hl [1, 2, 3, 4, 0] rfl) hw
def w_W_law_j173 (e0 L : Nat) (xs : Nat → Int32) (K23 : Nat → Nat → zM → Nat → Nat → Nat → Int32 → Prop) (mc : Nat) (ms : Nat) (M : zM) (l1 : Nat) (l2 : Nat) (l3 : Nat) (l4 : Int32) : Prop := w_W_law_j1028 e0 L xs K23 mc ms M l1 l2 l3 l4
set_option maxHeartbeats 4000000 in
set_option maxRecDepth 100000 in
theorem k_W_law_j173 {p : Program} {l : Launch} {e : Env} {s : State} {m : MethodId} {below : List Frame} {meth : Method} {c : Code} {D : va_G} {tc : Nat → ClassId} {A : Nat → Prop} {b L : Nat} {xs : Nat → Int32} (C0 : zL D tc A p s m meth c b L xs) (hst : l.stackTraces = false) {K23 : Nat → Nat → zM → Nat → Nat → Nat → Int32 → Prop} (hK23 : J_W_law_23 p l e s m below meth c D tc A b K23) : J_W_law_173 p l e s m below meth c D tc A b (w_W_law_j173 (tc 9) L xs K23) := by
  obtain ⟨hx, hb, hml, hr, hown, htb, hlk, hA, hG, hNc, hX, hbl, hbA, hAq⟩ := id C0
  have hK := hG.1
  intro mc ms M l1 l2 l3 l4 H locs cells slots ls hbc hbs hM hS hl hw
  refine lv_goto (tgt := 1028) hx hb dW_law_173 (by decide) ?_
  exact k_W_law_j1028 C0 hst hK23 _ _ _ _ _ _ _ _ _ _ _ _ (show cells + mc ≤ 601024 by omega) (show slots + ms ≤ 7293034 by omega) hM hS (lv_sub hl [0, 1, 2, 3, 4] rfl) hw
def w_W_law_j277 (e0 L : Nat) (xs : Nat → Int32) (K23 : Nat → Nat → zM → Nat → Nat → Nat → Int32 → Prop) (mc : Nat) (ms : Nat) (M : zM) (l1 : Nat) (l2 : Nat) (l3 : Nat) (l4 : Int32) : Prop := w_W_law_j1028 e0 L xs K23 mc ms M l1 l2 l3 l4
set_option maxHeartbeats 4000000 in
set_option maxRecDepth 100000 in
theorem k_W_law_j277 {p : Program} {l : Launch} {e : Env} {s : State} {m : MethodId} {below : List Frame} {meth : Method} {c : Code} {D : va_G} {tc : Nat → ClassId} {A : Nat → Prop} {b L : Nat} {xs : Nat → Int32} (C0 : zL D tc A p s m meth c b L xs) (hst : l.stackTraces = false) {K23 : Nat → Nat → zM → Nat → Nat → Nat → Int32 → Prop} (hK23 : J_W_law_23 p l e s m below meth c D tc A b K23) : J_W_law_277 p l e s m below meth c D tc A b (w_W_law_j277 (tc 9) L xs K23) := by
  obtain ⟨hx, hb, hml, hr, hown, htb, hlk, hA, hG, hNc, hX, hbl, hbA, hAq⟩ := id C0
  have hK := hG.1
  intro mc ms M l1 l2 l3 l4 H locs cells slots ls hbc hbs hM hS hl hw
  refine lv_goto (tgt := 1028) hx hb dW_law_277 (by decide) ?_
  exact k_W_law_j1028 C0 hst hK23 _ _ _ _ _ _ _ _ _ _ _ _ (show cells + mc ≤ 601024 by omega) (show slots + ms ≤ 7293034 by omega) hM hS (lv_sub hl [0, 1, 2, 3, 4] rfl) hw
def w_W_law_j373 (e0 L : Nat) (xs : Nat → Int32) (K23 : Nat → Nat → zM → Nat → Nat → Nat → Int32 → Prop) (mc : Nat) (ms : Nat) (M : zM) (l1 : Nat) (l2 : Nat) (l3 : Nat) (l4 : Int32) : Prop := w_W_law_j1028 e0 L xs K23 mc ms M l1 l2 l3 l4
set_option maxHeartbeats 4000000 in
set_option maxRecDepth 100000 in
theorem k_W_law_j373 {p : Program} {l : Launch} {e : Env} {s : State} {m : MethodId} {below : List Frame} {meth : Method} {c : Code} {D : va_G} {tc : Nat → ClassId} {A : Nat → Prop} {b L : Nat} {xs : Nat → Int32} (C0 : zL D tc A p s m meth c b L xs) (hst : l.stackTraces = false) {K23 : Nat → Nat → zM → Nat → Nat → Nat → Int32 → Prop} (hK23 : J_W_law_23 p l e s m below meth c D tc A b K23) : J_W_law_373 p l e s m below meth c D tc A b (w_W_law_j373 (tc 9) L xs K23) := by
  obtain ⟨hx, hb, hml, hr, hown, htb, hlk, hA, hG, hNc, hX, hbl, hbA, hAq⟩ := id C0
  have hK := hG.1
  intro mc ms M l1 l2 l3 l4 H locs cells slots ls hbc hbs hM hS hl hw
  refine lv_goto (tgt := 1028) hx hb dW_law_373 (by decide) ?_
  exact k_W_law_j1028 C0 hst hK23 _ _ _ _ _ _ _ _ _ _ _ _ (show cells + mc ≤ 601024 by omega) (show slots + ms ≤ 7293034 by omega) hM hS (lv_sub hl [0, 1, 2, 3, 4] rfl) hw
def w_W_law_j340 (e0 L : Nat) (xs : Nat → Int32) (K23 : Nat → Nat → zM → Nat → Nat → Nat → Int32 → Prop) (mc : Nat) (ms : Nat) (M : zM) (l1 : Nat) (l2 : Nat) (l3 : Nat) (l4 : Int32) (l5 : Int32) (s0 : Int32) (s1 : Int32) (s2 : Int32) (s3 : Nat) : Prop := wIs M s3 4 ∧ w_M_way e0 (fun r2 M1 => wIs M1 l2 4 ∧ w_M_thrown e0 (fun r4 M3 => ((r4 = l5) → ((l5 = 0) → wLJ M3 l3 3 0 (fun v7 => (((lg_cmp v7 (r2.toInt64)) = 0) → w_W_law_j373 e0 L xs K23 mc ms M3 l1 l2 l3 l4) ∧ (¬ ((lg_cmp v7 (r2.toInt64)) = 0) → False))) ∧ (¬ (l5 = 0) → w_W_law_j373 e0 L xs K23 mc ms M3 l1 l2 l3 l4)) ∧ (¬ (r4 = l5) → False)) M1 l2) M s3 s2 s1 s0
set_option maxHeartbeats 4000000 in
set_option maxRecDepth 100000 in
theorem k_W_law_j340 {p : Program} {l : Launch} {e : Env} {s : State} {m : MethodId} {below : List Frame} {meth : Method} {c : Code} {D : va_G} {tc : Nat → ClassId} {A : Nat → Prop} {b L : Nat} {xs : Nat → Int32} (C0 : zL D tc A p s m meth c b L xs) (hst : l.stackTraces = false) {K23 : Nat → Nat → zM → Nat → Nat → Nat → Int32 → Prop} (hK23 : J_W_law_23 p l e s m below meth c D tc A b K23) : J_W_law_340 p l e s m below meth c D tc A b (w_W_law_j340 (tc 9) L xs K23) := by
  obtain ⟨hx, hb, hml, hr, hown, htb, hlk, hA, hG, hNc, hX, hbl, hbA, hAq⟩ := id C0
  have hK := hG.1
  intro mc ms M l1 l2 l3 l4 l5 s0 s1 s2 s3 H locs cells slots ls hbc hbs hM hS hl hw
  obtain ⟨⟨fs13, h14⟩, hw⟩ := hw
  refine va_calli (va_runV (As := [.int s2, .int s1, .int s0]) (rest := []) ⟨hx, hb, hml, hown, htb⟩ (k_M_way (l := l) (D := D) (tc := tc) (A := A) hw) (cw_W_92 htb ⟨Nat.le_of_ble_eq_true rfl, Nat.le_of_ble_eq_true rfl⟩) (z_preV hG hA hS hM h14 rfl) rfl rfl hl.1 rfl (lv_room (Nat.le_of_ble_eq_true rfl)) dW_law_340 ⟨show cells + 0 ≤ 601024 by omega, show slots + 0 ≤ 7293034 by omega⟩) hS (fun _ _ h => h) (fun _ h => h) (fun r2 M1 t H locs ht hvm hw hB _ _ hS => ?_)
  have hM : zP D vwCl tc A M1 H := by rw [← ht]; exact hB
  refine lv_istore (lv' := [(6, .int r2), (0, .ref b), (1, .ref l1), (2, .ref l2), (3, .ref l3), (4, .int l4), (5, .int l5)]) hx hb dW_law_343 hl (by decide) rfl (fun ls hl => ?_)
  refine lv_aload_n hx hb dW_law_345 rfl (lv_at hl 3 rfl) ?_
  obtain ⟨⟨fs11, h12⟩, hw⟩ := hw
  refine va_calli (va_runV (As := []) (rest := []) ⟨hx, hb, hml, hown, htb⟩ (k_M_thrown (l := l) (D := D) (tc := tc) (A := A) hw) (cw_W_77 htb ⟨Nat.le_of_ble_eq_true rfl, Nat.le_of_ble_eq_true rfl⟩) (z_preV hG hA hS hM h12 rfl) rfl rfl hl.1 rfl (lv_room (Nat.le_of_ble_eq_true rfl)) dW_law_346 ⟨show cells + 0 ≤ 601024 by omega, show slots + 0 ≤ 7293034 by omega⟩) hS (fun _ _ h => h) (fun _ h => h) (fun r4 M3 t H locs ht hvm hw hB _ _ hS => ?_)
  have hM : zP D vwCl tc A M3 H := by rw [← ht]; exact hB
  refine lv_iload hx hb dW_law_349 (lv_at hl 6 rfl) ?_
  refine lv_icmp_eq (tgt := 356) hx hb dW_law_351 (by decide) (fun hq => ?_) (fun hq => ?_)
  · have hw := hw.1 hq
    refine lv_iload hx hb dW_law_356 (lv_at hl 6 rfl) ?_
    refine lv_if_ne (tgt := 373) hx hb dW_law_358 (by decide) (fun hq => ?_) (fun hq => ?_)
    · have hw := hw.2 hq
      exact k_W_law_j373 C0 hst hK23 _ _ _ _ _ _ _ _ _ _ _ _ (show cells + mc ≤ 601024 by omega) (show slots + ms ≤ 7293034 by omega) hM hS (lv_sub hl [1, 2, 3, 4, 5] rfl) hw
    · have hw := hw.1 hq
      refine lv_aload_n hx hb dW_law_361 rfl (lv_at hl 4 rfl) ?_
      refine lv_iconst (v := 0) hx hb dW_law_362 (by decide +kernel) ?_
      obtain ⟨n5, f6, v7, h8, hi9, ev10, hw⟩ := hw
      refine z_lald hx hb hK hM 3 3 h8 rfl hi9 ev10 dW_law_363 ?_
      refine lv_iload hx hb dW_law_364 (lv_at hl 0 rfl) ?_
      refine lv_i2l (v := (r2.toInt64)) hx hb dW_law_366 rfl ?_
      refine W.lcmp hx hb dW_law_367 ?_
      refine lv_if_eq (tgt := 373) hx hb dW_law_368 (by decide) (fun hq => ?_) (fun hq => ?_)
      · have hw := hw.1 hq
        exact k_W_law_j373 C0 hst hK23 _ _ _ _ _ _ _ _ _ _ _ _ (show cells + mc ≤ 601024 by omega) (show slots + ms ≤ 7293034 by omega) hM hS (lv_sub hl [1, 2, 3, 4, 5] rfl) hw
      · have hw := hw.2 hq
        refine lv_iconst (v := 0) hx hb dW_law_371 (by decide +kernel) ?_
        exact hw.elim
  · have hw := hw.2 hq
    refine lv_iconst (v := 0) hx hb dW_law_354 (by decide +kernel) ?_
    exact hw.elim
def w_W_law_j307 (e0 L : Nat) (xs : Nat → Int32) (K23 : Nat → Nat → zM → Nat → Nat → Nat → Int32 → Prop) (mc : Nat) (ms : Nat) (M : zM) (l1 : Nat) (l2 : Nat) (l3 : Nat) (l4 : Int32) (s0 : Int32) (s1 : Int32) (s2 : Int32) (s3 : Nat) : Prop := ∃ mc2 ms3 : Nat, mc2 ≤ mc ∧ ms3 ≤ ms ∧ w_W_way e0 (fun r4 M1 => wSC L xs (l4 + 1) (fun v5 => wSC L xs (l4 + 2) (fun v8 => wSC L xs (l4 + 3) (fun v11 => ((v11 = 0) → w_W_law_j340 e0 L xs K23 (mc - mc2) (ms - ms3) M1 l1 l2 l3 l4 r4 0 v8 v5 l2) ∧ (¬ (v11 = 0) → w_W_law_j340 e0 L xs K23 (mc - mc2) (ms - ms3) M1 l1 l2 l3 l4 r4 1 v8 v5 l2))))) mc2 ms3 M s3 s2 s1 s0 l3
set_option maxHeartbeats 4000000 in
set_option maxRecDepth 100000 in
theorem k_W_law_j307 {p : Program} {l : Launch} {e : Env} {s : State} {m : MethodId} {below : List Frame} {meth : Method} {c : Code} {D : va_G} {tc : Nat → ClassId} {A : Nat → Prop} {b L : Nat} {xs : Nat → Int32} (C0 : zL D tc A p s m meth c b L xs) (hst : l.stackTraces = false) {K23 : Nat → Nat → zM → Nat → Nat → Nat → Int32 → Prop} (hK23 : J_W_law_23 p l e s m below meth c D tc A b K23) : J_W_law_307 p l e s m below meth c D tc A b (w_W_law_j307 (tc 9) L xs K23) := by
  obtain ⟨hx, hb, hml, hr, hown, htb, hlk, hA, hG, hNc, hX, hbl, hbA, hAq⟩ := id C0
  have hK := hG.1
  intro mc ms M l1 l2 l3 l4 s0 s1 s2 s3 H locs cells slots ls hbc hbs hM hS hl hw
  refine lv_aload_n hx hb dW_law_307 rfl (lv_at hl 3 rfl) ?_
  obtain ⟨mc2, ms3, hbmc2, hbms3, hw⟩ := hw
  refine va_calli (vx_runSW (As := [.ref s3, .int s2, .int s1, .int s0, .ref l3]) (rest := []) ⟨hx, hb, hml, hown, htb⟩ (k_W_way (l := l) (D := D) (tc := tc) (A := A) hst hw) (cw_W_89 htb ⟨Nat.le_of_ble_eq_true rfl, Nat.le_of_ble_eq_true rfl⟩) (z_preSW hG hNc hA hS hM) rfl rfl hl.1 rfl (lv_room (Nat.le_of_ble_eq_true rfl)) dW_law_308 ⟨show cells + mc2 ≤ 601024 by omega, show slots + ms3 ≤ 7293034 by omega⟩) hS (fun _ _ h => h) (fun _ h => h) (fun r4 M1 t H locs ht hvm hw hB _ _ hS => ?_)
  have hM : zP D vwCl tc A M1 H := by rw [← ht]; exact hB
  refine lv_istore (lv' := [(5, .int r4), (0, .ref b), (1, .ref l1), (2, .ref l2), (3, .ref l3), (4, .int l4)]) hx hb dW_law_311 hl (by decide) rfl (fun ls hl => ?_)
  refine lv_aload_n hx hb dW_law_313 rfl (lv_at hl 3 rfl) ?_
  refine lv_aload_n hx hb dW_law_314 rfl (lv_at hl 1 rfl) ?_
  refine lv_iload hx hb dW_law_315 (lv_at hl 5 rfl) ?_
  refine lv_iconst (v := 1) hx hb dW_law_317 (by decide +kernel) ?_
  refine lv_iadd hx hb dW_law_318 ?_
  obtain ⟨v5, hi7, ev6, hw⟩ := hw
  refine z_sld hx hb hX hbl hbA hS hi7 ev6 dW_law_319 ?_
  refine lv_aload_n hx hb dW_law_320 rfl (lv_at hl 1 rfl) ?_
  refine lv_iload hx hb dW_law_321 (lv_at hl 5 rfl) ?_
  refine lv_iconst (v := 2) hx hb dW_law_323 (by decide +kernel) ?_
  refine lv_iadd hx hb dW_law_324 ?_
  obtain ⟨v8, hi10, ev9, hw⟩ := hw
  refine z_sld hx hb hX hbl hbA hS hi10 ev9 dW_law_325 ?_
  refine lv_aload_n hx hb dW_law_326 rfl (lv_at hl 1 rfl) ?_
  refine lv_iload hx hb dW_law_327 (lv_at hl 5 rfl) ?_
  refine lv_iconst (v := 3) hx hb dW_law_329 (by decide +kernel) ?_
  refine lv_iadd hx hb dW_law_330 ?_
  obtain ⟨v11, hi13, ev12, hw⟩ := hw
  refine z_sld hx hb hX hbl hbA hS hi13 ev12 dW_law_331 ?_
  refine lv_if_eq (tgt := 339) hx hb dW_law_332 (by decide) (fun hq => ?_) (fun hq => ?_)
  · have hw := hw.1 hq
    refine lv_iconst (v := 0) hx hb dW_law_339 (by decide +kernel) ?_
    exact k_W_law_j340 C0 hst hK23 _ _ _ _ _ _ _ _ _ _ _ _ _ _ _ _ _ (show (cells + mc2) + (mc - mc2) ≤ 601024 by omega) (show (slots + ms3) + (ms - ms3) ≤ 7293034 by omega) hM hS (lv_sub hl [1, 2, 3, 4, 5, 0] rfl) hw
  · have hw := hw.2 hq
    refine lv_iconst (v := 1) hx hb dW_law_335 (by decide +kernel) ?_
    refine lv_goto (tgt := 340) hx hb dW_law_336 (by decide) ?_
    exact k_W_law_j340 C0 hst hK23 _ _ _ _ _ _ _ _ _ _ _ _ _ _ _ _ _ (show (cells + mc2) + (mc - mc2) ≤ 601024 by omega) (show (slots + ms3) + (ms - ms3) ≤ 7293034 by omega) hM hS (lv_sub hl [1, 2, 3, 4, 5, 0] rfl) hw
def w_W_law_j505 (e0 L : Nat) (xs : Nat → Int32) (K23 : Nat → Nat → zM → Nat → Nat → Nat → Int32 → Prop) (mc : Nat) (ms : Nat) (M : zM) (l1 : Nat) (l2 : Nat) (l3 : Nat) (l4 : Int32) : Prop := w_W_law_j1028 e0 L xs K23 mc ms M l1 l2 l3 l4
set_option maxHeartbeats 4000000 in
set_option maxRecDepth 100000 in
theorem k_W_law_j505 {p : Program} {l : Launch} {e : Env} {s : State} {m : MethodId} {below : List Frame} {meth : Method} {c : Code} {D : va_G} {tc : Nat → ClassId} {A : Nat → Prop} {b L : Nat} {xs : Nat → Int32} (C0 : zL D tc A p s m meth c b L xs) (hst : l.stackTraces = false) {K23 : Nat → Nat → zM → Nat → Nat → Nat → Int32 → Prop} (hK23 : J_W_law_23 p l e s m below meth c D tc A b K23) : J_W_law_505 p l e s m below meth c D tc A b (w_W_law_j505 (tc 9) L xs K23) := by
  obtain ⟨hx, hb, hml, hr, hown, htb, hlk, hA, hG, hNc, hX, hbl, hbA, hAq⟩ := id C0
  have hK := hG.1
  intro mc ms M l1 l2 l3 l4 H locs cells slots ls hbc hbs hM hS hl hw
  refine lv_goto (tgt := 1028) hx hb dW_law_505 (by decide) ?_
  exact k_W_law_j1028 C0 hst hK23 _ _ _ _ _ _ _ _ _ _ _ _ (show cells + mc ≤ 601024 by omega) (show slots + ms ≤ 7293034 by omega) hM hS (lv_sub hl [0, 1, 2, 3, 4] rfl) hw
def w_W_law_j472 (e0 L : Nat) (xs : Nat → Int32) (K23 : Nat → Nat → zM → Nat → Nat → Nat → Int32 → Prop) (mc : Nat) (ms : Nat) (M : zM) (l1 : Nat) (l2 : Nat) (l3 : Nat) (l4 : Int32) (l5 : Int32) (s0 : Int32) (s1 : Int32) (s2 : Nat) : Prop := wIs M s2 4 ∧ w_M_alarm e0 (fun r2 M1 => wIs M1 l2 4 ∧ w_M_thrown e0 (fun r4 M3 => ((r4 = l5) → ((l5 = 0) → wLJ M3 l3 3 0 (fun v7 => (((lg_cmp v7 (r2.toInt64)) = 0) → w_W_law_j505 e0 L xs K23 mc ms M3 l1 l2 l3 l4) ∧ (¬ ((lg_cmp v7 (r2.toInt64)) = 0) → False))) ∧ (¬ (l5 = 0) → w_W_law_j505 e0 L xs K23 mc ms M3 l1 l2 l3 l4)) ∧ (¬ (r4 = l5) → False)) M1 l2) M s2 s1 s0
set_option maxHeartbeats 4000000 in
set_option maxRecDepth 100000 in
theorem k_W_law_j472 {p : Program} {l : Launch} {e : Env} {s : State} {m : MethodId} {below : List Frame} {meth : Method} {c : Code} {D : va_G} {tc : Nat → ClassId} {A : Nat → Prop} {b L : Nat} {xs : Nat → Int32} (C0 : zL D tc A p s m meth c b L xs) (hst : l.stackTraces = false) {K23 : Nat → Nat → zM → Nat → Nat → Nat → Int32 → Prop} (hK23 : J_W_law_23 p l e s m below meth c D tc A b K23) : J_W_law_472 p l e s m below meth c D tc A b (w_W_law_j472 (tc 9) L xs K23) := by
  obtain ⟨hx, hb, hml, hr, hown, htb, hlk, hA, hG, hNc, hX, hbl, hbA, hAq⟩ := id C0
  have hK := hG.1
  intro mc ms M l1 l2 l3 l4 l5 s0 s1 s2 H locs cells slots ls hbc hbs hM hS hl hw
  obtain ⟨⟨fs13, h14⟩, hw⟩ := hw
  refine va_calli (va_runV (As := [.int s1, .int s0]) (rest := []) ⟨hx, hb, hml, hown, htb⟩ (k_M_alarm (l := l) (D := D) (tc := tc) (A := A) hw) (cw_W_99 htb ⟨Nat.le_of_ble_eq_true rfl, Nat.le_of_ble_eq_true rfl⟩) (z_preV hG hA hS hM h14 rfl) rfl rfl hl.1 rfl (lv_room (Nat.le_of_ble_eq_true rfl)) dW_law_472 ⟨show cells + 0 ≤ 601024 by omega, show slots + 0 ≤ 7293034 by omega⟩) hS (fun _ _ h => h) (fun _ h => h) (fun r2 M1 t H locs ht hvm hw hB _ _ hS => ?_)
  have hM : zP D vwCl tc A M1 H := by rw [← ht]; exact hB
  refine lv_istore (lv' := [(6, .int r2), (0, .ref b), (1, .ref l1), (2, .ref l2), (3, .ref l3), (4, .int l4), (5, .int l5)]) hx hb dW_law_475 hl (by decide) rfl (fun ls hl => ?_)
  refine lv_aload_n hx hb dW_law_477 rfl (lv_at hl 3 rfl) ?_
  obtain ⟨⟨fs11, h12⟩, hw⟩ := hw
  refine va_calli (va_runV (As := []) (rest := []) ⟨hx, hb, hml, hown, htb⟩ (k_M_thrown (l := l) (D := D) (tc := tc) (A := A) hw) (cw_W_77 htb ⟨Nat.le_of_ble_eq_true rfl, Nat.le_of_ble_eq_true rfl⟩) (z_preV hG hA hS hM h12 rfl) rfl rfl hl.1 rfl (lv_room (Nat.le_of_ble_eq_true rfl)) dW_law_478 ⟨show cells + 0 ≤ 601024 by omega, show slots + 0 ≤ 7293034 by omega⟩) hS (fun _ _ h => h) (fun _ h => h) (fun r4 M3 t H locs ht hvm hw hB _ _ hS => ?_)
  have hM : zP D vwCl tc A M3 H := by rw [← ht]; exact hB
  refine lv_iload hx hb dW_law_481 (lv_at hl 6 rfl) ?_
  refine lv_icmp_eq (tgt := 488) hx hb dW_law_483 (by decide) (fun hq => ?_) (fun hq => ?_)
  · have hw := hw.1 hq
    refine lv_iload hx hb dW_law_488 (lv_at hl 6 rfl) ?_
    refine lv_if_ne (tgt := 505) hx hb dW_law_490 (by decide) (fun hq => ?_) (fun hq => ?_)
    · have hw := hw.2 hq
      exact k_W_law_j505 C0 hst hK23 _ _ _ _ _ _ _ _ _ _ _ _ (show cells + mc ≤ 601024 by omega) (show slots + ms ≤ 7293034 by omega) hM hS (lv_sub hl [1, 2, 3, 4, 5] rfl) hw
    · have hw := hw.1 hq
      refine lv_aload_n hx hb dW_law_493 rfl (lv_at hl 4 rfl) ?_
      refine lv_iconst (v := 0) hx hb dW_law_494 (by decide +kernel) ?_
      obtain ⟨n5, f6, v7, h8, hi9, ev10, hw⟩ := hw
      refine z_lald hx hb hK hM 3 3 h8 rfl hi9 ev10 dW_law_495 ?_
      refine lv_iload hx hb dW_law_496 (lv_at hl 0 rfl) ?_
      refine lv_i2l (v := (r2.toInt64)) hx hb dW_law_498 rfl ?_
      refine W.lcmp hx hb dW_law_499 ?_
      refine lv_if_eq (tgt := 505) hx hb dW_law_500 (by decide) (fun hq => ?_) (fun hq => ?_)
      · have hw := hw.1 hq
        exact k_W_law_j505 C0 hst hK23 _ _ _ _ _ _ _ _ _ _ _ _ (show cells + mc ≤ 601024 by omega) (show slots + ms ≤ 7293034 by omega) hM hS (lv_sub hl [1, 2, 3, 4, 5] rfl) hw
      · have hw := hw.2 hq
        refine lv_iconst (v := 0) hx hb dW_law_503 (by decide +kernel) ?_
        exact hw.elim
  · have hw := hw.2 hq
    refine lv_iconst (v := 0) hx hb dW_law_486 (by decide +kernel) ?_
    exact hw.elim
def w_W_law_j445 (e0 L : Nat) (xs : Nat → Int32) (K23 : Nat → Nat → zM → Nat → Nat → Nat → Int32 → Prop) (mc : Nat) (ms : Nat) (M : zM) (l1 : Nat) (l2 : Nat) (l3 : Nat) (l4 : Int32) (s0 : Int32) (s1 : Int32) (s2 : Nat) : Prop := ∃ mc2 ms3 : Nat, mc2 ≤ mc ∧ ms3 ≤ ms ∧ w_W_alarm e0 (fun r4 M1 => wSC L xs (l4 + 1) (fun v5 => wSC L xs (l4 + 2) (fun v8 => ((v8 = 0) → w_W_law_j472 e0 L xs K23 (mc - mc2) (ms - ms3) M1 l1 l2 l3 l4 r4 0 v5 l2) ∧ (¬ (v8 = 0) → w_W_law_j472 e0 L xs K23 (mc - mc2) (ms - ms3) M1 l1 l2 l3 l4 r4 1 v5 l2)))) mc2 ms3 M s2 s1 s0 l3
set_option maxHeartbeats 4000000 in
set_option maxRecDepth 100000 in
theorem k_W_law_j445 {p : Program} {l : Launch} {e : Env} {s : State} {m : MethodId} {below : List Frame} {meth : Method} {c : Code} {D : va_G} {tc : Nat → ClassId} {A : Nat → Prop} {b L : Nat} {xs : Nat → Int32} (C0 : zL D tc A p s m meth c b L xs) (hst : l.stackTraces = false) {K23 : Nat → Nat → zM → Nat → Nat → Nat → Int32 → Prop} (hK23 : J_W_law_23 p l e s m below meth c D tc A b K23) : J_W_law_445 p l e s m below meth c D tc A b (w_W_law_j445 (tc 9) L xs K23) := by
  obtain ⟨hx, hb, hml, hr, hown, htb, hlk, hA, hG, hNc, hX, hbl, hbA, hAq⟩ := id C0
  have hK := hG.1
  intro mc ms M l1 l2 l3 l4 s0 s1 s2 H locs cells slots ls hbc hbs hM hS hl hw
  refine lv_aload_n hx hb dW_law_445 rfl (lv_at hl 3 rfl) ?_
  obtain ⟨mc2, ms3, hbmc2, hbms3, hw⟩ := hw
  refine va_calli (vx_runSW (As := [.ref s2, .int s1, .int s0, .ref l3]) (rest := []) ⟨hx, hb, hml, hown, htb⟩ (k_W_alarm (l := l) (D := D) (tc := tc) (A := A) hst hw) (cw_W_96 htb ⟨Nat.le_of_ble_eq_true rfl, Nat.le_of_ble_eq_true rfl⟩) (z_preSW hG hNc hA hS hM) rfl rfl hl.1 rfl (lv_room (Nat.le_of_ble_eq_true rfl)) dW_law_446 ⟨show cells + mc2 ≤ 601024 by omega, show slots + ms3 ≤ 7293034 by omega⟩) hS (fun _ _ h => h) (fun _ h => h) (fun r4 M1 t H locs ht hvm hw hB _ _ hS => ?_)
  have hM : zP D vwCl tc A M1 H := by rw [← ht]; exact hB
  refine lv_istore (lv' := [(5, .int r4), (0, .ref b), (1, .ref l1), (2, .ref l2), (3, .ref l3), (4, .int l4)]) hx hb dW_law_449 hl (by decide) rfl (fun ls hl => ?_)
  refine lv_aload_n hx hb dW_law_451 rfl (lv_at hl 3 rfl) ?_
  refine lv_aload_n hx hb dW_law_452 rfl (lv_at hl 1 rfl) ?_
  refine lv_iload hx hb dW_law_453 (lv_at hl 5 rfl) ?_
  refine lv_iconst (v := 1) hx hb dW_law_455 (by decide +kernel) ?_
  refine lv_iadd hx hb dW_law_456 ?_
  obtain ⟨v5, hi7, ev6, hw⟩ := hw
  refine z_sld hx hb hX hbl hbA hS hi7 ev6 dW_law_457 ?_
  refine lv_aload_n hx hb dW_law_458 rfl (lv_at hl 1 rfl) ?_
  refine lv_iload hx hb dW_law_459 (lv_at hl 5 rfl) ?_
  refine lv_iconst (v := 2) hx hb dW_law_461 (by decide +kernel) ?_
  refine lv_iadd hx hb dW_law_462 ?_
  obtain ⟨v8, hi10, ev9, hw⟩ := hw
  refine z_sld hx hb hX hbl hbA hS hi10 ev9 dW_law_463 ?_
  refine lv_if_eq (tgt := 471) hx hb dW_law_464 (by decide) (fun hq => ?_) (fun hq => ?_)
  · have hw := hw.1 hq
    refine lv_iconst (v := 0) hx hb dW_law_471 (by decide +kernel) ?_
    exact k_W_law_j472 C0 hst hK23 _ _ _ _ _ _ _ _ _ _ _ _ _ _ _ _ (show (cells + mc2) + (mc - mc2) ≤ 601024 by omega) (show (slots + ms3) + (ms - ms3) ≤ 7293034 by omega) hM hS (lv_sub hl [1, 2, 3, 4, 5, 0] rfl) hw
  · have hw := hw.2 hq
    refine lv_iconst (v := 1) hx hb dW_law_467 (by decide +kernel) ?_
    refine lv_goto (tgt := 472) hx hb dW_law_468 (by decide) ?_
    exact k_W_law_j472 C0 hst hK23 _ _ _ _ _ _ _ _ _ _ _ _ _ _ _ _ (show (cells + mc2) + (mc - mc2) ≤ 601024 by omega) (show (slots + ms3) + (ms - ms3) ≤ 7293034 by omega) hM hS (lv_sub hl [1, 2, 3, 4, 5, 0] rfl) hw
def w_W_law_j585 (e0 L : Nat) (xs : Nat → Int32) (K23 : Nat → Nat → zM → Nat → Nat → Nat → Int32 → Prop) (mc : Nat) (ms : Nat) (M : zM) (l1 : Nat) (l2 : Nat) (l3 : Nat) (l4 : Int32) : Prop := w_W_law_j1028 e0 L xs K23 mc ms M l1 l2 l3 l4
set_option maxHeartbeats 4000000 in
set_option maxRecDepth 100000 in
theorem k_W_law_j585 {p : Program} {l : Launch} {e : Env} {s : State} {m : MethodId} {below : List Frame} {meth : Method} {c : Code} {D : va_G} {tc : Nat → ClassId} {A : Nat → Prop} {b L : Nat} {xs : Nat → Int32} (C0 : zL D tc A p s m meth c b L xs) (hst : l.stackTraces = false) {K23 : Nat → Nat → zM → Nat → Nat → Nat → Int32 → Prop} (hK23 : J_W_law_23 p l e s m below meth c D tc A b K23) : J_W_law_585 p l e s m below meth c D tc A b (w_W_law_j585 (tc 9) L xs K23) := by
  obtain ⟨hx, hb, hml, hr, hown, htb, hlk, hA, hG, hNc, hX, hbl, hbA, hAq⟩ := id C0
  have hK := hG.1
  intro mc ms M l1 l2 l3 l4 H locs cells slots ls hbc hbs hM hS hl hw
  refine lv_goto (tgt := 1028) hx hb dW_law_585 (by decide) ?_
  exact k_W_law_j1028 C0 hst hK23 _ _ _ _ _ _ _ _ _ _ _ _ (show cells + mc ≤ 601024 by omega) (show slots + ms ≤ 7293034 by omega) hM hS (lv_sub hl [0, 1, 2, 3, 4] rfl) hw
def w_W_law_j641 (e0 L : Nat) (xs : Nat → Int32) (K23 : Nat → Nat → zM → Nat → Nat → Nat → Int32 → Prop) (mc : Nat) (ms : Nat) (M : zM) (l1 : Nat) (l2 : Nat) (l3 : Nat) (l4 : Int32) : Prop := w_W_law_j1028 e0 L xs K23 mc ms M l1 l2 l3 l4
set_option maxHeartbeats 4000000 in
set_option maxRecDepth 100000 in
theorem k_W_law_j641 {p : Program} {l : Launch} {e : Env} {s : State} {m : MethodId} {below : List Frame} {meth : Method} {c : Code} {D : va_G} {tc : Nat → ClassId} {A : Nat → Prop} {b L : Nat} {xs : Nat → Int32} (C0 : zL D tc A p s m meth c b L xs) (hst : l.stackTraces = false) {K23 : Nat → Nat → zM → Nat → Nat → Nat → Int32 → Prop} (hK23 : J_W_law_23 p l e s m below meth c D tc A b K23) : J_W_law_641 p l e s m below meth c D tc A b (w_W_law_j641 (tc 9) L xs K23) := by
  obtain ⟨hx, hb, hml, hr, hown, htb, hlk, hA, hG, hNc, hX, hbl, hbA, hAq⟩ := id C0
  have hK := hG.1
  intro mc ms M l1 l2 l3 l4 H locs cells slots ls hbc hbs hM hS hl hw
  refine lv_goto (tgt := 1028) hx hb dW_law_641 (by decide) ?_
  exact k_W_law_j1028 C0 hst hK23 _ _ _ _ _ _ _ _ _ _ _ _ (show cells + mc ≤ 601024 by omega) (show slots + ms ≤ 7293034 by omega) hM hS (lv_sub hl [0, 1, 2, 3, 4] rfl) hw
def w_W_law_j709 (e0 L : Nat) (xs : Nat → Int32) (K23 : Nat → Nat → zM → Nat → Nat → Nat → Int32 → Prop) (mc : Nat) (ms : Nat) (M : zM) (l1 : Nat) (l2 : Nat) (l3 : Nat) (l4 : Int32) : Prop := w_W_law_j1028 e0 L xs K23 mc ms M l1 l2 l3 l4
set_option maxHeartbeats 4000000 in
set_option maxRecDepth 100000 in
theorem k_W_law_j709 {p : Program} {l : Launch} {e : Env} {s : State} {m : MethodId} {below : List Frame} {meth : Method} {c : Code} {D : va_G} {tc : Nat → ClassId} {A : Nat → Prop} {b L : Nat} {xs : Nat → Int32} (C0 : zL D tc A p s m meth c b L xs) (hst : l.stackTraces = false) {K23 : Nat → Nat → zM → Nat → Nat → Nat → Int32 → Prop} (hK23 : J_W_law_23 p l e s m below meth c D tc A b K23) : J_W_law_709 p l e s m below meth c D tc A b (w_W_law_j709 (tc 9) L xs K23) := by
  obtain ⟨hx, hb, hml, hr, hown, htb, hlk, hA, hG, hNc, hX, hbl, hbA, hAq⟩ := id C0
  have hK := hG.1
  intro mc ms M l1 l2 l3 l4 H locs cells slots ls hbc hbs hM hS hl hw
  refine lv_goto (tgt := 1028) hx hb dW_law_709 (by decide) ?_
  exact k_W_law_j1028 C0 hst hK23 _ _ _ _ _ _ _ _ _ _ _ _ (show cells + mc ≤ 601024 by omega) (show slots + ms ≤ 7293034 by omega) hM hS (lv_sub hl [0, 1, 2, 3, 4] rfl) hw
def w_W_law_j777 (e0 L : Nat) (xs : Nat → Int32) (K23 : Nat → Nat → zM → Nat → Nat → Nat → Int32 → Prop) (mc : Nat) (ms : Nat) (M : zM) (l1 : Nat) (l2 : Nat) (l3 : Nat) (l4 : Int32) : Prop := w_W_law_j1028 e0 L xs K23 mc ms M l1 l2 l3 l4
set_option maxHeartbeats 4000000 in
set_option maxRecDepth 100000 in
theorem k_W_law_j777 {p : Program} {l : Launch} {e : Env} {s : State} {m : MethodId} {below : List Frame} {meth : Method} {c : Code} {D : va_G} {tc : Nat → ClassId} {A : Nat → Prop} {b L : Nat} {xs : Nat → Int32} (C0 : zL D tc A p s m meth c b L xs) (hst : l.stackTraces = false) {K23 : Nat → Nat → zM → Nat → Nat → Nat → Int32 → Prop} (hK23 : J_W_law_23 p l e s m below meth c D tc A b K23) : J_W_law_777 p l e s m below meth c D tc A b (w_W_law_j777 (tc 9) L xs K23) := by
  obtain ⟨hx, hb, hml, hr, hown, htb, hlk, hA, hG, hNc, hX, hbl, hbA, hAq⟩ := id C0
  have hK := hG.1
  intro mc ms M l1 l2 l3 l4 H locs cells slots ls hbc hbs hM hS hl hw
  refine lv_goto (tgt := 1028) hx hb dW_law_777 (by decide) ?_
  exact k_W_law_j1028 C0 hst hK23 _ _ _ _ _ _ _ _ _ _ _ _ (show cells + mc ≤ 601024 by omega) (show slots + ms ≤ 7293034 by omega) hM hS (lv_sub hl [0, 1, 2, 3, 4] rfl) hw
def w_W_law_j845 (e0 L : Nat) (xs : Nat → Int32) (K23 : Nat → Nat → zM → Nat → Nat → Nat → Int32 → Prop) (mc : Nat) (ms : Nat) (M : zM) (l1 : Nat) (l2 : Nat) (l3 : Nat) (l4 : Int32) : Prop := w_W_law_j1028 e0 L xs K23 mc ms M l1 l2 l3 l4
set_option maxHeartbeats 4000000 in
set_option maxRecDepth 100000 in
theorem k_W_law_j845 {p : Program} {l : Launch} {e : Env} {s : State} {m : MethodId} {below : List Frame} {meth : Method} {c : Code} {D : va_G} {tc : Nat → ClassId} {A : Nat → Prop} {b L : Nat} {xs : Nat → Int32} (C0 : zL D tc A p s m meth c b L xs) (hst : l.stackTraces = false) {K23 : Nat → Nat → zM → Nat → Nat → Nat → Int32 → Prop} (hK23 : J_W_law_23 p l e s m below meth c D tc A b K23) : J_W_law_845 p l e s m below meth c D tc A b (w_W_law_j845 (tc 9) L xs K23) := by
  obtain ⟨hx, hb, hml, hr, hown, htb, hlk, hA, hG, hNc, hX, hbl, hbA, hAq⟩ := id C0
  have hK := hG.1
  intro mc ms M l1 l2 l3 l4 H locs cells slots ls hbc hbs hM hS hl hw
  refine lv_goto (tgt := 1028) hx hb dW_law_845 (by decide) ?_
  exact k_W_law_j1028 C0 hst hK23 _ _ _ _ _ _ _ _ _ _ _ _ (show cells + mc ≤ 601024 by omega) (show slots + ms ≤ 7293034 by omega) hM hS (lv_sub hl [0, 1, 2, 3, 4] rfl) hw
def w_W_law_j913 (e0 L : Nat) (xs : Nat → Int32) (K23 : Nat → Nat → zM → Nat → Nat → Nat → Int32 → Prop) (mc : Nat) (ms : Nat) (M : zM) (l1 : Nat) (l2 : Nat) (l3 : Nat) (l4 : Int32) : Prop := w_W_law_j1028 e0 L xs K23 mc ms M l1 l2 l3 l4
set_option maxHeartbeats 4000000 in
set_option maxRecDepth 100000 in
theorem k_W_law_j913 {p : Program} {l : Launch} {e : Env} {s : State} {m : MethodId} {below : List Frame} {meth : Method} {c : Code} {D : va_G} {tc : Nat → ClassId} {A : Nat → Prop} {b L : Nat} {xs : Nat → Int32} (C0 : zL D tc A p s m meth c b L xs) (hst : l.stackTraces = false) {K23 : Nat → Nat → zM → Nat → Nat → Nat → Int32 → Prop} (hK23 : J_W_law_23 p l e s m below meth c D tc A b K23) : J_W_law_913 p l e s m below meth c D tc A b (w_W_law_j913 (tc 9) L xs K23) := by
  obtain ⟨hx, hb, hml, hr, hown, htb, hlk, hA, hG, hNc, hX, hbl, hbA, hAq⟩ := id C0
  have hK := hG.1
  intro mc ms M l1 l2 l3 l4 H locs cells slots ls hbc hbs hM hS hl hw
  refine lv_goto (tgt := 1028) hx hb dW_law_913 (by decide) ?_
  exact k_W_law_j1028 C0 hst hK23 _ _ _ _ _ _ _ _ _ _ _ _ (show cells + mc ≤ 601024 by omega) (show slots + ms ≤ 7293034 by omega) hM hS (lv_sub hl [0, 1, 2, 3, 4] rfl) hw
def w_W_law_j969 (e0 L : Nat) (xs : Nat → Int32) (K23 : Nat → Nat → zM → Nat → Nat → Nat → Int32 → Prop) (mc : Nat) (ms : Nat) (M : zM) (l1 : Nat) (l2 : Nat) (l3 : Nat) (l4 : Int32) : Prop := w_W_law_j1028 e0 L xs K23 mc ms M l1 l2 l3 l4
set_option maxHeartbeats 4000000 in
set_option maxRecDepth 100000 in
theorem k_W_law_j969 {p : Program} {l : Launch} {e : Env} {s : State} {m : MethodId} {below : List Frame} {meth : Method} {c : Code} {D : va_G} {tc : Nat → ClassId} {A : Nat → Prop} {b L : Nat} {xs : Nat → Int32} (C0 : zL D tc A p s m meth c b L xs) (hst : l.stackTraces = false) {K23 : Nat → Nat → zM → Nat → Nat → Nat → Int32 → Prop} (hK23 : J_W_law_23 p l e s m below meth c D tc A b K23) : J_W_law_969 p l e s m below meth c D tc A b (w_W_law_j969 (tc 9) L xs K23) := by
  obtain ⟨hx, hb, hml, hr, hown, htb, hlk, hA, hG, hNc, hX, hbl, hbA, hAq⟩ := id C0
  have hK := hG.1
  intro mc ms M l1 l2 l3 l4 H locs cells slots ls hbc hbs hM hS hl hw
  refine lv_goto (tgt := 1028) hx hb dW_law_969 (by decide) ?_
  exact k_W_law_j1028 C0 hst hK23 _ _ _ _ _ _ _ _ _ _ _ _ (show cells + mc ≤ 601024 by omega) (show slots + ms ≤ 7293034 by omega) hM hS (lv_sub hl [0, 1, 2, 3, 4] rfl) hw
def w_W_law_j1025 (e0 L : Nat) (xs : Nat → Int32) (K23 : Nat → Nat → zM → Nat → Nat → Nat → Int32 → Prop) (mc : Nat) (ms : Nat) (M : zM) (l1 : Nat) (l2 : Nat) (l3 : Nat) (l4 : Int32) : Prop := w_W_law_j1028 e0 L xs K23 mc ms M l1 l2 l3 l4
set_option maxHeartbeats 4000000 in
set_option maxRecDepth 100000 in
theorem k_W_law_j1025 {p : Program} {l : Launch} {e : Env} {s : State} {m : MethodId} {below : List Frame} {meth : Method} {c : Code} {D : va_G} {tc : Nat → ClassId} {A : Nat → Prop} {b L : Nat} {xs : Nat → Int32} (C0 : zL D tc A p s m meth c b L xs) (hst : l.stackTraces = false) {K23 : Nat → Nat → zM → Nat → Nat → Nat → Int32 → Prop} (hK23 : J_W_law_23 p l e s m below meth c D tc A b K23) : J_W_law_1025 p l e s m below meth c D tc A b (w_W_law_j1025 (tc 9) L xs K23) := by
  obtain ⟨hx, hb, hml, hr, hown, htb, hlk, hA, hG, hNc, hX, hbl, hbA, hAq⟩ := id C0
  have hK := hG.1
  intro mc ms M l1 l2 l3 l4 H locs cells slots ls hbc hbs hM hS hl hw
  refine lv_goto (tgt := 1028) hx hb dW_law_1025 (by decide) ?_
  exact k_W_law_j1028 C0 hst hK23 _ _ _ _ _ _ _ _ _ _ _ _ (show cells + mc ≤ 601024 by omega) (show slots + ms ≤ 7293034 by omega) hM hS (lv_sub hl [0, 1, 2, 3, 4] rfl) hw
def w_W_law_j23 (e0 L : Nat) (xs : Nat → Int32) : Nat → Nat → Nat → zM → Nat → Nat → Nat → Int32 → Prop
  | 0 => fun _ _ _ _ _ _ _ => False
  | n + 1 => fun mc ms M l1 l2 l3 l4 => wSL L (fun v1 => (((v1 - 4) < l4) → True) ∧ (¬ ((v1 - 4) < l4) → wSC L xs l4 (fun v3 => ((v3 &&& 15) = 0 → wSC L xs (l4 + 1) (fun v6 => wSC L xs (l4 + 2) (fun v9 => ∃ mc13 ms14 : Nat, mc13 ≤ mc ∧ ms14 ≤ ms ∧ w_W_group e0 (fun r15 M12 => wSC L xs (l4 + 1) (fun v16 => wSC L xs (l4 + 2) (fun v19 => wIs M12 l2 4 ∧ w_M_group e0 (fun r23 M22 => wIs M22 l2 4 ∧ w_M_thrown e0 (fun r25 M24 => ((r25 = r15) → ((r15 = 0) → wLJ M24 l3 3 0 (fun v28 => (((lg_cmp v28 (r23.toInt64)) = 0) → w_W_law_j173 e0 L xs (w_W_law_j23 e0 L xs n) (mc - mc13) (ms - ms14) M24 l1 l2 l3 l4) ∧ (¬ ((lg_cmp v28 (r23.toInt64)) = 0) → False))) ∧ (¬ (r15 = 0) → w_W_law_j173 e0 L xs (w_W_law_j23 e0 L xs n) (mc - mc13) (ms - ms14) M24 l1 l2 l3 l4)) ∧ (¬ (r25 = r15) → False)) M22 l2) M12 l2 v16 v19))) mc13 ms14 M l1 v6 v9 l3))) ∧ ((v3 &&& 15) = 1 → wSC L xs (l4 + 1) (fun v36 => wSC L xs (l4 + 2) (fun v39 => ∃ mc43 ms44 : Nat, mc43 ≤ mc ∧ ms44 ≤ ms ∧ w_W_next e0 (fun r45 M42 => wSC L xs (l4 + 1) (fun v46 => wSC L xs (l4 + 2) (fun v49 => wIs M42 l2 4 ∧ w_M_next e0 (fun M52 => wIs M52 l2 4 ∧ w_M_thrown e0 (fun r54 M53 => ((r54 = r45) → w_W_law_j1028 e0 L xs (w_W_law_j23 e0 L xs n) (mc - mc43) (ms - ms44) M53 l1 l2 l3 l4) ∧ (¬ (r54 = r45) → False)) M52 l2) M42 l2 v46 v49))) mc43 ms44 M l1 v36 v39))) ∧ ((v3 &&& 15) = 2 → wSC L xs (l4 + 1) (fun v59 => ∃ mc63 ms64 : Nat, mc63 ≤ mc ∧ ms64 ≤ ms ∧ w_W_person e0 (fun r65 M62 => wSC L xs (l4 + 1) (fun v66 => wIs M62 l2 4 ∧ w_M_person e0 (fun r70 M69 => wIs M69 l2 4 ∧ w_M_thrown e0 (fun r72 M71 => ((r72 = r65) → ((r65 = 0) → wLJ M71 l3 3 0 (fun v75 => (((lg_cmp v75 (r70.toInt64)) = 0) → w_W_law_j277 e0 L xs (w_W_law_j23 e0 L xs n) (mc - mc63) (ms - ms64) M71 l1 l2 l3 l4) ∧ (¬ ((lg_cmp v75 (r70.toInt64)) = 0) → False))) ∧ (¬ (r65 = 0) → w_W_law_j277 e0 L xs (w_W_law_j23 e0 L xs n) (mc - mc63) (ms - ms64) M71 l1 l2 l3 l4)) ∧ (¬ (r72 = r65) → False)) M69 l2) M62 l2 v66)) mc63 ms64 M l1 v59 l3)) ∧ ((v3 &&& 15) = 3 → wSC L xs (l4 + 1) (fun v83 => wSC L xs (l4 + 2) (fun v86 => wSC L xs (l4 + 3) (fun v89 => ((v89 = 0) → w_W_law_j307 e0 L xs (w_W_law_j23 e0 L xs n) mc ms M l1 l2 l3 l4 0 v86 v83 l1) ∧ (¬ (v89 = 0) → w_W_law_j307 e0 L xs (w_W_law_j23 e0 L xs n) mc ms M l1 l2 l3 l4 1 v86 v83 l1))))) ∧ ((v3 &&& 15) = 4 → wSC L xs (l4 + 1) (fun v92 => wSC L xs (l4 + 2) (fun v95 => ∃ mc99 ms100 : Nat, mc99 ≤ mc ∧ ms100 ≤ ms ∧ w_W_is e0 (fun r101 M98 => wSC L xs (l4 + 1) (fun v102 => wSC L xs (l4 + 2) (fun v105 => wIs M98 l2 4 ∧ w_M_is e0 (fun M108 => wIs M108 l2 4 ∧ w_M_thrown e0 (fun r110 M109 => ((r110 = r101) → w_W_law_j1028 e0 L xs (w_W_law_j23 e0 L xs n) (mc - mc99) (ms - ms100) M109 l1 l2 l3 l4) ∧ (¬ (r110 = r101) → False)) M108 l2) M98 l2 v102 v105))) mc99 ms100 M l1 v92 v95))) ∧ ((v3 &&& 15) = 5 → wSC L xs (l4 + 1) (fun v115 => wSC L xs (l4 + 2) (fun v118 => ((v118 = 0) → w_W_law_j445 e0 L xs (w_W_law_j23 e0 L xs n) mc ms M l1 l2 l3 l4 0 v115 l1) ∧ (¬ (v118 = 0) → w_W_law_j445 e0 L xs (w_W_law_j23 e0 L xs n) mc ms M l1 l2 l3 l4 1 v115 l1)))) ∧ ((v3 &&& 15) = 6 → wSC L xs (l4 + 1) (fun v121 => wSC L xs (l4 + 2) (fun v124 => wSC L xs (l4 + 3) (fun v127 => ∃ mc131 ms132 : Nat, mc131 ≤ mc ∧ ms132 ≤ ms ∧ w_W_answer e0 (fun r133 M130 => wSC L xs (l4 + 1) (fun v134 => wSC L xs (l4 + 2) (fun v137 => wSC L xs (l4 + 3) (fun v140 => wIs M130 l2 4 ∧ w_M_answer e0 (fun r144 M143 => wIs M143 l2 4 ∧ w_M_thrown e0 (fun r146 M145 => ((r146 = r133) → ((r133 = 0) → wLJ M145 l3 3 0 (fun v149 => (((lg_cmp v149 (r144.toInt64)) = 0) → w_W_law_j585 e0 L xs (w_W_law_j23 e0 L xs n) (mc - mc131) (ms - ms132) M145 l1 l2 l3 l4) ∧ (¬ ((lg_cmp v149 (r144.toInt64)) = 0) → False))) ∧ (¬ (r133 = 0) → w_W_law_j585 e0 L xs (w_W_law_j23 e0 L xs n) (mc - mc131) (ms - ms132) M145 l1 l2 l3 l4)) ∧ (¬ (r146 = r133) → False)) M143 l2) M130 l2 v134 v137 v140)))) mc131 ms132 M l1 v121 v124 v127 l3)))) ∧ ((v3 &&& 15) = 7 → wSC L xs (l4 + 1) (fun v157 => ∃ mc161 ms162 : Nat, mc161 ≤ mc ∧ ms162 ≤ ms ∧ w_W_tick e0 (fun r163 M160 => wSC L xs (l4 + 1) (fun v164 => wIs M160 l2 4 ∧ w_M_tick e0 (fun r168 M167 => wIs M167 l2 4 ∧ w_M_thrown e0 (fun r170 M169 => ((r170 = r163) → ((r163 = 0) → wLJ M169 l3 3 0 (fun v173 => (((lg_cmp v173 (r168.toInt64)) = 0) → w_W_law_j641 e0 L xs (w_W_law_j23 e0 L xs n) (mc - mc161) (ms - ms162) M169 l1 l2 l3 l4) ∧ (¬ ((lg_cmp v173 (r168.toInt64)) = 0) → False))) ∧ (¬ (r163 = 0) → w_W_law_j641 e0 L xs (w_W_law_j23 e0 L xs n) (mc - mc161) (ms - ms162) M169 l1 l2 l3 l4)) ∧ (¬ (r170 = r163) → False)) M167 l2) M160 l2 v164)) mc161 ms162 M l1 v157 l3)) ∧ ((v3 &&& 15) = 8 → wSC L xs (l4 + 1) (fun v181 => wSC L xs (l4 + 2) (fun v184 => ∃ mc188 ms189 : Nat, mc188 ≤ mc ∧ ms189 ≤ ms ∧ w_W_alarmAt e0 (fun r190 M187 => wSC L xs (l4 + 1) (fun v191 => wSC L xs (l4 + 2) (fun v194 => wIs M187 l2 4 ∧ w_M_alarmAt e0 (fun r198 M197 => wIs M197 l2 4 ∧ w_M_thrown e0 (fun r200 M199 => ((r200 = r190) → ((r190 = 0) → wLJ M199 l3 3 0 (fun v203 => (((lg_cmp v203 (r198.toInt64)) = 0) → w_W_law_j709 e0 L xs (w_W_law_j23 e0 L xs n) (mc - mc188) (ms - ms189) M199 l1 l2 l3 l4) ∧ (¬ ((lg_cmp v203 (r198.toInt64)) = 0) → False))) ∧ (¬ (r190 = 0) → w_W_law_j709 e0 L xs (w_W_law_j23 e0 L xs n) (mc - mc188) (ms - ms189) M199 l1 l2 l3 l4)) ∧ (¬ (r200 = r190) → False)) M197 l2) M187 l2 v191 v194))) mc188 ms189 M l1 v181 v184 l3))) ∧ ((v3 &&& 15) = 9 → wSC L xs (l4 + 1) (fun v211 => wSC L xs (l4 + 2) (fun v214 => ∃ mc218 ms219 : Nat, mc218 ≤ mc ∧ ms219 ≤ ms ∧ w_W_comes e0 (fun r220 M217 => wSC L xs (l4 + 1) (fun v221 => wSC L xs (l4 + 2) (fun v224 => wIs M217 l2 4 ∧ w_M_comes e0 (fun r228 M227 => wIs M227 l2 4 ∧ w_M_thrown e0 (fun r230 M229 => ((r230 = r220) → ((r220 = 0) → wLJ M229 l3 3 0 (fun v233 => (((lg_cmp v233 (r228.toInt64)) = 0) → w_W_law_j777 e0 L xs (w_W_law_j23 e0 L xs n) (mc - mc218) (ms - ms219) M229 l1 l2 l3 l4) ∧ (¬ ((lg_cmp v233 (r228.toInt64)) = 0) → False))) ∧ (¬ (r220 = 0) → w_W_law_j777 e0 L xs (w_W_law_j23 e0 L xs n) (mc - mc218) (ms - ms219) M229 l1 l2 l3 l4)) ∧ (¬ (r230 = r220) → False)) M227 l2) M217 l2 v221 v224))) mc218 ms219 M l1 v211 v214 l3))) ∧ ((v3 &&& 15) = 10 → wSC L xs (l4 + 1) (fun v241 => wSC L xs (l4 + 2) (fun v244 => ∃ mc248 ms249 : Nat, mc248 ≤ mc ∧ ms249 ≤ ms ∧ w_W_reached e0 (fun r250 M247 => wSC L xs (l4 + 1) (fun v251 => wSC L xs (l4 + 2) (fun v254 => wIs M247 l2 4 ∧ w_M_reached e0 (fun r258 M257 => wIs M257 l2 4 ∧ w_M_thrown e0 (fun r260 M259 => ((r260 = r250) → ((r250 = 0) → wLJ M259 l3 3 0 (fun v263 => (((lg_cmp v263 (r258.toInt64)) = 0) → w_W_law_j845 e0 L xs (w_W_law_j23 e0 L xs n) (mc - mc248) (ms - ms249) M259 l1 l2 l3 l4) ∧ (¬ ((lg_cmp v263 (r258.toInt64)) = 0) → False))) ∧ (¬ (r250 = 0) → w_W_law_j845 e0 L xs (w_W_law_j23 e0 L xs n) (mc - mc248) (ms - ms249) M259 l1 l2 l3 l4)) ∧ (¬ (r260 = r250) → False)) M257 l2) M247 l2 v251 v254))) mc248 ms249 M l1 v241 v244 l3))) ∧ ((v3 &&& 15) = 11 → wSC L xs (l4 + 1) (fun v271 => wSC L xs (l4 + 2) (fun v274 => ∃ mc278 ms279 : Nat, mc278 ≤ mc ∧ ms279 ≤ ms ∧ w_W_share e0 (fun r280 M277 => wSC L xs (l4 + 1) (fun v281 => wSC L xs (l4 + 2) (fun v284 => wIs M277 l2 4 ∧ w_M_share e0 (fun r288 M287 => wIs M287 l2 4 ∧ w_M_thrown e0 (fun r290 M289 => ((r290 = r280) → ((r280 = 0) → wLJ M289 l3 3 0 (fun v293 => (((lg_cmp v293 (r288.toInt64)) = 0) → w_W_law_j913 e0 L xs (w_W_law_j23 e0 L xs n) (mc - mc278) (ms - ms279) M289 l1 l2 l3 l4) ∧ (¬ ((lg_cmp v293 (r288.toInt64)) = 0) → False))) ∧ (¬ (r280 = 0) → w_W_law_j913 e0 L xs (w_W_law_j23 e0 L xs n) (mc - mc278) (ms - ms279) M289 l1 l2 l3 l4)) ∧ (¬ (r290 = r280) → False)) M287 l2) M277 l2 v281 v284))) mc278 ms279 M l1 v271 v274 l3))) ∧ ((v3 &&& 15) = 12 → wSC L xs (l4 + 1) (fun v301 => ∃ mc305 ms306 : Nat, mc305 ≤ mc ∧ ms306 ≤ ms ∧ w_W_never e0 (fun r307 M304 => wSC L xs (l4 + 1) (fun v308 => wIs M304 l2 4 ∧ w_M_never e0 (fun r312 M311 => wIs M311 l2 4 ∧ w_M_thrown e0 (fun r314 M313 => ((r314 = r307) → ((r307 = 0) → wLJ M313 l3 3 0 (fun v317 => (((lg_cmp v317 (r312.toInt64)) = 0) → w_W_law_j969 e0 L xs (w_W_law_j23 e0 L xs n) (mc - mc305) (ms - ms306) M313 l1 l2 l3 l4) ∧ (¬ ((lg_cmp v317 (r312.toInt64)) = 0) → False))) ∧ (¬ (r307 = 0) → w_W_law_j969 e0 L xs (w_W_law_j23 e0 L xs n) (mc - mc305) (ms - ms306) M313 l1 l2 l3 l4)) ∧ (¬ (r314 = r307) → False)) M311 l2) M304 l2 v308)) mc305 ms306 M l1 v301 l3)) ∧ ((v3 &&& 15) = 13 → wSC L xs (l4 + 1) (fun v325 => ∃ mc329 ms330 : Nat, mc329 ≤ mc ∧ ms330 ≤ ms ∧ w_W_count e0 (fun r331 M328 => wSC L xs (l4 + 1) (fun v332 => wIs M328 l2 4 ∧ w_M_count e0 (fun r336 M335 => wIs M335 l2 4 ∧ w_M_thrown e0 (fun r338 M337 => ((r338 = r331) → ((r331 = 0) → wLJ M337 l3 3 0 (fun v341 => (((lg_cmp v341 (r336.toInt64)) = 0) → w_W_law_j1025 e0 L xs (w_W_law_j23 e0 L xs n) (mc - mc329) (ms - ms330) M337 l1 l2 l3 l4) ∧ (¬ ((lg_cmp v341 (r336.toInt64)) = 0) → False))) ∧ (¬ (r331 = 0) → w_W_law_j1025 e0 L xs (w_W_law_j23 e0 L xs n) (mc - mc329) (ms - ms330) M337 l1 l2 l3 l4)) ∧ (¬ (r338 = r331) → False)) M335 l2) M328 l2 v332)) mc329 ms330 M l1 v325 l3)) ∧ (¬ (v3 &&& 15) = 0 → ¬ (v3 &&& 15) = 1 → ¬ (v3 &&& 15) = 2 → ¬ (v3 &&& 15) = 3 → ¬ (v3 &&& 15) = 4 → ¬ (v3 &&& 15) = 5 → ¬ (v3 &&& 15) = 6 → ¬ (v3 &&& 15) = 7 → ¬ (v3 &&& 15) = 8 → ¬ (v3 &&& 15) = 9 → ¬ (v3 &&& 15) = 10 → ¬ (v3 &&& 15) = 11 → ¬ (v3 &&& 15) = 12 → ¬ (v3 &&& 15) = 13 → w_W_law_j1028 e0 L xs (w_W_law_j23 e0 L xs n) mc ms M l1 l2 l3 l4))))
set_option maxHeartbeats 4000000 in
set_option maxRecDepth 100000 in
theorem k_W_law_j23 {p : Program} {l : Launch} {e : Env} {s : State} {m : MethodId} {below : List Frame} {meth : Method} {c : Code} {D : va_G} {tc : Nat → ClassId} {A : Nat → Prop} {b L : Nat} {xs : Nat → Int32} (C0 : zL D tc A p s m meth c b L xs) (hst : l.stackTraces = false) : ∀ n : Nat, J_W_law_23 p l e s m below meth c D tc A b (w_W_law_j23 (tc 9) L xs n) := by
  obtain ⟨hx, hb, hml, hr, hown, htb, hlk, hA, hG, hNc, hX, hbl, hbA, hAq⟩ := id C0
  have hK := hG.1
  intro n
  induction n with
  | zero => intro mc ms M l1 l2 l3 l4 H locs cells slots ls hbc hbs hM hS hl hw; exact hw.elim
  | succ n ih =>
    intro mc ms M l1 l2 l3 l4 H locs cells slots ls hbc hbs hM hS hl hw
    refine lv_iload hx hb dW_law_23 (lv_at hl 4 rfl) ?_
    refine lv_aload_n hx hb dW_law_25 rfl (lv_at hl 0 rfl) ?_
    obtain ⟨v1, ev2, hw⟩ := hw
    refine z_slen hx hb hX hbl hbA hS ev2 dW_law_26 ?_
    refine lv_iconst (v := 4) hx hb dW_law_27 (by decide +kernel) ?_
    refine lv_isub hx hb dW_law_28 ?_
    refine lv_icmp_gt (tgt := 1034) hx hb dW_law_29 (by decide) (fun hq => ?_) (fun hq => ?_)
    · have hw := hw.1 hq
      refine lv_iconst (v := 1) hx hb dW_law_1034 (by decide +kernel) ?_
      refine va_forget (fun q hq => hAq _ (hS.2.2 q hq)) ?_
      refine W.widen (k := 601024) (n := 7293034) (by omega) (by omega) ?_
      exact lw_ret hx hb hr hlk dW_law_1035
    · have hw := hw.2 hq
      refine lv_aload_n hx hb dW_law_32 rfl (lv_at hl 0 rfl) ?_
      refine lv_iload hx hb dW_law_33 (lv_at hl 4 rfl) ?_
      obtain ⟨v3, hi5, ev4, hw⟩ := hw
      refine z_sld hx hb hX hbl hbA hS hi5 ev4 dW_law_35 ?_
      refine lv_bipush (v := 15) hx hb dW_law_36 (by decide +kernel) ?_
      refine lv_iand hx hb dW_law_38 ?_
      rcases Classical.em ((v3 &&& 15) = 0) with hq0 | hq0
      · have hw := hw.1 hq0
        refine lv_tableIn (off := 69) (tgt := 108) hx hb dW_law_39 (by rw [hq0]; decide) (by rw [hq0]; decide) (by rw [hq0]; rfl) (by decide) ?_
        refine lv_aload_n hx hb dW_law_108 rfl (lv_at hl 1 rfl) ?_
        refine lv_aload_n hx hb dW_law_109 rfl (lv_at hl 0 rfl) ?_
        refine lv_iload hx hb dW_law_110 (lv_at hl 4 rfl) ?_
        refine lv_iconst (v := 1) hx hb dW_law_112 (by decide +kernel) ?_
        refine lv_iadd hx hb dW_law_113 ?_
        obtain ⟨v6, hi8, ev7, hw⟩ := hw
        refine z_sld hx hb hX hbl hbA hS hi8 ev7 dW_law_114 ?_
        refine lv_aload_n hx hb dW_law_115 rfl (lv_at hl 0 rfl) ?_
        refine lv_iload hx hb dW_law_116 (lv_at hl 4 rfl) ?_
        refine lv_iconst (v := 2) hx hb dW_law_118 (by decide +kernel) ?_
        refine lv_iadd hx hb dW_law_119 ?_
        obtain ⟨v9, hi11, ev10, hw⟩ := hw
        refine z_sld hx hb hX hbl hbA hS hi11 ev10 dW_law_120 ?_
        refine lv_aload_n hx hb dW_law_121 rfl (lv_at hl 3 rfl) ?_
        obtain ⟨mc13, ms14, hbmc13, hbms14, hw⟩ := hw
        refine va_calli (vx_runSW (As := [.ref l1, .int v6, .int v9, .ref l3]) (rest := []) ⟨hx, hb, hml, hown, htb⟩ (k_W_group (l := l) (D := D) (tc := tc) (A := A) hst hw) (cw_W_71 htb ⟨Nat.le_of_ble_eq_true rfl, Nat.le_of_ble_eq_true rfl⟩) (z_preSW hG hNc hA hS hM) rfl rfl hl.1 rfl (lv_room (Nat.le_of_ble_eq_true rfl)) dW_law_122 ⟨show cells + mc13 ≤ 601024 by omega, show slots + ms14 ≤ 7293034 by omega⟩) hS (fun _ _ h => h) (fun _ h => h) (fun r15 M12 t H locs ht hvm hw hB _ _ hS => ?_)
        have hM : zP D vwCl tc A M12 H := by rw [← ht]; exact hB
        refine lv_istore (lv' := [(5, .int r15), (0, .ref b), (1, .ref l1), (2, .ref l2), (3, .ref l3), (4, .int l4)]) hx hb dW_law_125 hl (by decide) rfl (fun ls hl => ?_)
        refine lv_aload_n hx hb dW_law_127 rfl (lv_at hl 3 rfl) ?_
        refine lv_aload_n hx hb dW_law_128 rfl (lv_at hl 1 rfl) ?_
        refine lv_iload hx hb dW_law_129 (lv_at hl 5 rfl) ?_
        refine lv_iconst (v := 1) hx hb dW_law_131 (by decide +kernel) ?_
        refine lv_iadd hx hb dW_law_132 ?_
        obtain ⟨v16, hi18, ev17, hw⟩ := hw
        refine z_sld hx hb hX hbl hbA hS hi18 ev17 dW_law_133 ?_
        refine lv_aload_n hx hb dW_law_134 rfl (lv_at hl 1 rfl) ?_
        refine lv_iload hx hb dW_law_135 (lv_at hl 5 rfl) ?_
        refine lv_iconst (v := 2) hx hb dW_law_137 (by decide +kernel) ?_
        refine lv_iadd hx hb dW_law_138 ?_
        obtain ⟨v19, hi21, ev20, hw⟩ := hw
        refine z_sld hx hb hX hbl hbA hS hi21 ev20 dW_law_139 ?_
        obtain ⟨⟨fs34, h35⟩, hw⟩ := hw
        refine va_calli (va_runV (As := [.int v16, .int v19]) (rest := []) ⟨hx, hb, hml, hown, htb⟩ (k_M_group (l := l) (D := D) (tc := tc) (A := A) hw) (cw_W_76 htb ⟨Nat.le_of_ble_eq_true rfl, Nat.le_of_ble_eq_true rfl⟩) (z_preV hG hA hS hM h35 rfl) rfl rfl hl.1 rfl (lv_room (Nat.le_of_ble_eq_true rfl)) dW_law_140 ⟨show (cells + mc13) + 0 ≤ 601024 by omega, show (slots + ms14) + 0 ≤ 7293034 by omega⟩) hS (fun _ _ h => h) (fun _ h => h) (fun r23 M22 t H locs ht hvm hw hB _ _ hS => ?_)
        have hM : zP D vwCl tc A M22 H := by rw [← ht]; exact hB
        refine lv_istore (lv' := [(6, .int r23), (5, .int r15), (0, .ref b), (1, .ref l1), (2, .ref l2), (3, .ref l3), (4, .int l4)]) hx hb dW_law_143 hl (by decide) rfl (fun ls hl => ?_)
        refine lv_aload_n hx hb dW_law_145 rfl (lv_at hl 4 rfl) ?_
        obtain ⟨⟨fs32, h33⟩, hw⟩ := hw
        refine va_calli (va_runV (As := []) (rest := []) ⟨hx, hb, hml, hown, htb⟩ (k_M_thrown (l := l) (D := D) (tc := tc) (A := A) hw) (cw_W_77 htb ⟨Nat.le_of_ble_eq_true rfl, Nat.le_of_ble_eq_true rfl⟩) (z_preV hG hA hS hM h33 rfl) rfl rfl hl.1 rfl (lv_room (Nat.le_of_ble_eq_true rfl)) dW_law_146 ⟨show (cells + mc13) + 0 ≤ 601024 by omega, show (slots + ms14) + 0 ≤ 7293034 by omega⟩) hS (fun _ _ h => h) (fun _ h => h) (fun r25 M24 t H locs ht hvm hw hB _ _ hS => ?_)
        have hM : zP D vwCl tc A M24 H := by rw [← ht]; exact hB
        refine lv_iload hx hb dW_law_149 (lv_at hl 1 rfl) ?_
        refine lv_icmp_eq (tgt := 156) hx hb dW_law_151 (by decide) (fun hq => ?_) (fun hq => ?_)
        · have hw := hw.1 hq
          refine lv_iload hx hb dW_law_156 (lv_at hl 1 rfl) ?_
          refine lv_if_ne (tgt := 173) hx hb dW_law_158 (by decide) (fun hq => ?_) (fun hq => ?_)
          · have hw := hw.2 hq
            exact k_W_law_j173 C0 hst ih _ _ _ _ _ _ _ _ _ _ _ _ (show (cells + mc13) + (mc - mc13) ≤ 601024 by omega) (show (slots + ms14) + (ms - ms14) ≤ 7293034 by omega) hM hS (lv_sub hl [2, 3, 4, 5, 6] rfl) hw
          · have hw := hw.1 hq
            refine lv_aload_n hx hb dW_law_161 rfl (lv_at hl 5 rfl) ?_
            refine lv_iconst (v := 0) hx hb dW_law_162 (by decide +kernel) ?_
            obtain ⟨n26, f27, v28, h29, hi30, ev31, hw⟩ := hw
            refine z_lald hx hb hK hM 3 3 h29 rfl hi30 ev31 dW_law_163 ?_
            refine lv_iload hx hb dW_law_164 (lv_at hl 0 rfl) ?_
            refine lv_i2l (v := (r23.toInt64)) hx hb dW_law_166 rfl ?_
            refine W.lcmp hx hb dW_law_167 ?_
            refine lv_if_eq (tgt := 173) hx hb dW_law_168 (by decide) (fun hq => ?_) (fun hq => ?_)
            · have hw := hw.1 hq
              exact k_W_law_j173 C0 hst ih _ _ _ _ _ _ _ _ _ _ _ _ (show (cells + mc13) + (mc - mc13) ≤ 601024 by omega) (show (slots + ms14) + (ms - ms14) ≤ 7293034 by omega) hM hS (lv_sub hl [2, 3, 4, 5, 6] rfl) hw
            · have hw := hw.2 hq
              refine lv_iconst (v := 0) hx hb dW_law_171 (by decide +kernel) ?_
              exact hw.elim
        · have hw := hw.2 hq
          refine lv_iconst (v := 0) hx hb dW_law_154 (by decide +kernel) ?_
          exact hw.elim
      rcases Classical.em ((v3 &&& 15) = 1) with hq1 | hq1
      · have hw := hw.2.1 hq1
        refine lv_tableIn (off := 137) (tgt := 176) hx hb dW_law_39 (by rw [hq1]; decide) (by rw [hq1]; decide) (by rw [hq1]; rfl) (by decide) ?_
        refine lv_aload_n hx hb dW_law_176 rfl (lv_at hl 1 rfl) ?_
        refine lv_aload_n hx hb dW_law_177 rfl (lv_at hl 0 rfl) ?_
        refine lv_iload hx hb dW_law_178 (lv_at hl 4 rfl) ?_
        refine lv_iconst (v := 1) hx hb dW_law_180 (by decide +kernel) ?_
        refine lv_iadd hx hb dW_law_181 ?_
        obtain ⟨v36, hi38, ev37, hw⟩ := hw
        refine z_sld hx hb hX hbl hbA hS hi38 ev37 dW_law_182 ?_
        refine lv_aload_n hx hb dW_law_183 rfl (lv_at hl 0 rfl) ?_
        refine lv_iload hx hb dW_law_184 (lv_at hl 4 rfl) ?_
        refine lv_iconst (v := 2) hx hb dW_law_186 (by decide +kernel) ?_
        refine lv_iadd hx hb dW_law_187 ?_
        obtain ⟨v39, hi41, ev40, hw⟩ := hw
        refine z_sld hx hb hX hbl hbA hS hi41 ev40 dW_law_188 ?_
        obtain ⟨mc43, ms44, hbmc43, hbms44, hw⟩ := hw
        refine va_calli (vx_runSW (As := [.ref l1, .int v36, .int v39]) (rest := []) ⟨hx, hb, hml, hown, htb⟩ (k_W_next (l := l) (D := D) (tc := tc) (A := A) hst hw) (cw_W_81 htb ⟨Nat.le_of_ble_eq_true rfl, Nat.le_of_ble_eq_true rfl⟩) (z_preSW hG hNc hA hS hM) rfl rfl hl.1 rfl (lv_room (Nat.le_of_ble_eq_true rfl)) dW_law_189 ⟨show cells + mc43 ≤ 601024 by omega, show slots + ms44 ≤ 7293034 by omega⟩) hS (fun _ _ h => h) (fun _ h => h) (fun r45 M42 t H locs ht hvm hw hB _ _ hS => ?_)
        have hM : zP D vwCl tc A M42 H := by rw [← ht]; exact hB
        refine lv_istore (lv' := [(5, .int r45), (0, .ref b), (1, .ref l1), (2, .ref l2), (3, .ref l3), (4, .int l4)]) hx hb dW_law_192 hl (by decide) rfl (fun ls hl => ?_)
        refine lv_aload_n hx hb dW_law_194 rfl (lv_at hl 3 rfl) ?_
        refine lv_aload_n hx hb dW_law_195 rfl (lv_at hl 1 rfl) ?_
        refine lv_iload hx hb dW_law_196 (lv_at hl 5 rfl) ?_
        refine lv_iconst (v := 1) hx hb dW_law_198 (by decide +kernel) ?_
        refine lv_iadd hx hb dW_law_199 ?_
        obtain ⟨v46, hi48, ev47, hw⟩ := hw
        refine z_sld hx hb hX hbl hbA hS hi48 ev47 dW_law_200 ?_
        refine lv_aload_n hx hb dW_law_201 rfl (lv_at hl 1 rfl) ?_
        refine lv_iload hx hb dW_law_202 (lv_at hl 5 rfl) ?_
        refine lv_iconst (v := 2) hx hb dW_law_204 (by decide +kernel) ?_
        refine lv_iadd hx hb dW_law_205 ?_
        obtain ⟨v49, hi51, ev50, hw⟩ := hw
        refine z_sld hx hb hX hbl hbA hS hi51 ev50 dW_law_206 ?_
        obtain ⟨⟨fs57, h58⟩, hw⟩ := hw
        refine va_callv (va_runV (As := [.int v46, .int v49]) (rest := []) ⟨hx, hb, hml, hown, htb⟩ (k_M_next (l := l) (D := D) (tc := tc) (A := A) hw) (cw_W_84 htb ⟨Nat.le_of_ble_eq_true rfl, Nat.le_of_ble_eq_true rfl⟩) (z_preV hG hA hS hM h58 rfl) rfl rfl hl.1 rfl (lv_room (Nat.le_of_ble_eq_true rfl)) dW_law_207 ⟨show (cells + mc43) + 0 ≤ 601024 by omega, show (slots + ms44) + 0 ≤ 7293034 by omega⟩) hS (fun _ _ h => h) (fun _ h => h) (fun M52 t H locs ht hvm hw hB _ _ hS => ?_)
        have hM : zP D vwCl tc A M52 H := by rw [← ht]; exact hB
        refine lv_aload_n hx hb dW_law_210 rfl (lv_at hl 3 rfl) ?_
        obtain ⟨⟨fs55, h56⟩, hw⟩ := hw
        refine va_calli (va_runV (As := []) (rest := []) ⟨hx, hb, hml, hown, htb⟩ (k_M_thrown (l := l) (D := D) (tc := tc) (A := A) hw) (cw_W_77 htb ⟨Nat.le_of_ble_eq_true rfl, Nat.le_of_ble_eq_true rfl⟩) (z_preV hG hA hS hM h56 rfl) rfl rfl hl.1 rfl (lv_room (Nat.le_of_ble_eq_true rfl)) dW_law_211 ⟨show (cells + mc43) + 0 ≤ 601024 by omega, show (slots + ms44) + 0 ≤ 7293034 by omega⟩) hS (fun _ _ h => h) (fun _ h => h) (fun r54 M53 t H locs ht hvm hw hB _ _ hS => ?_)
        have hM : zP D vwCl tc A M53 H := by rw [← ht]; exact hB
        refine lv_iload hx hb dW_law_214 (lv_at hl 0 rfl) ?_
        refine lv_icmp_eq (tgt := 221) hx hb dW_law_216 (by decide) (fun hq => ?_) (fun hq => ?_)
        · have hw := hw.1 hq
          refine lv_goto (tgt := 1028) hx hb dW_law_221 (by decide) ?_
          exact k_W_law_j1028 C0 hst ih _ _ _ _ _ _ _ _ _ _ _ _ (show (cells + mc43) + (mc - mc43) ≤ 601024 by omega) (show (slots + ms44) + (ms - ms44) ≤ 7293034 by omega) hM hS (lv_sub hl [1, 2, 3, 4, 5] rfl) hw
        · have hw := hw.2 hq
          refine lv_iconst (v := 0) hx hb dW_law_219 (by decide +kernel) ?_
          exact hw.elim
      rcases Classical.em ((v3 &&& 15) = 2) with hq2 | hq2
      · have hw := hw.2.2.1 hq2
        refine lv_tableIn (off := 185) (tgt := 224) hx hb dW_law_39 (by rw [hq2]; decide) (by rw [hq2]; decide) (by rw [hq2]; rfl) (by decide) ?_
        refine lv_aload_n hx hb dW_law_224 rfl (lv_at hl 1 rfl) ?_
        refine lv_aload_n hx hb dW_law_225 rfl (lv_at hl 0 rfl) ?_
        refine lv_iload hx hb dW_law_226 (lv_at hl 4 rfl) ?_
        refine lv_iconst (v := 1) hx hb dW_law_228 (by decide +kernel) ?_
        refine lv_iadd hx hb dW_law_229 ?_
        obtain ⟨v59, hi61, ev60, hw⟩ := hw
        refine z_sld hx hb hX hbl hbA hS hi61 ev60 dW_law_230 ?_
        refine lv_aload_n hx hb dW_law_231 rfl (lv_at hl 3 rfl) ?_
        obtain ⟨mc63, ms64, hbmc63, hbms64, hw⟩ := hw
        refine va_calli (vx_runSW (As := [.ref l1, .int v59, .ref l3]) (rest := []) ⟨hx, hb, hml, hown, htb⟩ (k_W_person (l := l) (D := D) (tc := tc) (A := A) hst hw) (cw_W_85 htb ⟨Nat.le_of_ble_eq_true rfl, Nat.le_of_ble_eq_true rfl⟩) (z_preSW hG hNc hA hS hM) rfl rfl hl.1 rfl (lv_room (Nat.le_of_ble_eq_true rfl)) dW_law_232 ⟨show cells + mc63 ≤ 601024 by omega, show slots + ms64 ≤ 7293034 by omega⟩) hS (fun _ _ h => h) (fun _ h => h) (fun r65 M62 t H locs ht hvm hw hB _ _ hS => ?_)
        have hM : zP D vwCl tc A M62 H := by rw [← ht]; exact hB
        refine lv_istore (lv' := [(5, .int r65), (0, .ref b), (1, .ref l1), (2, .ref l2), (3, .ref l3), (4, .int l4)]) hx hb dW_law_235 hl (by decide) rfl (fun ls hl => ?_)
        refine lv_aload_n hx hb dW_law_237 rfl (lv_at hl 3 rfl) ?_
        refine lv_aload_n hx hb dW_law_238 rfl (lv_at hl 1 rfl) ?_
        refine lv_iload hx hb dW_law_239 (lv_at hl 5 rfl) ?_
        refine lv_iconst (v := 1) hx hb dW_law_241 (by decide +kernel) ?_
        refine lv_iadd hx hb dW_law_242 ?_
        obtain ⟨v66, hi68, ev67, hw⟩ := hw
        refine z_sld hx hb hX hbl hbA hS hi68 ev67 dW_law_243 ?_
        obtain ⟨⟨fs81, h82⟩, hw⟩ := hw
        refine va_calli (va_runV (As := [.int v66]) (rest := []) ⟨hx, hb, hml, hown, htb⟩ (k_M_person (l := l) (D := D) (tc := tc) (A := A) hw) (cw_W_88 htb ⟨Nat.le_of_ble_eq_true rfl, Nat.le_of_ble_eq_true rfl⟩) (z_preV hG hA hS hM h82 rfl) rfl rfl hl.1 rfl (lv_room (Nat.le_of_ble_eq_true rfl)) dW_law_244 ⟨show (cells + mc63) + 0 ≤ 601024 by omega, show (slots + ms64) + 0 ≤ 7293034 by omega⟩) hS (fun _ _ h => h) (fun _ h => h) (fun r70 M69 t H locs ht hvm hw hB _ _ hS => ?_)
        have hM : zP D vwCl tc A M69 H := by rw [← ht]; exact hB
        refine lv_istore (lv' := [(6, .int r70), (5, .int r65), (0, .ref b), (1, .ref l1), (2, .ref l2), (3, .ref l3), (4, .int l4)]) hx hb dW_law_247 hl (by decide) rfl (fun ls hl => ?_)
        refine lv_aload_n hx hb dW_law_249 rfl (lv_at hl 4 rfl) ?_
        obtain ⟨⟨fs79, h80⟩, hw⟩ := hw
        refine va_calli (va_runV (As := []) (rest := []) ⟨hx, hb, hml, hown, htb⟩ (k_M_thrown (l := l) (D := D) (tc := tc) (A := A) hw) (cw_W_77 htb ⟨Nat.le_of_ble_eq_true rfl, Nat.le_of_ble_eq_true rfl⟩) (z_preV hG hA hS hM h80 rfl) rfl rfl hl.1 rfl (lv_room (Nat.le_of_ble_eq_true rfl)) dW_law_250 ⟨show (cells + mc63) + 0 ≤ 601024 by omega, show (slots + ms64) + 0 ≤ 7293034 by omega⟩) hS (fun _ _ h => h) (fun _ h => h) (fun r72 M71 t H locs ht hvm hw hB _ _ hS => ?_)
        have hM : zP D vwCl tc A M71 H := by rw [← ht]; exact hB
        refine lv_iload hx hb dW_law_253 (lv_at hl 1 rfl) ?_
        refine lv_icmp_eq (tgt := 260) hx hb dW_law_255 (by decide) (fun hq => ?_) (fun hq => ?_)
        · have hw := hw.1 hq
          refine lv_iload hx hb dW_law_260 (lv_at hl 1 rfl) ?_
          refine lv_if_ne (tgt := 277) hx hb dW_law_262 (by decide) (fun hq => ?_) (fun hq => ?_)
          · have hw := hw.2 hq
            exact k_W_law_j277 C0 hst ih _ _ _ _ _ _ _ _ _ _ _ _ (show (cells + mc63) + (mc - mc63) ≤ 601024 by omega) (show (slots + ms64) + (ms - ms64) ≤ 7293034 by omega) hM hS (lv_sub hl [2, 3, 4, 5, 6] rfl) hw
          · have hw := hw.1 hq
            refine lv_aload_n hx hb dW_law_265 rfl (lv_at hl 5 rfl) ?_
            refine lv_iconst (v := 0) hx hb dW_law_266 (by decide +kernel) ?_
            obtain ⟨n73, f74, v75, h76, hi77, ev78, hw⟩ := hw
            refine z_lald hx hb hK hM 3 3 h76 rfl hi77 ev78 dW_law_267 ?_
            refine lv_iload hx hb dW_law_268 (lv_at hl 0 rfl) ?_
            refine lv_i2l (v := (r70.toInt64)) hx hb dW_law_270 rfl ?_
            refine W.lcmp hx hb dW_law_271 ?_
            refine lv_if_eq (tgt := 277) hx hb dW_law_272 (by decide) (fun hq => ?_) (fun hq => ?_)
            · have hw := hw.1 hq
              exact k_W_law_j277 C0 hst ih _ _ _ _ _ _ _ _ _ _ _ _ (show (cells + mc63) + (mc - mc63) ≤ 601024 by omega) (show (slots + ms64) + (ms - ms64) ≤ 7293034 by omega) hM hS (lv_sub hl [2, 3, 4, 5, 6] rfl) hw
            · have hw := hw.2 hq
              refine lv_iconst (v := 0) hx hb dW_law_275 (by decide +kernel) ?_
              exact hw.elim
        · have hw := hw.2 hq
          refine lv_iconst (v := 0) hx hb dW_law_258 (by decide +kernel) ?_
          exact hw.elim
      rcases Classical.em ((v3 &&& 15) = 3) with hq3 | hq3
      · have hw := hw.2.2.2.1 hq3
        refine lv_tableIn (off := 241) (tgt := 280) hx hb dW_law_39 (by rw [hq3]; decide) (by rw [hq3]; decide) (by rw [hq3]; rfl) (by decide) ?_
        refine lv_aload_n hx hb dW_law_280 rfl (lv_at hl 1 rfl) ?_
        refine lv_aload_n hx hb dW_law_281 rfl (lv_at hl 0 rfl) ?_
        refine lv_iload hx hb dW_law_282 (lv_at hl 4 rfl) ?_
        refine lv_iconst (v := 1) hx hb dW_law_284 (by decide +kernel) ?_
        refine lv_iadd hx hb dW_law_285 ?_
        obtain ⟨v83, hi85, ev84, hw⟩ := hw
        refine z_sld hx hb hX hbl hbA hS hi85 ev84 dW_law_286 ?_
        refine lv_aload_n hx hb dW_law_287 rfl (lv_at hl 0 rfl) ?_
        refine lv_iload hx hb dW_law_288 (lv_at hl 4 rfl) ?_
        refine lv_iconst (v := 2) hx hb dW_law_290 (by decide +kernel) ?_
        refine lv_iadd hx hb dW_law_291 ?_
        obtain ⟨v86, hi88, ev87, hw⟩ := hw
        refine z_sld hx hb hX hbl hbA hS hi88 ev87 dW_law_292 ?_
        refine lv_aload_n hx hb dW_law_293 rfl (lv_at hl 0 rfl) ?_
        refine lv_iload hx hb dW_law_294 (lv_at hl 4 rfl) ?_
        refine lv_iconst (v := 3) hx hb dW_law_296 (by decide +kernel) ?_
        refine lv_iadd hx hb dW_law_297 ?_
        obtain ⟨v89, hi91, ev90, hw⟩ := hw
        refine z_sld hx hb hX hbl hbA hS hi91 ev90 dW_law_298 ?_
        refine lv_if_eq (tgt := 306) hx hb dW_law_299 (by decide) (fun hq => ?_) (fun hq => ?_)
        · have hw := hw.1 hq
          refine lv_iconst (v := 0) hx hb dW_law_306 (by decide +kernel) ?_
          exact k_W_law_j307 C0 hst ih _ _ _ _ _ _ _ _ _ _ _ _ _ _ _ _ (show cells + mc ≤ 601024 by omega) (show slots + ms ≤ 7293034 by omega) hM hS (lv_sub hl [0, 1, 2, 3, 4] rfl) hw
        · have hw := hw.2 hq
          refine lv_iconst (v := 1) hx hb dW_law_302 (by decide +kernel) ?_
          refine lv_goto (tgt := 307) hx hb dW_law_303 (by decide) ?_
          exact k_W_law_j307 C0 hst ih _ _ _ _ _ _ _ _ _ _ _ _ _ _ _ _ (show cells + mc ≤ 601024 by omega) (show slots + ms ≤ 7293034 by omega) hM hS (lv_sub hl [0, 1, 2, 3, 4] rfl) hw
      rcases Classical.em ((v3 &&& 15) = 4) with hq4 | hq4
      · have hw := hw.2.2.2.2.1 hq4
        refine lv_tableIn (off := 337) (tgt := 376) hx hb dW_law_39 (by rw [hq4]; decide) (by rw [hq4]; decide) (by rw [hq4]; rfl) (by decide) ?_
        refine lv_aload_n hx hb dW_law_376 rfl (lv_at hl 1 rfl) ?_
        refine lv_aload_n hx hb dW_law_377 rfl (lv_at hl 0 rfl) ?_
        refine lv_iload hx hb dW_law_378 (lv_at hl 4 rfl) ?_
        refine lv_iconst (v := 1) hx hb dW_law_380 (by decide +kernel) ?_
        refine lv_iadd hx hb dW_law_381 ?_
        obtain ⟨v92, hi94, ev93, hw⟩ := hw
        refine z_sld hx hb hX hbl hbA hS hi94 ev93 dW_law_382 ?_
        refine lv_aload_n hx hb dW_law_383 rfl (lv_at hl 0 rfl) ?_
        refine lv_iload hx hb dW_law_384 (lv_at hl 4 rfl) ?_
        refine lv_iconst (v := 2) hx hb dW_law_386 (by decide +kernel) ?_
        refine lv_iadd hx hb dW_law_387 ?_
        obtain ⟨v95, hi97, ev96, hw⟩ := hw
        refine z_sld hx hb hX hbl hbA hS hi97 ev96 dW_law_388 ?_
        obtain ⟨mc99, ms100, hbmc99, hbms100, hw⟩ := hw
        refine va_calli (vx_runSW (As := [.ref l1, .int v92, .int v95]) (rest := []) ⟨hx, hb, hml, hown, htb⟩ (k_W_is (l := l) (D := D) (tc := tc) (A := A) hst hw) (cw_W_93 htb ⟨Nat.le_of_ble_eq_true rfl, Nat.le_of_ble_eq_true rfl⟩) (z_preSW hG hNc hA hS hM) rfl rfl hl.1 rfl (lv_room (Nat.le_of_ble_eq_true rfl)) dW_law_389 ⟨show cells + mc99 ≤ 601024 by omega, show slots + ms100 ≤ 7293034 by omega⟩) hS (fun _ _ h => h) (fun _ h => h) (fun r101 M98 t H locs ht hvm hw hB _ _ hS => ?_)
        have hM : zP D vwCl tc A M98 H := by rw [← ht]; exact hB
        refine lv_istore (lv' := [(5, .int r101), (0, .ref b), (1, .ref l1), (2, .ref l2), (3, .ref l3), (4, .int l4)]) hx hb dW_law_392 hl (by decide) rfl (fun ls hl => ?_)
        refine lv_aload_n hx hb dW_law_394 rfl (lv_at hl 3 rfl) ?_
        refine lv_aload_n hx hb dW_law_395 rfl (lv_at hl 1 rfl) ?_
        refine lv_iload hx hb dW_law_396 (lv_at hl 5 rfl) ?_
        refine lv_iconst (v := 1) hx hb dW_law_398 (by decide +kernel) ?_
        refine lv_iadd hx hb dW_law_399 ?_
        obtain ⟨v102, hi104, ev103, hw⟩ := hw
        refine z_sld hx hb hX hbl hbA hS hi104 ev103 dW_law_400 ?_
        refine lv_aload_n hx hb dW_law_401 rfl (lv_at hl 1 rfl) ?_
        refine lv_iload hx hb dW_law_402 (lv_at hl 5 rfl) ?_
        refine lv_iconst (v := 2) hx hb dW_law_404 (by decide +kernel) ?_
        refine lv_iadd hx hb dW_law_405 ?_
        obtain ⟨v105, hi107, ev106, hw⟩ := hw
        refine z_sld hx hb hX hbl hbA hS hi107 ev106 dW_law_406 ?_
        obtain ⟨⟨fs113, h114⟩, hw⟩ := hw
        refine va_callv (va_runV (As := [.int v102, .int v105]) (rest := []) ⟨hx, hb, hml, hown, htb⟩ (k_M_is (l := l) (D := D) (tc := tc) (A := A) hw) (cw_W_95 htb ⟨Nat.le_of_ble_eq_true rfl, Nat.le_of_ble_eq_true rfl⟩) (z_preV hG hA hS hM h114 rfl) rfl rfl hl.1 rfl (lv_room (Nat.le_of_ble_eq_true rfl)) dW_law_407 ⟨show (cells + mc99) + 0 ≤ 601024 by omega, show (slots + ms100) + 0 ≤ 7293034 by omega⟩) hS (fun _ _ h => h) (fun _ h => h) (fun M108 t H locs ht hvm hw hB _ _ hS => ?_)
        have hM : zP D vwCl tc A M108 H := by rw [← ht]; exact hB
        refine lv_aload_n hx hb dW_law_410 rfl (lv_at hl 3 rfl) ?_
        obtain ⟨⟨fs111, h112⟩, hw⟩ := hw
        refine va_calli (va_runV (As := []) (rest := []) ⟨hx, hb, hml, hown, htb⟩ (k_M_thrown (l := l) (D := D) (tc := tc) (A := A) hw) (cw_W_77 htb ⟨Nat.le_of_ble_eq_true rfl, Nat.le_of_ble_eq_true rfl⟩) (z_preV hG hA hS hM h112 rfl) rfl rfl hl.1 rfl (lv_room (Nat.le_of_ble_eq_true rfl)) dW_law_411 ⟨show (cells + mc99) + 0 ≤ 601024 by omega, show (slots + ms100) + 0 ≤ 7293034 by omega⟩) hS (fun _ _ h => h) (fun _ h => h) (fun r110 M109 t H locs ht hvm hw hB _ _ hS => ?_)
        have hM : zP D vwCl tc A M109 H := by rw [← ht]; exact hB
        refine lv_iload hx hb dW_law_414 (lv_at hl 0 rfl) ?_
        refine lv_icmp_eq (tgt := 421) hx hb dW_law_416 (by decide) (fun hq => ?_) (fun hq => ?_)
        · have hw := hw.1 hq
          refine lv_goto (tgt := 1028) hx hb dW_law_421 (by decide) ?_
          exact k_W_law_j1028 C0 hst ih _ _ _ _ _ _ _ _ _ _ _ _ (show (cells + mc99) + (mc - mc99) ≤ 601024 by omega) (show (slots + ms100) + (ms - ms100) ≤ 7293034 by omega) hM hS (lv_sub hl [1, 2, 3, 4, 5] rfl) hw
        · have hw := hw.2 hq
          refine lv_iconst (v := 0) hx hb dW_law_419 (by decide +kernel) ?_
          exact hw.elim
      rcases Classical.em ((v3 &&& 15) = 5) with hq5 | hq5
      · have hw := hw.2.2.2.2.2.1 hq5
        refine lv_tableIn (off := 385) (tgt := 424) hx hb dW_law_39 (by rw [hq5]; decide) (by rw [hq5]; decide) (by rw [hq5]; rfl) (by decide) ?_
        refine lv_aload_n hx hb dW_law_424 rfl (lv_at hl 1 rfl) ?_
        refine lv_aload_n hx hb dW_law_425 rfl (lv_at hl 0 rfl) ?_
        refine lv_iload hx hb dW_law_426 (lv_at hl 4 rfl) ?_
        refine lv_iconst (v := 1) hx hb dW_law_428 (by decide +kernel) ?_
        refine lv_iadd hx hb dW_law_429 ?_
        obtain ⟨v115, hi117, ev116, hw⟩ := hw
        refine z_sld hx hb hX hbl hbA hS hi117 ev116 dW_law_430 ?_
        refine lv_aload_n hx hb dW_law_431 rfl (lv_at hl 0 rfl) ?_
        refine lv_iload hx hb dW_law_432 (lv_at hl 4 rfl) ?_
        refine lv_iconst (v := 2) hx hb dW_law_434 (by decide +kernel) ?_
        refine lv_iadd hx hb dW_law_435 ?_
        obtain ⟨v118, hi120, ev119, hw⟩ := hw
        refine z_sld hx hb hX hbl hbA hS hi120 ev119 dW_law_436 ?_
        refine lv_if_eq (tgt := 444) hx hb dW_law_437 (by decide) (fun hq => ?_) (fun hq => ?_)
        · have hw := hw.1 hq
          refine lv_iconst (v := 0) hx hb dW_law_444 (by decide +kernel) ?_
          exact k_W_law_j445 C0 hst ih _ _ _ _ _ _ _ _ _ _ _ _ _ _ _ (show cells + mc ≤ 601024 by omega) (show slots + ms ≤ 7293034 by omega) hM hS (lv_sub hl [0, 1, 2, 3, 4] rfl) hw
        · have hw := hw.2 hq
          refine lv_iconst (v := 1) hx hb dW_law_440 (by decide +kernel) ?_
          refine lv_goto (tgt := 445) hx hb dW_law_441 (by decide) ?_
          exact k_W_law_j445 C0 hst ih _ _ _ _ _ _ _ _ _ _ _ _ _ _ _ (show cells + mc ≤ 601024 by omega) (show slots + ms ≤ 7293034 by omega) hM hS (lv_sub hl [0, 1, 2, 3, 4] rfl) hw
      rcases Classical.em ((v3 &&& 15) = 6) with hq6 | hq6
      · have hw := hw.2.2.2.2.2.2.1 hq6
        refine lv_tableIn (off := 469) (tgt := 508) hx hb dW_law_39 (by rw [hq6]; decide) (by rw [hq6]; decide) (by rw [hq6]; rfl) (by decide) ?_
        refine lv_aload_n hx hb dW_law_508 rfl (lv_at hl 1 rfl) ?_
        refine lv_aload_n hx hb dW_law_509 rfl (lv_at hl 0 rfl) ?_
        refine lv_iload hx hb dW_law_510 (lv_at hl 4 rfl) ?_
        refine lv_iconst (v := 1) hx hb dW_law_512 (by decide +kernel) ?_
        refine lv_iadd hx hb dW_law_513 ?_
        obtain ⟨v121, hi123, ev122, hw⟩ := hw
        refine z_sld hx hb hX hbl hbA hS hi123 ev122 dW_law_514 ?_
        refine lv_aload_n hx hb dW_law_515 rfl (lv_at hl 0 rfl) ?_
        refine lv_iload hx hb dW_law_516 (lv_at hl 4 rfl) ?_
        refine lv_iconst (v := 2) hx hb dW_law_518 (by decide +kernel) ?_
        refine lv_iadd hx hb dW_law_519 ?_
        obtain ⟨v124, hi126, ev125, hw⟩ := hw
        refine z_sld hx hb hX hbl hbA hS hi126 ev125 dW_law_520 ?_
        refine lv_aload_n hx hb dW_law_521 rfl (lv_at hl 0 rfl) ?_
        refine lv_iload hx hb dW_law_522 (lv_at hl 4 rfl) ?_
        refine lv_iconst (v := 3) hx hb dW_law_524 (by decide +kernel) ?_
        refine lv_iadd hx hb dW_law_525 ?_
        obtain ⟨v127, hi129, ev128, hw⟩ := hw
        refine z_sld hx hb hX hbl hbA hS hi129 ev128 dW_law_526 ?_
        refine lv_aload_n hx hb dW_law_527 rfl (lv_at hl 3 rfl) ?_
        obtain ⟨mc131, ms132, hbmc131, hbms132, hw⟩ := hw
        refine va_calli (vx_runSW (As := [.ref l1, .int v121, .int v124, .int v127, .ref l3]) (rest := []) ⟨hx, hb, hml, hown, htb⟩ (k_W_answer (l := l) (D := D) (tc := tc) (A := A) hst hw) (cw_W_100 htb ⟨Nat.le_of_ble_eq_true rfl, Nat.le_of_ble_eq_true rfl⟩) (z_preSW hG hNc hA hS hM) rfl rfl hl.1 rfl (lv_room (Nat.le_of_ble_eq_true rfl)) dW_law_528 ⟨show cells + mc131 ≤ 601024 by omega, show slots + ms132 ≤ 7293034 by omega⟩) hS (fun _ _ h => h) (fun _ h => h) (fun r133 M130 t H locs ht hvm hw hB _ _ hS => ?_)
        have hM : zP D vwCl tc A M130 H := by rw [← ht]; exact hB
        refine lv_istore (lv' := [(5, .int r133), (0, .ref b), (1, .ref l1), (2, .ref l2), (3, .ref l3), (4, .int l4)]) hx hb dW_law_531 hl (by decide) rfl (fun ls hl => ?_)
        refine lv_aload_n hx hb dW_law_533 rfl (lv_at hl 3 rfl) ?_
        refine lv_aload_n hx hb dW_law_534 rfl (lv_at hl 1 rfl) ?_
        refine lv_iload hx hb dW_law_535 (lv_at hl 5 rfl) ?_
        refine lv_iconst (v := 1) hx hb dW_law_537 (by decide +kernel) ?_
        refine lv_iadd hx hb dW_law_538 ?_
        obtain ⟨v134, hi136, ev135, hw⟩ := hw
        refine z_sld hx hb hX hbl hbA hS hi136 ev135 dW_law_539 ?_
        refine lv_aload_n hx hb dW_law_540 rfl (lv_at hl 1 rfl) ?_
        refine lv_iload hx hb dW_law_541 (lv_at hl 5 rfl) ?_
        refine lv_iconst (v := 2) hx hb dW_law_543 (by decide +kernel) ?_
        refine lv_iadd hx hb dW_law_544 ?_
        obtain ⟨v137, hi139, ev138, hw⟩ := hw
        refine z_sld hx hb hX hbl hbA hS hi139 ev138 dW_law_545 ?_
        refine lv_aload_n hx hb dW_law_546 rfl (lv_at hl 1 rfl) ?_
        refine lv_iload hx hb dW_law_547 (lv_at hl 5 rfl) ?_
        refine lv_iconst (v := 3) hx hb dW_law_549 (by decide +kernel) ?_
        refine lv_iadd hx hb dW_law_550 ?_
        obtain ⟨v140, hi142, ev141, hw⟩ := hw
        refine z_sld hx hb hX hbl hbA hS hi142 ev141 dW_law_551 ?_
        obtain ⟨⟨fs155, h156⟩, hw⟩ := hw
        refine va_calli (va_runV (As := [.int v134, .int v137, .int v140]) (rest := []) ⟨hx, hb, hml, hown, htb⟩ (k_M_answer (l := l) (D := D) (tc := tc) (A := A) hw) (cw_W_103 htb ⟨Nat.le_of_ble_eq_true rfl, Nat.le_of_ble_eq_true rfl⟩) (z_preV hG hA hS hM h156 rfl) rfl rfl hl.1 rfl (lv_room (Nat.le_of_ble_eq_true rfl)) dW_law_552 ⟨show (cells + mc131) + 0 ≤ 601024 by omega, show (slots + ms132) + 0 ≤ 7293034 by omega⟩) hS (fun _ _ h => h) (fun _ h => h) (fun r144 M143 t H locs ht hvm hw hB _ _ hS => ?_)
        have hM : zP D vwCl tc A M143 H := by rw [← ht]; exact hB
        refine lv_istore (lv' := [(6, .int r144), (5, .int r133), (0, .ref b), (1, .ref l1), (2, .ref l2), (3, .ref l3), (4, .int l4)]) hx hb dW_law_555 hl (by decide) rfl (fun ls hl => ?_)
        refine lv_aload_n hx hb dW_law_557 rfl (lv_at hl 4 rfl) ?_
        obtain ⟨⟨fs153, h154⟩, hw⟩ := hw
        refine va_calli (va_runV (As := []) (rest := []) ⟨hx, hb, hml, hown, htb⟩ (k_M_thrown (l := l) (D := D) (tc := tc) (A := A) hw) (cw_W_77 htb ⟨Nat.le_of_ble_eq_true rfl, Nat.le_of_ble_eq_true rfl⟩) (z_preV hG hA hS hM h154 rfl) rfl rfl hl.1 rfl (lv_room (Nat.le_of_ble_eq_true rfl)) dW_law_558 ⟨show (cells + mc131) + 0 ≤ 601024 by omega, show (slots + ms132) + 0 ≤ 7293034 by omega⟩) hS (fun _ _ h => h) (fun _ h => h) (fun r146 M145 t H locs ht hvm hw hB _ _ hS => ?_)
        have hM : zP D vwCl tc A M145 H := by rw [← ht]; exact hB
        refine lv_iload hx hb dW_law_561 (lv_at hl 1 rfl) ?_
        refine lv_icmp_eq (tgt := 568) hx hb dW_law_563 (by decide) (fun hq => ?_) (fun hq => ?_)
        · have hw := hw.1 hq
          refine lv_iload hx hb dW_law_568 (lv_at hl 1 rfl) ?_
          refine lv_if_ne (tgt := 585) hx hb dW_law_570 (by decide) (fun hq => ?_) (fun hq => ?_)
          · have hw := hw.2 hq
            exact k_W_law_j585 C0 hst ih _ _ _ _ _ _ _ _ _ _ _ _ (show (cells + mc131) + (mc - mc131) ≤ 601024 by omega) (show (slots + ms132) + (ms - ms132) ≤ 7293034 by omega) hM hS (lv_sub hl [2, 3, 4, 5, 6] rfl) hw
          · have hw := hw.1 hq
            refine lv_aload_n hx hb dW_law_573 rfl (lv_at hl 5 rfl) ?_
            refine lv_iconst (v := 0) hx hb dW_law_574 (by decide +kernel) ?_
            obtain ⟨n147, f148, v149, h150, hi151, ev152, hw⟩ := hw
            refine z_lald hx hb hK hM 3 3 h150 rfl hi151 ev152 dW_law_575 ?_
            refine lv_iload hx hb dW_law_576 (lv_at hl 0 rfl) ?_
            refine lv_i2l (v := (r144.toInt64)) hx hb dW_law_578 rfl ?_
            refine W.lcmp hx hb dW_law_579 ?_
            refine lv_if_eq (tgt := 585) hx hb dW_law_580 (by decide) (fun hq => ?_) (fun hq => ?_)
            · have hw := hw.1 hq
              exact k_W_law_j585 C0 hst ih _ _ _ _ _ _ _ _ _ _ _ _ (show (cells + mc131) + (mc - mc131) ≤ 601024 by omega) (show (slots + ms132) + (ms - ms132) ≤ 7293034 by omega) hM hS (lv_sub hl [2, 3, 4, 5, 6] rfl) hw
            · have hw := hw.2 hq
              refine lv_iconst (v := 0) hx hb dW_law_583 (by decide +kernel) ?_
              exact hw.elim
        · have hw := hw.2 hq
          refine lv_iconst (v := 0) hx hb dW_law_566 (by decide +kernel) ?_
          exact hw.elim
      rcases Classical.em ((v3 &&& 15) = 7) with hq7 | hq7
      · have hw := hw.2.2.2.2.2.2.2.1 hq7
        refine lv_tableIn (off := 549) (tgt := 588) hx hb dW_law_39 (by rw [hq7]; decide) (by rw [hq7]; decide) (by rw [hq7]; rfl) (by decide) ?_
        refine lv_aload_n hx hb dW_law_588 rfl (lv_at hl 1 rfl) ?_
        refine lv_aload_n hx hb dW_law_589 rfl (lv_at hl 0 rfl) ?_
        refine lv_iload hx hb dW_law_590 (lv_at hl 4 rfl) ?_
        refine lv_iconst (v := 1) hx hb dW_law_592 (by decide +kernel) ?_
        refine lv_iadd hx hb dW_law_593 ?_
        obtain ⟨v157, hi159, ev158, hw⟩ := hw
        refine z_sld hx hb hX hbl hbA hS hi159 ev158 dW_law_594 ?_
        refine lv_aload_n hx hb dW_law_595 rfl (lv_at hl 3 rfl) ?_
        obtain ⟨mc161, ms162, hbmc161, hbms162, hw⟩ := hw
        refine va_calli (vx_runSW (As := [.ref l1, .int v157, .ref l3]) (rest := []) ⟨hx, hb, hml, hown, htb⟩ (k_W_tick (l := l) (D := D) (tc := tc) (A := A) hst hw) (cw_W_104 htb ⟨Nat.le_of_ble_eq_true rfl, Nat.le_of_ble_eq_true rfl⟩) (z_preSW hG hNc hA hS hM) rfl rfl hl.1 rfl (lv_room (Nat.le_of_ble_eq_true rfl)) dW_law_596 ⟨show cells + mc161 ≤ 601024 by omega, show slots + ms162 ≤ 7293034 by omega⟩) hS (fun _ _ h => h) (fun _ h => h) (fun r163 M160 t H locs ht hvm hw hB _ _ hS => ?_)
        have hM : zP D vwCl tc A M160 H := by rw [← ht]; exact hB
        refine lv_istore (lv' := [(5, .int r163), (0, .ref b), (1, .ref l1), (2, .ref l2), (3, .ref l3), (4, .int l4)]) hx hb dW_law_599 hl (by decide) rfl (fun ls hl => ?_)
        refine lv_aload_n hx hb dW_law_601 rfl (lv_at hl 3 rfl) ?_
        refine lv_aload_n hx hb dW_law_602 rfl (lv_at hl 1 rfl) ?_
        refine lv_iload hx hb dW_law_603 (lv_at hl 5 rfl) ?_
        refine lv_iconst (v := 1) hx hb dW_law_605 (by decide +kernel) ?_
        refine lv_iadd hx hb dW_law_606 ?_
        obtain ⟨v164, hi166, ev165, hw⟩ := hw
        refine z_sld hx hb hX hbl hbA hS hi166 ev165 dW_law_607 ?_
        obtain ⟨⟨fs179, h180⟩, hw⟩ := hw
        refine va_calli (va_runV (As := [.int v164]) (rest := []) ⟨hx, hb, hml, hown, htb⟩ (k_M_tick (l := l) (D := D) (tc := tc) (A := A) hw) (cw_W_106 htb ⟨Nat.le_of_ble_eq_true rfl, Nat.le_of_ble_eq_true rfl⟩) (z_preV hG hA hS hM h180 rfl) rfl rfl hl.1 rfl (lv_room (Nat.le_of_ble_eq_true rfl)) dW_law_608 ⟨show (cells + mc161) + 0 ≤ 601024 by omega, show (slots + ms162) + 0 ≤ 7293034 by omega⟩) hS (fun _ _ h => h) (fun _ h => h) (fun r168 M167 t H locs ht hvm hw hB _ _ hS => ?_)
        have hM : zP D vwCl tc A M167 H := by rw [← ht]; exact hB
        refine lv_istore (lv' := [(6, .int r168), (5, .int r163), (0, .ref b), (1, .ref l1), (2, .ref l2), (3, .ref l3), (4, .int l4)]) hx hb dW_law_611 hl (by decide) rfl (fun ls hl => ?_)
        refine lv_aload_n hx hb dW_law_613 rfl (lv_at hl 4 rfl) ?_
        obtain ⟨⟨fs177, h178⟩, hw⟩ := hw
        refine va_calli (va_runV (As := []) (rest := []) ⟨hx, hb, hml, hown, htb⟩ (k_M_thrown (l := l) (D := D) (tc := tc) (A := A) hw) (cw_W_77 htb ⟨Nat.le_of_ble_eq_true rfl, Nat.le_of_ble_eq_true rfl⟩) (z_preV hG hA hS hM h178 rfl) rfl rfl hl.1 rfl (lv_room (Nat.le_of_ble_eq_true rfl)) dW_law_614 ⟨show (cells + mc161) + 0 ≤ 601024 by omega, show (slots + ms162) + 0 ≤ 7293034 by omega⟩) hS (fun _ _ h => h) (fun _ h => h) (fun r170 M169 t H locs ht hvm hw hB _ _ hS => ?_)
        have hM : zP D vwCl tc A M169 H := by rw [← ht]; exact hB
        refine lv_iload hx hb dW_law_617 (lv_at hl 1 rfl) ?_
        refine lv_icmp_eq (tgt := 624) hx hb dW_law_619 (by decide) (fun hq => ?_) (fun hq => ?_)
        · have hw := hw.1 hq
          refine lv_iload hx hb dW_law_624 (lv_at hl 1 rfl) ?_
          refine lv_if_ne (tgt := 641) hx hb dW_law_626 (by decide) (fun hq => ?_) (fun hq => ?_)
          · have hw := hw.2 hq
            exact k_W_law_j641 C0 hst ih _ _ _ _ _ _ _ _ _ _ _ _ (show (cells + mc161) + (mc - mc161) ≤ 601024 by omega) (show (slots + ms162) + (ms - ms162) ≤ 7293034 by omega) hM hS (lv_sub hl [2, 3, 4, 5, 6] rfl) hw
          · have hw := hw.1 hq
            refine lv_aload_n hx hb dW_law_629 rfl (lv_at hl 5 rfl) ?_
            refine lv_iconst (v := 0) hx hb dW_law_630 (by decide +kernel) ?_
            obtain ⟨n171, f172, v173, h174, hi175, ev176, hw⟩ := hw
            refine z_lald hx hb hK hM 3 3 h174 rfl hi175 ev176 dW_law_631 ?_
            refine lv_iload hx hb dW_law_632 (lv_at hl 0 rfl) ?_
            refine lv_i2l (v := (r168.toInt64)) hx hb dW_law_634 rfl ?_
            refine W.lcmp hx hb dW_law_635 ?_
            refine lv_if_eq (tgt := 641) hx hb dW_law_636 (by decide) (fun hq => ?_) (fun hq => ?_)
            · have hw := hw.1 hq
              exact k_W_law_j641 C0 hst ih _ _ _ _ _ _ _ _ _ _ _ _ (show (cells + mc161) + (mc - mc161) ≤ 601024 by omega) (show (slots + ms162) + (ms - ms162) ≤ 7293034 by omega) hM hS (lv_sub hl [2, 3, 4, 5, 6] rfl) hw
            · have hw := hw.2 hq
              refine lv_iconst (v := 0) hx hb dW_law_639 (by decide +kernel) ?_
              exact hw.elim
        · have hw := hw.2 hq
          refine lv_iconst (v := 0) hx hb dW_law_622 (by decide +kernel) ?_
          exact hw.elim
      rcases Classical.em ((v3 &&& 15) = 8) with hq8 | hq8
      · have hw := hw.2.2.2.2.2.2.2.2.1 hq8
        refine lv_tableIn (off := 605) (tgt := 644) hx hb dW_law_39 (by rw [hq8]; decide) (by rw [hq8]; decide) (by rw [hq8]; rfl) (by decide) ?_
        refine lv_aload_n hx hb dW_law_644 rfl (lv_at hl 1 rfl) ?_
        refine lv_aload_n hx hb dW_law_645 rfl (lv_at hl 0 rfl) ?_
        refine lv_iload hx hb dW_law_646 (lv_at hl 4 rfl) ?_
        refine lv_iconst (v := 1) hx hb dW_law_648 (by decide +kernel) ?_
        refine lv_iadd hx hb dW_law_649 ?_
        obtain ⟨v181, hi183, ev182, hw⟩ := hw
        refine z_sld hx hb hX hbl hbA hS hi183 ev182 dW_law_650 ?_
        refine lv_aload_n hx hb dW_law_651 rfl (lv_at hl 0 rfl) ?_
        refine lv_iload hx hb dW_law_652 (lv_at hl 4 rfl) ?_
        refine lv_iconst (v := 2) hx hb dW_law_654 (by decide +kernel) ?_
        refine lv_iadd hx hb dW_law_655 ?_
        obtain ⟨v184, hi186, ev185, hw⟩ := hw
        refine z_sld hx hb hX hbl hbA hS hi186 ev185 dW_law_656 ?_
        refine lv_aload_n hx hb dW_law_657 rfl (lv_at hl 3 rfl) ?_
        obtain ⟨mc188, ms189, hbmc188, hbms189, hw⟩ := hw
        refine va_calli (vx_runSW (As := [.ref l1, .int v181, .int v184, .ref l3]) (rest := []) ⟨hx, hb, hml, hown, htb⟩ (k_W_alarmAt (l := l) (D := D) (tc := tc) (A := A) hst hw) (cw_W_107 htb ⟨Nat.le_of_ble_eq_true rfl, Nat.le_of_ble_eq_true rfl⟩) (z_preSW hG hNc hA hS hM) rfl rfl hl.1 rfl (lv_room (Nat.le_of_ble_eq_true rfl)) dW_law_658 ⟨show cells + mc188 ≤ 601024 by omega, show slots + ms189 ≤ 7293034 by omega⟩) hS (fun _ _ h => h) (fun _ h => h) (fun r190 M187 t H locs ht hvm hw hB _ _ hS => ?_)
        have hM : zP D vwCl tc A M187 H := by rw [← ht]; exact hB
        refine lv_istore (lv' := [(5, .int r190), (0, .ref b), (1, .ref l1), (2, .ref l2), (3, .ref l3), (4, .int l4)]) hx hb dW_law_661 hl (by decide) rfl (fun ls hl => ?_)
        refine lv_aload_n hx hb dW_law_663 rfl (lv_at hl 3 rfl) ?_
        refine lv_aload_n hx hb dW_law_664 rfl (lv_at hl 1 rfl) ?_
        refine lv_iload hx hb dW_law_665 (lv_at hl 5 rfl) ?_
        refine lv_iconst (v := 1) hx hb dW_law_667 (by decide +kernel) ?_
        refine lv_iadd hx hb dW_law_668 ?_
        obtain ⟨v191, hi193, ev192, hw⟩ := hw
        refine z_sld hx hb hX hbl hbA hS hi193 ev192 dW_law_669 ?_
        refine lv_aload_n hx hb dW_law_670 rfl (lv_at hl 1 rfl) ?_
        refine lv_iload hx hb dW_law_671 (lv_at hl 5 rfl) ?_
        refine lv_iconst (v := 2) hx hb dW_law_673 (by decide +kernel) ?_
        refine lv_iadd hx hb dW_law_674 ?_
        obtain ⟨v194, hi196, ev195, hw⟩ := hw
        refine z_sld hx hb hX hbl hbA hS hi196 ev195 dW_law_675 ?_
        obtain ⟨⟨fs209, h210⟩, hw⟩ := hw
        refine va_calli (va_runV (As := [.int v191, .int v194]) (rest := []) ⟨hx, hb, hml, hown, htb⟩ (k_M_alarmAt (l := l) (D := D) (tc := tc) (A := A) hw) (cw_W_109 htb ⟨Nat.le_of_ble_eq_true rfl, Nat.le_of_ble_eq_true rfl⟩) (z_preV hG hA hS hM h210 rfl) rfl rfl hl.1 rfl (lv_room (Nat.le_of_ble_eq_true rfl)) dW_law_676 ⟨show (cells + mc188) + 0 ≤ 601024 by omega, show (slots + ms189) + 0 ≤ 7293034 by omega⟩) hS (fun _ _ h => h) (fun _ h => h) (fun r198 M197 t H locs ht hvm hw hB _ _ hS => ?_)
        have hM : zP D vwCl tc A M197 H := by rw [← ht]; exact hB
        refine lv_istore (lv' := [(6, .int r198), (5, .int r190), (0, .ref b), (1, .ref l1), (2, .ref l2), (3, .ref l3), (4, .int l4)]) hx hb dW_law_679 hl (by decide) rfl (fun ls hl => ?_)
        refine lv_aload_n hx hb dW_law_681 rfl (lv_at hl 4 rfl) ?_
        obtain ⟨⟨fs207, h208⟩, hw⟩ := hw
        refine va_calli (va_runV (As := []) (rest := []) ⟨hx, hb, hml, hown, htb⟩ (k_M_thrown (l := l) (D := D) (tc := tc) (A := A) hw) (cw_W_77 htb ⟨Nat.le_of_ble_eq_true rfl, Nat.le_of_ble_eq_true rfl⟩) (z_preV hG hA hS hM h208 rfl) rfl rfl hl.1 rfl (lv_room (Nat.le_of_ble_eq_true rfl)) dW_law_682 ⟨show (cells + mc188) + 0 ≤ 601024 by omega, show (slots + ms189) + 0 ≤ 7293034 by omega⟩) hS (fun _ _ h => h) (fun _ h => h) (fun r200 M199 t H locs ht hvm hw hB _ _ hS => ?_)
        have hM : zP D vwCl tc A M199 H := by rw [← ht]; exact hB
        refine lv_iload hx hb dW_law_685 (lv_at hl 1 rfl) ?_
        refine lv_icmp_eq (tgt := 692) hx hb dW_law_687 (by decide) (fun hq => ?_) (fun hq => ?_)
        · have hw := hw.1 hq
          refine lv_iload hx hb dW_law_692 (lv_at hl 1 rfl) ?_
          refine lv_if_ne (tgt := 709) hx hb dW_law_694 (by decide) (fun hq => ?_) (fun hq => ?_)
          · have hw := hw.2 hq
            exact k_W_law_j709 C0 hst ih _ _ _ _ _ _ _ _ _ _ _ _ (show (cells + mc188) + (mc - mc188) ≤ 601024 by omega) (show (slots + ms189) + (ms - ms189) ≤ 7293034 by omega) hM hS (lv_sub hl [2, 3, 4, 5, 6] rfl) hw
          · have hw := hw.1 hq
            refine lv_aload_n hx hb dW_law_697 rfl (lv_at hl 5 rfl) ?_
            refine lv_iconst (v := 0) hx hb dW_law_698 (by decide +kernel) ?_
            obtain ⟨n201, f202, v203, h204, hi205, ev206, hw⟩ := hw
            refine z_lald hx hb hK hM 3 3 h204 rfl hi205 ev206 dW_law_699 ?_
            refine lv_iload hx hb dW_law_700 (lv_at hl 0 rfl) ?_
            refine lv_i2l (v := (r198.toInt64)) hx hb dW_law_702 rfl ?_
            refine W.lcmp hx hb dW_law_703 ?_
            refine lv_if_eq (tgt := 709) hx hb dW_law_704 (by decide) (fun hq => ?_) (fun hq => ?_)
            · have hw := hw.1 hq
              exact k_W_law_j709 C0 hst ih _ _ _ _ _ _ _ _ _ _ _ _ (show (cells + mc188) + (mc - mc188) ≤ 601024 by omega) (show (slots + ms189) + (ms - ms189) ≤ 7293034 by omega) hM hS (lv_sub hl [2, 3, 4, 5, 6] rfl) hw
            · have hw := hw.2 hq
              refine lv_iconst (v := 0) hx hb dW_law_707 (by decide +kernel) ?_
              exact hw.elim
        · have hw := hw.2 hq
          refine lv_iconst (v := 0) hx hb dW_law_690 (by decide +kernel) ?_
          exact hw.elim
      rcases Classical.em ((v3 &&& 15) = 9) with hq9 | hq9
      · have hw := hw.2.2.2.2.2.2.2.2.2.1 hq9
        refine lv_tableIn (off := 673) (tgt := 712) hx hb dW_law_39 (by rw [hq9]; decide) (by rw [hq9]; decide) (by rw [hq9]; rfl) (by decide) ?_
        refine lv_aload_n hx hb dW_law_712 rfl (lv_at hl 1 rfl) ?_
        refine lv_aload_n hx hb dW_law_713 rfl (lv_at hl 0 rfl) ?_
        refine lv_iload hx hb dW_law_714 (lv_at hl 4 rfl) ?_
        refine lv_iconst (v := 1) hx hb dW_law_716 (by decide +kernel) ?_
        refine lv_iadd hx hb dW_law_717 ?_
        obtain ⟨v211, hi213, ev212, hw⟩ := hw
        refine z_sld hx hb hX hbl hbA hS hi213 ev212 dW_law_718 ?_
        refine lv_aload_n hx hb dW_law_719 rfl (lv_at hl 0 rfl) ?_
        refine lv_iload hx hb dW_law_720 (lv_at hl 4 rfl) ?_
        refine lv_iconst (v := 2) hx hb dW_law_722 (by decide +kernel) ?_
        refine lv_iadd hx hb dW_law_723 ?_
        obtain ⟨v214, hi216, ev215, hw⟩ := hw
        refine z_sld hx hb hX hbl hbA hS hi216 ev215 dW_law_724 ?_
        refine lv_aload_n hx hb dW_law_725 rfl (lv_at hl 3 rfl) ?_
        obtain ⟨mc218, ms219, hbmc218, hbms219, hw⟩ := hw
        refine va_calli (vx_runSW (As := [.ref l1, .int v211, .int v214, .ref l3]) (rest := []) ⟨hx, hb, hml, hown, htb⟩ (k_W_comes (l := l) (D := D) (tc := tc) (A := A) hst hw) (cw_W_110 htb ⟨Nat.le_of_ble_eq_true rfl, Nat.le_of_ble_eq_true rfl⟩) (z_preSW hG hNc hA hS hM) rfl rfl hl.1 rfl (lv_room (Nat.le_of_ble_eq_true rfl)) dW_law_726 ⟨show cells + mc218 ≤ 601024 by omega, show slots + ms219 ≤ 7293034 by omega⟩) hS (fun _ _ h => h) (fun _ h => h) (fun r220 M217 t H locs ht hvm hw hB _ _ hS => ?_)
        have hM : zP D vwCl tc A M217 H := by rw [← ht]; exact hB
        refine lv_istore (lv' := [(5, .int r220), (0, .ref b), (1, .ref l1), (2, .ref l2), (3, .ref l3), (4, .int l4)]) hx hb dW_law_729 hl (by decide) rfl (fun ls hl => ?_)
        refine lv_aload_n hx hb dW_law_731 rfl (lv_at hl 3 rfl) ?_
        refine lv_aload_n hx hb dW_law_732 rfl (lv_at hl 1 rfl) ?_
        refine lv_iload hx hb dW_law_733 (lv_at hl 5 rfl) ?_
        refine lv_iconst (v := 1) hx hb dW_law_735 (by decide +kernel) ?_
        refine lv_iadd hx hb dW_law_736 ?_
        obtain ⟨v221, hi223, ev222, hw⟩ := hw
        refine z_sld hx hb hX hbl hbA hS hi223 ev222 dW_law_737 ?_
        refine lv_aload_n hx hb dW_law_738 rfl (lv_at hl 1 rfl) ?_
        refine lv_iload hx hb dW_law_739 (lv_at hl 5 rfl) ?_
        refine lv_iconst (v := 2) hx hb dW_law_741 (by decide +kernel) ?_
        refine lv_iadd hx hb dW_law_742 ?_
        obtain ⟨v224, hi226, ev225, hw⟩ := hw
        refine z_sld hx hb hX hbl hbA hS hi226 ev225 dW_law_743 ?_
        obtain ⟨⟨fs239, h240⟩, hw⟩ := hw
        refine va_calli (va_runV (As := [.int v221, .int v224]) (rest := []) ⟨hx, hb, hml, hown, htb⟩ (k_M_comes (l := l) (D := D) (tc := tc) (A := A) hw) (cw_W_112 htb ⟨Nat.le_of_ble_eq_true rfl, Nat.le_of_ble_eq_true rfl⟩) (z_preV hG hA hS hM h240 rfl) rfl rfl hl.1 rfl (lv_room (Nat.le_of_ble_eq_true rfl)) dW_law_744 ⟨show (cells + mc218) + 0 ≤ 601024 by omega, show (slots + ms219) + 0 ≤ 7293034 by omega⟩) hS (fun _ _ h => h) (fun _ h => h) (fun r228 M227 t H locs ht hvm hw hB _ _ hS => ?_)
        have hM : zP D vwCl tc A M227 H := by rw [← ht]; exact hB
        refine lv_istore (lv' := [(6, .int r228), (5, .int r220), (0, .ref b), (1, .ref l1), (2, .ref l2), (3, .ref l3), (4, .int l4)]) hx hb dW_law_747 hl (by decide) rfl (fun ls hl => ?_)
        refine lv_aload_n hx hb dW_law_749 rfl (lv_at hl 4 rfl) ?_
        obtain ⟨⟨fs237, h238⟩, hw⟩ := hw
        refine va_calli (va_runV (As := []) (rest := []) ⟨hx, hb, hml, hown, htb⟩ (k_M_thrown (l := l) (D := D) (tc := tc) (A := A) hw) (cw_W_77 htb ⟨Nat.le_of_ble_eq_true rfl, Nat.le_of_ble_eq_true rfl⟩) (z_preV hG hA hS hM h238 rfl) rfl rfl hl.1 rfl (lv_room (Nat.le_of_ble_eq_true rfl)) dW_law_750 ⟨show (cells + mc218) + 0 ≤ 601024 by omega, show (slots + ms219) + 0 ≤ 7293034 by omega⟩) hS (fun _ _ h => h) (fun _ h => h) (fun r230 M229 t H locs ht hvm hw hB _ _ hS => ?_)
        have hM : zP D vwCl tc A M229 H := by rw [← ht]; exact hB
        refine lv_iload hx hb dW_law_753 (lv_at hl 1 rfl) ?_
        refine lv_icmp_eq (tgt := 760) hx hb dW_law_755 (by decide) (fun hq => ?_) (fun hq => ?_)
        · have hw := hw.1 hq
          refine lv_iload hx hb dW_law_760 (lv_at hl 1 rfl) ?_
          refine lv_if_ne (tgt := 777) hx hb dW_law_762 (by decide) (fun hq => ?_) (fun hq => ?_)
          · have hw := hw.2 hq
            exact k_W_law_j777 C0 hst ih _ _ _ _ _ _ _ _ _ _ _ _ (show (cells + mc218) + (mc - mc218) ≤ 601024 by omega) (show (slots + ms219) + (ms - ms219) ≤ 7293034 by omega) hM hS (lv_sub hl [2, 3, 4, 5, 6] rfl) hw
          · have hw := hw.1 hq
            refine lv_aload_n hx hb dW_law_765 rfl (lv_at hl 5 rfl) ?_
            refine lv_iconst (v := 0) hx hb dW_law_766 (by decide +kernel) ?_
            obtain ⟨n231, f232, v233, h234, hi235, ev236, hw⟩ := hw
            refine z_lald hx hb hK hM 3 3 h234 rfl hi235 ev236 dW_law_767 ?_
            refine lv_iload hx hb dW_law_768 (lv_at hl 0 rfl) ?_
            refine lv_i2l (v := (r228.toInt64)) hx hb dW_law_770 rfl ?_
            refine W.lcmp hx hb dW_law_771 ?_
            refine lv_if_eq (tgt := 777) hx hb dW_law_772 (by decide) (fun hq => ?_) (fun hq => ?_)
            · have hw := hw.1 hq
              exact k_W_law_j777 C0 hst ih _ _ _ _ _ _ _ _ _ _ _ _ (show (cells + mc218) + (mc - mc218) ≤ 601024 by omega) (show (slots + ms219) + (ms - ms219) ≤ 7293034 by omega) hM hS (lv_sub hl [2, 3, 4, 5, 6] rfl) hw
            · have hw := hw.2 hq
              refine lv_iconst (v := 0) hx hb dW_law_775 (by decide +kernel) ?_
              exact hw.elim
        · have hw := hw.2 hq
          refine lv_iconst (v := 0) hx hb dW_law_758 (by decide +kernel) ?_
          exact hw.elim
      rcases Classical.em ((v3 &&& 15) = 10) with hq10 | hq10
      · have hw := hw.2.2.2.2.2.2.2.2.2.2.1 hq10
        refine lv_tableIn (off := 741) (tgt := 780) hx hb dW_law_39 (by rw [hq10]; decide) (by rw [hq10]; decide) (by rw [hq10]; rfl) (by decide) ?_
        refine lv_aload_n hx hb dW_law_780 rfl (lv_at hl 1 rfl) ?_
        refine lv_aload_n hx hb dW_law_781 rfl (lv_at hl 0 rfl) ?_
        refine lv_iload hx hb dW_law_782 (lv_at hl 4 rfl) ?_
        refine lv_iconst (v := 1) hx hb dW_law_784 (by decide +kernel) ?_
        refine lv_iadd hx hb dW_law_785 ?_
        obtain ⟨v241, hi243, ev242, hw⟩ := hw
        refine z_sld hx hb hX hbl hbA hS hi243 ev242 dW_law_786 ?_
        refine lv_aload_n hx hb dW_law_787 rfl (lv_at hl 0 rfl) ?_
        refine lv_iload hx hb dW_law_788 (lv_at hl 4 rfl) ?_
        refine lv_iconst (v := 2) hx hb dW_law_790 (by decide +kernel) ?_
        refine lv_iadd hx hb dW_law_791 ?_
        obtain ⟨v244, hi246, ev245, hw⟩ := hw
        refine z_sld hx hb hX hbl hbA hS hi246 ev245 dW_law_792 ?_
        refine lv_aload_n hx hb dW_law_793 rfl (lv_at hl 3 rfl) ?_
        obtain ⟨mc248, ms249, hbmc248, hbms249, hw⟩ := hw
        refine va_calli (vx_runSW (As := [.ref l1, .int v241, .int v244, .ref l3]) (rest := []) ⟨hx, hb, hml, hown, htb⟩ (k_W_reached (l := l) (D := D) (tc := tc) (A := A) hst hw) (cw_W_113 htb ⟨Nat.le_of_ble_eq_true rfl, Nat.le_of_ble_eq_true rfl⟩) (z_preSW hG hNc hA hS hM) rfl rfl hl.1 rfl (lv_room (Nat.le_of_ble_eq_true rfl)) dW_law_794 ⟨show cells + mc248 ≤ 601024 by omega, show slots + ms249 ≤ 7293034 by omega⟩) hS (fun _ _ h => h) (fun _ h => h) (fun r250 M247 t H locs ht hvm hw hB _ _ hS => ?_)
        have hM : zP D vwCl tc A M247 H := by rw [← ht]; exact hB
        refine lv_istore (lv' := [(5, .int r250), (0, .ref b), (1, .ref l1), (2, .ref l2), (3, .ref l3), (4, .int l4)]) hx hb dW_law_797 hl (by decide) rfl (fun ls hl => ?_)
        refine lv_aload_n hx hb dW_law_799 rfl (lv_at hl 3 rfl) ?_
        refine lv_aload_n hx hb dW_law_800 rfl (lv_at hl 1 rfl) ?_
        refine lv_iload hx hb dW_law_801 (lv_at hl 5 rfl) ?_
        refine lv_iconst (v := 1) hx hb dW_law_803 (by decide +kernel) ?_
        refine lv_iadd hx hb dW_law_804 ?_
        obtain ⟨v251, hi253, ev252, hw⟩ := hw
        refine z_sld hx hb hX hbl hbA hS hi253 ev252 dW_law_805 ?_
        refine lv_aload_n hx hb dW_law_806 rfl (lv_at hl 1 rfl) ?_
        refine lv_iload hx hb dW_law_807 (lv_at hl 5 rfl) ?_
        refine lv_iconst (v := 2) hx hb dW_law_809 (by decide +kernel) ?_
        refine lv_iadd hx hb dW_law_810 ?_
        obtain ⟨v254, hi256, ev255, hw⟩ := hw
        refine z_sld hx hb hX hbl hbA hS hi256 ev255 dW_law_811 ?_
        obtain ⟨⟨fs269, h270⟩, hw⟩ := hw
        refine va_calli (va_runV (As := [.int v251, .int v254]) (rest := []) ⟨hx, hb, hml, hown, htb⟩ (k_M_reached (l := l) (D := D) (tc := tc) (A := A) hw) (cw_W_115 htb ⟨Nat.le_of_ble_eq_true rfl, Nat.le_of_ble_eq_true rfl⟩) (z_preV hG hA hS hM h270 rfl) rfl rfl hl.1 rfl (lv_room (Nat.le_of_ble_eq_true rfl)) dW_law_812 ⟨show (cells + mc248) + 0 ≤ 601024 by omega, show (slots + ms249) + 0 ≤ 7293034 by omega⟩) hS (fun _ _ h => h) (fun _ h => h) (fun r258 M257 t H locs ht hvm hw hB _ _ hS => ?_)
        have hM : zP D vwCl tc A M257 H := by rw [← ht]; exact hB
        refine lv_istore (lv' := [(6, .int r258), (5, .int r250), (0, .ref b), (1, .ref l1), (2, .ref l2), (3, .ref l3), (4, .int l4)]) hx hb dW_law_815 hl (by decide) rfl (fun ls hl => ?_)
        refine lv_aload_n hx hb dW_law_817 rfl (lv_at hl 4 rfl) ?_
        obtain ⟨⟨fs267, h268⟩, hw⟩ := hw
        refine va_calli (va_runV (As := []) (rest := []) ⟨hx, hb, hml, hown, htb⟩ (k_M_thrown (l := l) (D := D) (tc := tc) (A := A) hw) (cw_W_77 htb ⟨Nat.le_of_ble_eq_true rfl, Nat.le_of_ble_eq_true rfl⟩) (z_preV hG hA hS hM h268 rfl) rfl rfl hl.1 rfl (lv_room (Nat.le_of_ble_eq_true rfl)) dW_law_818 ⟨show (cells + mc248) + 0 ≤ 601024 by omega, show (slots + ms249) + 0 ≤ 7293034 by omega⟩) hS (fun _ _ h => h) (fun _ h => h) (fun r260 M259 t H locs ht hvm hw hB _ _ hS => ?_)
        have hM : zP D vwCl tc A M259 H := by rw [← ht]; exact hB
        refine lv_iload hx hb dW_law_821 (lv_at hl 1 rfl) ?_
        refine lv_icmp_eq (tgt := 828) hx hb dW_law_823 (by decide) (fun hq => ?_) (fun hq => ?_)
        · have hw := hw.1 hq
          refine lv_iload hx hb dW_law_828 (lv_at hl 1 rfl) ?_
          refine lv_if_ne (tgt := 845) hx hb dW_law_830 (by decide) (fun hq => ?_) (fun hq => ?_)
          · have hw := hw.2 hq
            exact k_W_law_j845 C0 hst ih _ _ _ _ _ _ _ _ _ _ _ _ (show (cells + mc248) + (mc - mc248) ≤ 601024 by omega) (show (slots + ms249) + (ms - ms249) ≤ 7293034 by omega) hM hS (lv_sub hl [2, 3, 4, 5, 6] rfl) hw
          · have hw := hw.1 hq
            refine lv_aload_n hx hb dW_law_833 rfl (lv_at hl 5 rfl) ?_
            refine lv_iconst (v := 0) hx hb dW_law_834 (by decide +kernel) ?_
            obtain ⟨n261, f262, v263, h264, hi265, ev266, hw⟩ := hw
            refine z_lald hx hb hK hM 3 3 h264 rfl hi265 ev266 dW_law_835 ?_
            refine lv_iload hx hb dW_law_836 (lv_at hl 0 rfl) ?_
            refine lv_i2l (v := (r258.toInt64)) hx hb dW_law_838 rfl ?_
            refine W.lcmp hx hb dW_law_839 ?_
            refine lv_if_eq (tgt := 845) hx hb dW_law_840 (by decide) (fun hq => ?_) (fun hq => ?_)
            · have hw := hw.1 hq
              exact k_W_law_j845 C0 hst ih _ _ _ _ _ _ _ _ _ _ _ _ (show (cells + mc248) + (mc - mc248) ≤ 601024 by omega) (show (slots + ms249) + (ms - ms249) ≤ 7293034 by omega) hM hS (lv_sub hl [2, 3, 4, 5, 6] rfl) hw
            · have hw := hw.2 hq
              refine lv_iconst (v := 0) hx hb dW_law_843 (by decide +kernel) ?_
              exact hw.elim
        · have hw := hw.2 hq
          refine lv_iconst (v := 0) hx hb dW_law_826 (by decide +kernel) ?_
          exact hw.elim
      rcases Classical.em ((v3 &&& 15) = 11) with hq11 | hq11
      · have hw := hw.2.2.2.2.2.2.2.2.2.2.2.1 hq11
        refine lv_tableIn (off := 809) (tgt := 848) hx hb dW_law_39 (by rw [hq11]; decide) (by rw [hq11]; decide) (by rw [hq11]; rfl) (by decide) ?_
        refine lv_aload_n hx hb dW_law_848 rfl (lv_at hl 1 rfl) ?_
        refine lv_aload_n hx hb dW_law_849 rfl (lv_at hl 0 rfl) ?_
        refine lv_iload hx hb dW_law_850 (lv_at hl 4 rfl) ?_
        refine lv_iconst (v := 1) hx hb dW_law_852 (by decide +kernel) ?_
        refine lv_iadd hx hb dW_law_853 ?_
        obtain ⟨v271, hi273, ev272, hw⟩ := hw
        refine z_sld hx hb hX hbl hbA hS hi273 ev272 dW_law_854 ?_
        refine lv_aload_n hx hb dW_law_855 rfl (lv_at hl 0 rfl) ?_
        refine lv_iload hx hb dW_law_856 (lv_at hl 4 rfl) ?_
        refine lv_iconst (v := 2) hx hb dW_law_858 (by decide +kernel) ?_
        refine lv_iadd hx hb dW_law_859 ?_
        obtain ⟨v274, hi276, ev275, hw⟩ := hw
        refine z_sld hx hb hX hbl hbA hS hi276 ev275 dW_law_860 ?_
        refine lv_aload_n hx hb dW_law_861 rfl (lv_at hl 3 rfl) ?_
        obtain ⟨mc278, ms279, hbmc278, hbms279, hw⟩ := hw
        refine va_calli (vx_runSW (As := [.ref l1, .int v271, .int v274, .ref l3]) (rest := []) ⟨hx, hb, hml, hown, htb⟩ (k_W_share (l := l) (D := D) (tc := tc) (A := A) hst hw) (cw_W_116 htb ⟨Nat.le_of_ble_eq_true rfl, Nat.le_of_ble_eq_true rfl⟩) (z_preSW hG hNc hA hS hM) rfl rfl hl.1 rfl (lv_room (Nat.le_of_ble_eq_true rfl)) dW_law_862 ⟨show cells + mc278 ≤ 601024 by omega, show slots + ms279 ≤ 7293034 by omega⟩) hS (fun _ _ h => h) (fun _ h => h) (fun r280 M277 t H locs ht hvm hw hB _ _ hS => ?_)
        have hM : zP D vwCl tc A M277 H := by rw [← ht]; exact hB
        refine lv_istore (lv' := [(5, .int r280), (0, .ref b), (1, .ref l1), (2, .ref l2), (3, .ref l3), (4, .int l4)]) hx hb dW_law_865 hl (by decide) rfl (fun ls hl => ?_)
        refine lv_aload_n hx hb dW_law_867 rfl (lv_at hl 3 rfl) ?_
        refine lv_aload_n hx hb dW_law_868 rfl (lv_at hl 1 rfl) ?_
        refine lv_iload hx hb dW_law_869 (lv_at hl 5 rfl) ?_
        refine lv_iconst (v := 1) hx hb dW_law_871 (by decide +kernel) ?_
        refine lv_iadd hx hb dW_law_872 ?_
        obtain ⟨v281, hi283, ev282, hw⟩ := hw
        refine z_sld hx hb hX hbl hbA hS hi283 ev282 dW_law_873 ?_
        refine lv_aload_n hx hb dW_law_874 rfl (lv_at hl 1 rfl) ?_
        refine lv_iload hx hb dW_law_875 (lv_at hl 5 rfl) ?_
        refine lv_iconst (v := 2) hx hb dW_law_877 (by decide +kernel) ?_
        refine lv_iadd hx hb dW_law_878 ?_
        obtain ⟨v284, hi286, ev285, hw⟩ := hw
        refine z_sld hx hb hX hbl hbA hS hi286 ev285 dW_law_879 ?_
        obtain ⟨⟨fs299, h300⟩, hw⟩ := hw
        refine va_calli (va_runV (As := [.int v281, .int v284]) (rest := []) ⟨hx, hb, hml, hown, htb⟩ (k_M_share (l := l) (D := D) (tc := tc) (A := A) hw) (cw_W_118 htb ⟨Nat.le_of_ble_eq_true rfl, Nat.le_of_ble_eq_true rfl⟩) (z_preV hG hA hS hM h300 rfl) rfl rfl hl.1 rfl (lv_room (Nat.le_of_ble_eq_true rfl)) dW_law_880 ⟨show (cells + mc278) + 0 ≤ 601024 by omega, show (slots + ms279) + 0 ≤ 7293034 by omega⟩) hS (fun _ _ h => h) (fun _ h => h) (fun r288 M287 t H locs ht hvm hw hB _ _ hS => ?_)
        have hM : zP D vwCl tc A M287 H := by rw [← ht]; exact hB
        refine lv_istore (lv' := [(6, .int r288), (5, .int r280), (0, .ref b), (1, .ref l1), (2, .ref l2), (3, .ref l3), (4, .int l4)]) hx hb dW_law_883 hl (by decide) rfl (fun ls hl => ?_)
        refine lv_aload_n hx hb dW_law_885 rfl (lv_at hl 4 rfl) ?_
        obtain ⟨⟨fs297, h298⟩, hw⟩ := hw
        refine va_calli (va_runV (As := []) (rest := []) ⟨hx, hb, hml, hown, htb⟩ (k_M_thrown (l := l) (D := D) (tc := tc) (A := A) hw) (cw_W_77 htb ⟨Nat.le_of_ble_eq_true rfl, Nat.le_of_ble_eq_true rfl⟩) (z_preV hG hA hS hM h298 rfl) rfl rfl hl.1 rfl (lv_room (Nat.le_of_ble_eq_true rfl)) dW_law_886 ⟨show (cells + mc278) + 0 ≤ 601024 by omega, show (slots + ms279) + 0 ≤ 7293034 by omega⟩) hS (fun _ _ h => h) (fun _ h => h) (fun r290 M289 t H locs ht hvm hw hB _ _ hS => ?_)
        have hM : zP D vwCl tc A M289 H := by rw [← ht]; exact hB
        refine lv_iload hx hb dW_law_889 (lv_at hl 1 rfl) ?_
        refine lv_icmp_eq (tgt := 896) hx hb dW_law_891 (by decide) (fun hq => ?_) (fun hq => ?_)
        · have hw := hw.1 hq
          refine lv_iload hx hb dW_law_896 (lv_at hl 1 rfl) ?_
          refine lv_if_ne (tgt := 913) hx hb dW_law_898 (by decide) (fun hq => ?_) (fun hq => ?_)
          · have hw := hw.2 hq
            exact k_W_law_j913 C0 hst ih _ _ _ _ _ _ _ _ _ _ _ _ (show (cells + mc278) + (mc - mc278) ≤ 601024 by omega) (show (slots + ms279) + (ms - ms279) ≤ 7293034 by omega) hM hS (lv_sub hl [2, 3, 4, 5, 6] rfl) hw
          · have hw := hw.1 hq
            refine lv_aload_n hx hb dW_law_901 rfl (lv_at hl 5 rfl) ?_
            refine lv_iconst (v := 0) hx hb dW_law_902 (by decide +kernel) ?_
            obtain ⟨n291, f292, v293, h294, hi295, ev296, hw⟩ := hw
            refine z_lald hx hb hK hM 3 3 h294 rfl hi295 ev296 dW_law_903 ?_
            refine lv_iload hx hb dW_law_904 (lv_at hl 0 rfl) ?_
            refine lv_i2l (v := (r288.toInt64)) hx hb dW_law_906 rfl ?_
            refine W.lcmp hx hb dW_law_907 ?_
            refine lv_if_eq (tgt := 913) hx hb dW_law_908 (by decide) (fun hq => ?_) (fun hq => ?_)
            · have hw := hw.1 hq
              exact k_W_law_j913 C0 hst ih _ _ _ _ _ _ _ _ _ _ _ _ (show (cells + mc278) + (mc - mc278) ≤ 601024 by omega) (show (slots + ms279) + (ms - ms279) ≤ 7293034 by omega) hM hS (lv_sub hl [2, 3, 4, 5, 6] rfl) hw
            · have hw := hw.2 hq
              refine lv_iconst (v := 0) hx hb dW_law_911 (by decide +kernel) ?_
              exact hw.elim
        · have hw := hw.2 hq
          refine lv_iconst (v := 0) hx hb dW_law_894 (by decide +kernel) ?_
          exact hw.elim
      rcases Classical.em ((v3 &&& 15) = 12) with hq12 | hq12
      · have hw := hw.2.2.2.2.2.2.2.2.2.2.2.2.1 hq12
        refine lv_tableIn (off := 877) (tgt := 916) hx hb dW_law_39 (by rw [hq12]; decide) (by rw [hq12]; decide) (by rw [hq12]; rfl) (by decide) ?_
        refine lv_aload_n hx hb dW_law_916 rfl (lv_at hl 1 rfl) ?_
        refine lv_aload_n hx hb dW_law_917 rfl (lv_at hl 0 rfl) ?_
        refine lv_iload hx hb dW_law_918 (lv_at hl 4 rfl) ?_
        refine lv_iconst (v := 1) hx hb dW_law_920 (by decide +kernel) ?_
        refine lv_iadd hx hb dW_law_921 ?_
        obtain ⟨v301, hi303, ev302, hw⟩ := hw
        refine z_sld hx hb hX hbl hbA hS hi303 ev302 dW_law_922 ?_
        refine lv_aload_n hx hb dW_law_923 rfl (lv_at hl 3 rfl) ?_
        obtain ⟨mc305, ms306, hbmc305, hbms306, hw⟩ := hw
        refine va_calli (vx_runSW (As := [.ref l1, .int v301, .ref l3]) (rest := []) ⟨hx, hb, hml, hown, htb⟩ (k_W_never (l := l) (D := D) (tc := tc) (A := A) hst hw) (cw_W_119 htb ⟨Nat.le_of_ble_eq_true rfl, Nat.le_of_ble_eq_true rfl⟩) (z_preSW hG hNc hA hS hM) rfl rfl hl.1 rfl (lv_room (Nat.le_of_ble_eq_true rfl)) dW_law_924 ⟨show cells + mc305 ≤ 601024 by omega, show slots + ms306 ≤ 7293034 by omega⟩) hS (fun _ _ h => h) (fun _ h => h) (fun r307 M304 t H locs ht hvm hw hB _ _ hS => ?_)
        have hM : zP D vwCl tc A M304 H := by rw [← ht]; exact hB
        refine lv_istore (lv' := [(5, .int r307), (0, .ref b), (1, .ref l1), (2, .ref l2), (3, .ref l3), (4, .int l4)]) hx hb dW_law_927 hl (by decide) rfl (fun ls hl => ?_)
        refine lv_aload_n hx hb dW_law_929 rfl (lv_at hl 3 rfl) ?_
        refine lv_aload_n hx hb dW_law_930 rfl (lv_at hl 1 rfl) ?_
        refine lv_iload hx hb dW_law_931 (lv_at hl 5 rfl) ?_
        refine lv_iconst (v := 1) hx hb dW_law_933 (by decide +kernel) ?_
        refine lv_iadd hx hb dW_law_934 ?_
        obtain ⟨v308, hi310, ev309, hw⟩ := hw
        refine z_sld hx hb hX hbl hbA hS hi310 ev309 dW_law_935 ?_
        obtain ⟨⟨fs323, h324⟩, hw⟩ := hw
        refine va_calli (va_runV (As := [.int v308]) (rest := []) ⟨hx, hb, hml, hown, htb⟩ (k_M_never (l := l) (D := D) (tc := tc) (A := A) hw) (cw_W_121 htb ⟨Nat.le_of_ble_eq_true rfl, Nat.le_of_ble_eq_true rfl⟩) (z_preV hG hA hS hM h324 rfl) rfl rfl hl.1 rfl (lv_room (Nat.le_of_ble_eq_true rfl)) dW_law_936 ⟨show (cells + mc305) + 0 ≤ 601024 by omega, show (slots + ms306) + 0 ≤ 7293034 by omega⟩) hS (fun _ _ h => h) (fun _ h => h) (fun r312 M311 t H locs ht hvm hw hB _ _ hS => ?_)
        have hM : zP D vwCl tc A M311 H := by rw [← ht]; exact hB
        refine lv_istore (lv' := [(6, .int r312), (5, .int r307), (0, .ref b), (1, .ref l1), (2, .ref l2), (3, .ref l3), (4, .int l4)]) hx hb dW_law_939 hl (by decide) rfl (fun ls hl => ?_)
        refine lv_aload_n hx hb dW_law_941 rfl (lv_at hl 4 rfl) ?_
        obtain ⟨⟨fs321, h322⟩, hw⟩ := hw
        refine va_calli (va_runV (As := []) (rest := []) ⟨hx, hb, hml, hown, htb⟩ (k_M_thrown (l := l) (D := D) (tc := tc) (A := A) hw) (cw_W_77 htb ⟨Nat.le_of_ble_eq_true rfl, Nat.le_of_ble_eq_true rfl⟩) (z_preV hG hA hS hM h322 rfl) rfl rfl hl.1 rfl (lv_room (Nat.le_of_ble_eq_true rfl)) dW_law_942 ⟨show (cells + mc305) + 0 ≤ 601024 by omega, show (slots + ms306) + 0 ≤ 7293034 by omega⟩) hS (fun _ _ h => h) (fun _ h => h) (fun r314 M313 t H locs ht hvm hw hB _ _ hS => ?_)
        have hM : zP D vwCl tc A M313 H := by rw [← ht]; exact hB
        refine lv_iload hx hb dW_law_945 (lv_at hl 1 rfl) ?_
        refine lv_icmp_eq (tgt := 952) hx hb dW_law_947 (by decide) (fun hq => ?_) (fun hq => ?_)
        · have hw := hw.1 hq
          refine lv_iload hx hb dW_law_952 (lv_at hl 1 rfl) ?_
          refine lv_if_ne (tgt := 969) hx hb dW_law_954 (by decide) (fun hq => ?_) (fun hq => ?_)
          · have hw := hw.2 hq
            exact k_W_law_j969 C0 hst ih _ _ _ _ _ _ _ _ _ _ _ _ (show (cells + mc305) + (mc - mc305) ≤ 601024 by omega) (show (slots + ms306) + (ms - ms306) ≤ 7293034 by omega) hM hS (lv_sub hl [2, 3, 4, 5, 6] rfl) hw
          · have hw := hw.1 hq
            refine lv_aload_n hx hb dW_law_957 rfl (lv_at hl 5 rfl) ?_
            refine lv_iconst (v := 0) hx hb dW_law_958 (by decide +kernel) ?_
            obtain ⟨n315, f316, v317, h318, hi319, ev320, hw⟩ := hw
            refine z_lald hx hb hK hM 3 3 h318 rfl hi319 ev320 dW_law_959 ?_
            refine lv_iload hx hb dW_law_960 (lv_at hl 0 rfl) ?_
            refine lv_i2l (v := (r312.toInt64)) hx hb dW_law_962 rfl ?_
            refine W.lcmp hx hb dW_law_963 ?_
            refine lv_if_eq (tgt := 969) hx hb dW_law_964 (by decide) (fun hq => ?_) (fun hq => ?_)
            · have hw := hw.1 hq
              exact k_W_law_j969 C0 hst ih _ _ _ _ _ _ _ _ _ _ _ _ (show (cells + mc305) + (mc - mc305) ≤ 601024 by omega) (show (slots + ms306) + (ms - ms306) ≤ 7293034 by omega) hM hS (lv_sub hl [2, 3, 4, 5, 6] rfl) hw
            · have hw := hw.2 hq
              refine lv_iconst (v := 0) hx hb dW_law_967 (by decide +kernel) ?_
              exact hw.elim
        · have hw := hw.2 hq
          refine lv_iconst (v := 0) hx hb dW_law_950 (by decide +kernel) ?_
          exact hw.elim
      rcases Classical.em ((v3 &&& 15) = 13) with hq13 | hq13
      · have hw := hw.2.2.2.2.2.2.2.2.2.2.2.2.2.1 hq13
        refine lv_tableIn (off := 933) (tgt := 972) hx hb dW_law_39 (by rw [hq13]; decide) (by rw [hq13]; decide) (by rw [hq13]; rfl) (by decide) ?_
        refine lv_aload_n hx hb dW_law_972 rfl (lv_at hl 1 rfl) ?_
        refine lv_aload_n hx hb dW_law_973 rfl (lv_at hl 0 rfl) ?_
        refine lv_iload hx hb dW_law_974 (lv_at hl 4 rfl) ?_
        refine lv_iconst (v := 1) hx hb dW_law_976 (by decide +kernel) ?_
        refine lv_iadd hx hb dW_law_977 ?_
        obtain ⟨v325, hi327, ev326, hw⟩ := hw
        refine z_sld hx hb hX hbl hbA hS hi327 ev326 dW_law_978 ?_
        refine lv_aload_n hx hb dW_law_979 rfl (lv_at hl 3 rfl) ?_
        obtain ⟨mc329, ms330, hbmc329, hbms330, hw⟩ := hw
        refine va_calli (vx_runSW (As := [.ref l1, .int v325, .ref l3]) (rest := []) ⟨hx, hb, hml, hown, htb⟩ (k_W_count (l := l) (D := D) (tc := tc) (A := A) hst hw) (cw_W_122 htb ⟨Nat.le_of_ble_eq_true rfl, Nat.le_of_ble_eq_true rfl⟩) (z_preSW hG hNc hA hS hM) rfl rfl hl.1 rfl (lv_room (Nat.le_of_ble_eq_true rfl)) dW_law_980 ⟨show cells + mc329 ≤ 601024 by omega, show slots + ms330 ≤ 7293034 by omega⟩) hS (fun _ _ h => h) (fun _ h => h) (fun r331 M328 t H locs ht hvm hw hB _ _ hS => ?_)
        have hM : zP D vwCl tc A M328 H := by rw [← ht]; exact hB
        refine lv_istore (lv' := [(5, .int r331), (0, .ref b), (1, .ref l1), (2, .ref l2), (3, .ref l3), (4, .int l4)]) hx hb dW_law_983 hl (by decide) rfl (fun ls hl => ?_)
        refine lv_aload_n hx hb dW_law_985 rfl (lv_at hl 3 rfl) ?_
        refine lv_aload_n hx hb dW_law_986 rfl (lv_at hl 1 rfl) ?_
        refine lv_iload hx hb dW_law_987 (lv_at hl 5 rfl) ?_
        refine lv_iconst (v := 1) hx hb dW_law_989 (by decide +kernel) ?_
        refine lv_iadd hx hb dW_law_990 ?_
        obtain ⟨v332, hi334, ev333, hw⟩ := hw
        refine z_sld hx hb hX hbl hbA hS hi334 ev333 dW_law_991 ?_
        obtain ⟨⟨fs347, h348⟩, hw⟩ := hw
        refine va_calli (va_runV (As := [.int v332]) (rest := []) ⟨hx, hb, hml, hown, htb⟩ (k_M_count (l := l) (D := D) (tc := tc) (A := A) hw) (cw_W_124 htb ⟨Nat.le_of_ble_eq_true rfl, Nat.le_of_ble_eq_true rfl⟩) (z_preV hG hA hS hM h348 rfl) rfl rfl hl.1 rfl (lv_room (Nat.le_of_ble_eq_true rfl)) dW_law_992 ⟨show (cells + mc329) + 0 ≤ 601024 by omega, show (slots + ms330) + 0 ≤ 7293034 by omega⟩) hS (fun _ _ h => h) (fun _ h => h) (fun r336 M335 t H locs ht hvm hw hB _ _ hS => ?_)
        have hM : zP D vwCl tc A M335 H := by rw [← ht]; exact hB
        refine lv_istore (lv' := [(6, .int r336), (5, .int r331), (0, .ref b), (1, .ref l1), (2, .ref l2), (3, .ref l3), (4, .int l4)]) hx hb dW_law_995 hl (by decide) rfl (fun ls hl => ?_)
        refine lv_aload_n hx hb dW_law_997 rfl (lv_at hl 4 rfl) ?_
        obtain ⟨⟨fs345, h346⟩, hw⟩ := hw
        refine va_calli (va_runV (As := []) (rest := []) ⟨hx, hb, hml, hown, htb⟩ (k_M_thrown (l := l) (D := D) (tc := tc) (A := A) hw) (cw_W_77 htb ⟨Nat.le_of_ble_eq_true rfl, Nat.le_of_ble_eq_true rfl⟩) (z_preV hG hA hS hM h346 rfl) rfl rfl hl.1 rfl (lv_room (Nat.le_of_ble_eq_true rfl)) dW_law_998 ⟨show (cells + mc329) + 0 ≤ 601024 by omega, show (slots + ms330) + 0 ≤ 7293034 by omega⟩) hS (fun _ _ h => h) (fun _ h => h) (fun r338 M337 t H locs ht hvm hw hB _ _ hS => ?_)
        have hM : zP D vwCl tc A M337 H := by rw [← ht]; exact hB
        refine lv_iload hx hb dW_law_1001 (lv_at hl 1 rfl) ?_
        refine lv_icmp_eq (tgt := 1008) hx hb dW_law_1003 (by decide) (fun hq => ?_) (fun hq => ?_)
        · have hw := hw.1 hq
          refine lv_iload hx hb dW_law_1008 (lv_at hl 1 rfl) ?_
          refine lv_if_ne (tgt := 1025) hx hb dW_law_1010 (by decide) (fun hq => ?_) (fun hq => ?_)
          · have hw := hw.2 hq
            exact k_W_law_j1025 C0 hst ih _ _ _ _ _ _ _ _ _ _ _ _ (show (cells + mc329) + (mc - mc329) ≤ 601024 by omega) (show (slots + ms330) + (ms - ms330) ≤ 7293034 by omega) hM hS (lv_sub hl [2, 3, 4, 5, 6] rfl) hw
          · have hw := hw.1 hq
            refine lv_aload_n hx hb dW_law_1013 rfl (lv_at hl 5 rfl) ?_
            refine lv_iconst (v := 0) hx hb dW_law_1014 (by decide +kernel) ?_
            obtain ⟨n339, f340, v341, h342, hi343, ev344, hw⟩ := hw
            refine z_lald hx hb hK hM 3 3 h342 rfl hi343 ev344 dW_law_1015 ?_
            refine lv_iload hx hb dW_law_1016 (lv_at hl 0 rfl) ?_
            refine lv_i2l (v := (r336.toInt64)) hx hb dW_law_1018 rfl ?_
            refine W.lcmp hx hb dW_law_1019 ?_
            refine lv_if_eq (tgt := 1025) hx hb dW_law_1020 (by decide) (fun hq => ?_) (fun hq => ?_)
            · have hw := hw.1 hq
              exact k_W_law_j1025 C0 hst ih _ _ _ _ _ _ _ _ _ _ _ _ (show (cells + mc329) + (mc - mc329) ≤ 601024 by omega) (show (slots + ms330) + (ms - ms330) ≤ 7293034 by omega) hM hS (lv_sub hl [2, 3, 4, 5, 6] rfl) hw
            · have hw := hw.2 hq
              refine lv_iconst (v := 0) hx hb dW_law_1023 (by decide +kernel) ?_
              exact hw.elim
        · have hw := hw.2 hq
          refine lv_iconst (v := 0) hx hb dW_law_1006 (by decide +kernel) ?_
          exact hw.elim
      have hw := hw.2.2.2.2.2.2.2.2.2.2.2.2.2.2 hq0 hq1 hq2 hq3 hq4 hq5 hq6 hq7 hq8 hq9 hq10 hq11 hq12 hq13
      refine lv_tableOut (tgt := 1028) hx hb dW_law_39 (by have h9 := z_tsw (x := (v3 &&& 15)) (n := 14) (by decide) (fun k hk => match k, hk with | 0, _ => hq0 | 1, _ => hq1 | 2, _ => hq2 | 3, _ => hq3 | 4, _ => hq4 | 5, _ => hq5 | 6, _ => hq6 | 7, _ => hq7 | 8, _ => hq8 | 9, _ => hq9 | 10, _ => hq10 | 11, _ => hq11 | 12, _ => hq12 | 13, _ => hq13 | k + 14, h => absurd h (by omega)); omega) (by decide) ?_
      exact k_W_law_j1028 C0 hst ih _ _ _ _ _ _ _ _ _ _ _ _ (show cells + mc ≤ 601024 by omega) (show slots + ms ≤ 7293034 by omega) hM hS (lv_sub hl [0, 1, 2, 3, 4] rfl) hw
def w_W_law (e0 L : Nat) (xs : Nat → Int32) (mc ms : Nat) (M : zM) : Prop := wNO M 0 [.null, .null, .null, .int 0, .int 0, .int 0, .int 0] 7 mc ms (fun q1 M5 => ∃ mc7 ms8 : Nat, mc7 ≤ (mc - 1) ∧ ms8 ≤ (ms - 7) ∧ w_A_init e0 (fun M6 => wNO M6 4 [.int 0, .int 0, .int 0, .null, .null, .null, .int 0, .null, .null, .null, .null, .null, .int 0, .null, .null, .null, .null, .null, .null, .null, .null, .null, .int 0, .int 0, .int 0] 25 ((mc - 1) - mc7) ((ms - 7) - ms8) (fun q9 M13 => ∃ mc15 ms16 : Nat, mc15 ≤ (((mc - 1) - mc7) - 1) ∧ ms16 ≤ (((ms - 7) - ms8) - 25) ∧ w_M_init e0 (fun M14 => wNJ M14 3 1 1 8 ((((mc - 1) - mc7) - 1) - mc15) ((((ms - 7) - ms8) - 25) - ms16) (fun q17 M23 => ∃ nn, w_W_law_j23 e0 L xs nn (((((mc - 1) - mc7) - 1) - mc15) - 1) (((((ms - 7) - ms8) - 25) - ms16) - 1) M23 q1 q9 q17 0)) mc15 ms16 M13 q9)) mc7 ms8 M5 q1)
set_option maxHeartbeats 4000000 in
set_option maxRecDepth 100000 in
theorem k_W_law {p : Program} {l : Launch} {e : Env} {s : State} {m : MethodId} {below : List Frame} {meth : Method} {c : Code} {D : va_G} {tc : Nat → ClassId} {A : Nat → Prop} {b L : Nat} {xs : Nat → Int32} (C0 : zL D tc A p s m meth c b L xs) (hst : l.stackTraces = false) (hw : w_W_law (tc 9) L xs 601024 7293034 (fun _ => none)) : W p l e room_1 s m #[Value.ref b] below meth c s.heap [] 0 0 (lw_Z below #[Value.ref b] s) (entryFrame m ([Value.ref b] : List Value).toArray 7) := by
  obtain ⟨hx, hb, hml, hr, hown, htb, hlk, hA, hG, hNc, hX, hbl, hbA, hAq⟩ := id C0
  have hK := hG.1
  have hS : va_S A s.heap s.heap [] := va_S.rf
  have hM : zP D vwCl tc A (fun _ => none) s.heap := z_empty
  have hl := lv_entry ([.ref b]) (n := 7) (Nat.le_of_ble_eq_true rfl)
  rw [lg_entry_eq]
  generalize (lg_sl ([.ref b]) ++ List.replicate (7 - (lg_sl ([.ref b])).length) Slot.unset).toArray = ls at hl ⊢
  have hl : lv_has ls 7 [(0, .ref b)] := hl
  obtain ⟨h2, h3, hw⟩ := hw
  refine z_newO (ci := 0) (fs := [.null, .null, .null, .int 0, .int 0, .int 0, .int 0]) hx hb htb inw_A ty_A tyok_A hown (htb _ t_23) (htb _ t_24) (htb _ t_1) hK hM hS hA rfl defok_A (show 0 + 1 ≤ 601024 by omega) (show 0 + 7 ≤ 7293034 by omega) dW_law_0 (fun q1 H hn4 hM hS => ?_)
  have hw := hw q1 hn4
  refine lv_dup hx hb dW_law_3 rfl ?_
  obtain ⟨mc7, ms8, hbmc7, hbms8, hw⟩ := hw
  refine va_callv (va_runI (As := []) (rest := [.ref q1]) ⟨hx, hb, hml, hown, htb⟩ (k_A_init (l := l) (D := D) (tc := tc) (A := A) hw) (cw_W_67 htb ⟨Nat.le_of_ble_eq_true rfl, Nat.le_of_ble_eq_true rfl⟩) (z_preS hG hA hS hM) rfl rfl hl.1 rfl (lv_room (Nat.le_of_ble_eq_true rfl)) dW_law_4 ⟨show (0 + 1) + mc7 ≤ 601024 by omega, show (0 + 7) + ms8 ≤ 7293034 by omega⟩) hS (fun _ _ h => h) (fun _ h => h) (fun M6 t H locs ht hvm hw hB _ _ hS => ?_)
  have hM : zP D vwCl tc A M6 H := by rw [← ht]; exact hB
  refine lv_astore_n (lv' := [(1, .ref q1), (0, .ref b)]) hx hb dW_law_7 rfl hl (by decide) rfl (fun ls hl => ?_)
  obtain ⟨h10, h11, hw⟩ := hw
  refine z_newO (ci := 4) (fs := [.int 0, .int 0, .int 0, .null, .null, .null, .int 0, .null, .null, .null, .null, .null, .int 0, .null, .null, .null, .null, .null, .null, .null, .null, .null, .int 0, .int 0, .int 0]) hx hb htb inw_M ty_M tyok_M hown (htb _ t_645) (htb _ t_646) (htb _ t_5) hK hM hS hA rfl defok_M (show ((0 + 1) + mc7) + 1 ≤ 601024 by omega) (show ((0 + 7) + ms8) + 25 ≤ 7293034 by omega) dW_law_8 (fun q9 H hn12 hM hS => ?_)
  have hw := hw q9 hn12
  refine lv_dup hx hb dW_law_11 rfl ?_
  obtain ⟨mc15, ms16, hbmc15, hbms16, hw⟩ := hw
  refine va_callv (va_runI (As := []) (rest := [.ref q9]) ⟨hx, hb, hml, hown, htb⟩ (k_M_init (l := l) (D := D) (tc := tc) (A := A) hw) (cw_W_70 htb ⟨Nat.le_of_ble_eq_true rfl, Nat.le_of_ble_eq_true rfl⟩) (z_preS hG hA hS hM) rfl rfl hl.1 rfl (lv_room (Nat.le_of_ble_eq_true rfl)) dW_law_12 ⟨show (((0 + 1) + mc7) + 1) + mc15 ≤ 601024 by omega, show (((0 + 7) + ms8) + 25) + ms16 ≤ 7293034 by omega⟩) hS (fun _ _ h => h) (fun _ h => h) (fun M14 t H locs ht hvm hw hB _ _ hS => ?_)
  have hM : zP D vwCl tc A M14 H := by rw [← ht]; exact hB
  refine lv_astore_n (lv' := [(2, .ref q9), (1, .ref q1), (0, .ref b)]) hx hb dW_law_15 rfl hl (by decide) rfl (fun ls hl => ?_)
  refine lv_iconst (v := 1) hx hb dW_law_16 (by decide +kernel) ?_
  obtain ⟨h18, h19, h20, h21, hN9, hw⟩ := hw
  refine z_newa (atype := .long) (a0 := (1, .inr (.inl (fun _ => 0)))) hx hb (htb _ t_835) rfl hK hM hS hA 3 3 rfl (fun _ h => h) (fun _ => rfl) h18 hN9 h19 (show ((((0 + 1) + mc7) + 1) + mc15) + 1 ≤ 601024 by omega) (show ((((0 + 7) + ms8) + 25) + ms16) + 1 ≤ 7293034 by omega) dW_law_17 (fun q17 H hn22 hM hS => ?_)
  have hw := hw q17 hn22
  refine lv_astore_n (lv' := [(3, .ref q17), (2, .ref q9), (1, .ref q1), (0, .ref b)]) hx hb dW_law_19 rfl hl (by decide) rfl (fun ls hl => ?_)
  refine lv_iconst (v := 0) hx hb dW_law_20 (by decide +kernel) ?_
  refine lv_istore (lv' := [(4, .int 0), (3, .ref q17), (2, .ref q9), (1, .ref q1), (0, .ref b)]) hx hb dW_law_21 hl (by decide) rfl (fun ls hl => ?_)
  obtain ⟨nfu, hw⟩ := hw
  exact k_W_law_j23 C0 hst  nfu _ _ _ _ _ _ _ _ _ _ _ _ (show (((((0 + 1) + mc7) + 1) + mc15) + 1) + (((((601024 - 1) - mc7) - 1) - mc15) - 1) ≤ 601024 by omega) (show (((((0 + 7) + ms8) + 25) + ms16) + 1) + (((((7293034 - 7) - ms8) - 25) - ms16) - 1) ≤ 7293034 by omega) hM hS (lv_sub hl [4, 3, 2, 1, 0] rfl) hw
