section
-- ===== PART A: goes FIRST, ahead of the names: the tables' words, and 'selects' of the private methods out of them =====
/-- a private method of a class that the tables say can be made, by its rows of tables_1 -/
def lw_okq (q : MethodName × Nat) : Prop := (q.1.cls ≠ "java/lang/invoke/MethodHandle" ∧ q.1.cls ≠ "java/lang/invoke/VarHandle") ∧ Cond.instantiable q.1.cls q.2 ∈ tables_1 ∧ Cond.privateMethod q.1 ∈ tables_1 ∧ Cond.instanceMethod q.1 ∈ tables_1
theorem lw_p0 : lw_okq (⟨"java/lang/Throwable", "fillInStackTrace", "(I)Ljava/lang/Throwable;"⟩, 6) := ⟨⟨by decide +kernel, by decide +kernel⟩, List.mem_of_getElem? (i := 129) (by decide +kernel), List.mem_of_getElem? (i := 127) (by decide +kernel), List.mem_of_getElem? (i := 128) (by decide +kernel)⟩
theorem lw_p1 : lw_okq (⟨"java/util/ArrayList", "add", "(Ljava/lang/Object;[Ljava/lang/Object;I)V"⟩, 3) := ⟨⟨by decide +kernel, by decide +kernel⟩, List.mem_of_getElem? (i := 32) (by decide +kernel), List.mem_of_getElem? (i := 209) (by decide +kernel), List.mem_of_getElem? (i := 210) (by decide +kernel)⟩
theorem lw_p2 : lw_okq (⟨"java/util/ArrayList", "grow", "()[Ljava/lang/Object;"⟩, 3) := ⟨⟨by decide +kernel, by decide +kernel⟩, List.mem_of_getElem? (i := 32) (by decide +kernel), List.mem_of_getElem? (i := 213) (by decide +kernel), List.mem_of_getElem? (i := 214) (by decide +kernel)⟩
theorem lw_p3 : lw_okq (⟨"java/util/ArrayList", "grow", "(I)[Ljava/lang/Object;"⟩, 3) := ⟨⟨by decide +kernel, by decide +kernel⟩, List.mem_of_getElem? (i := 32) (by decide +kernel), List.mem_of_getElem? (i := 217) (by decide +kernel), List.mem_of_getElem? (i := 218) (by decide +kernel)⟩
theorem lw_p4 : lw_okq (⟨"AlertRows", "groupOf", "(I)LAlertRows$Group;"⟩, 7) := ⟨⟨by decide +kernel, by decide +kernel⟩, List.mem_of_getElem? (i := 24) (by decide +kernel), List.mem_of_getElem? (i := 272) (by decide +kernel), List.mem_of_getElem? (i := 273) (by decide +kernel)⟩
theorem lw_p5 : lw_okq (⟨"AlertRows", "requireGroup", "(I)V"⟩, 7) := ⟨⟨by decide +kernel, by decide +kernel⟩, List.mem_of_getElem? (i := 24) (by decide +kernel), List.mem_of_getElem? (i := 276) (by decide +kernel), List.mem_of_getElem? (i := 277) (by decide +kernel)⟩
theorem lw_p6 : lw_okq (⟨"AlertRows", "personOf", "(I)LAlertRows$Person;"⟩, 7) := ⟨⟨by decide +kernel, by decide +kernel⟩, List.mem_of_getElem? (i := 24) (by decide +kernel), List.mem_of_getElem? (i := 373) (by decide +kernel), List.mem_of_getElem? (i := 374) (by decide +kernel)⟩
theorem lw_p7 : lw_okq (⟨"AlertRows", "requirePerson", "(I)V"⟩, 7) := ⟨⟨by decide +kernel, by decide +kernel⟩, List.mem_of_getElem? (i := 24) (by decide +kernel), List.mem_of_getElem? (i := 377) (by decide +kernel), List.mem_of_getElem? (i := 378) (by decide +kernel)⟩
theorem lw_p8 : lw_okq (⟨"AlertRows", "wouldAskSomebody", "(IZ)Z"⟩, 7) := ⟨⟨by decide +kernel, by decide +kernel⟩, List.mem_of_getElem? (i := 24) (by decide +kernel), List.mem_of_getElem? (i := 402) (by decide +kernel), List.mem_of_getElem? (i := 403) (by decide +kernel)⟩
theorem lw_p9 : lw_okq (⟨"AlertRows", "raise", "(IZI)V"⟩, 7) := ⟨⟨by decide +kernel, by decide +kernel⟩, List.mem_of_getElem? (i := 24) (by decide +kernel), List.mem_of_getElem? (i := 412) (by decide +kernel), List.mem_of_getElem? (i := 413) (by decide +kernel)⟩
theorem lw_p10 : lw_okq (⟨"AlertRows", "alarmOf", "(I)LAlertRows$Alarm;"⟩, 7) := ⟨⟨by decide +kernel, by decide +kernel⟩, List.mem_of_getElem? (i := 24) (by decide +kernel), List.mem_of_getElem? (i := 471) (by decide +kernel), List.mem_of_getElem? (i := 472) (by decide +kernel)⟩
theorem lw_p11 : lw_okq (⟨"AlertRows", "requireAlarm", "(I)V"⟩, 7) := ⟨⟨by decide +kernel, by decide +kernel⟩, List.mem_of_getElem? (i := 24) (by decide +kernel), List.mem_of_getElem? (i := 475) (by decide +kernel), List.mem_of_getElem? (i := 476) (by decide +kernel)⟩
theorem lw_p12 : lw_okq (⟨"AlertRows", "noteLate", "(II)I"⟩, 7) := ⟨⟨by decide +kernel, by decide +kernel⟩, List.mem_of_getElem? (i := 24) (by decide +kernel), List.mem_of_getElem? (i := 499) (by decide +kernel), List.mem_of_getElem? (i := 500) (by decide +kernel)⟩
theorem lw_p13 : lw_okq (⟨"AlertRows", "firstDue", "(I)I"⟩, 7) := ⟨⟨by decide +kernel, by decide +kernel⟩, List.mem_of_getElem? (i := 24) (by decide +kernel), List.mem_of_getElem? (i := 517) (by decide +kernel), List.mem_of_getElem? (i := 518) (by decide +kernel)⟩
theorem lw_p14 : lw_okq (⟨"AlertRows", "closeAlarm", "(I)V"⟩, 7) := ⟨⟨by decide +kernel, by decide +kernel⟩, List.mem_of_getElem? (i := 24) (by decide +kernel), List.mem_of_getElem? (i := 521) (by decide +kernel), List.mem_of_getElem? (i := 522) (by decide +kernel)⟩
theorem lw_p15 : lw_okq (⟨"AlertRows", "addUp", "(LAlertRows$Alarm;LAlertRows$Group;)V"⟩, 7) := ⟨⟨by decide +kernel, by decide +kernel⟩, List.mem_of_getElem? (i := 24) (by decide +kernel), List.mem_of_getElem? (i := 532) (by decide +kernel), List.mem_of_getElem? (i := 533) (by decide +kernel)⟩
def lw_privs_1 : List (MethodName × Nat) := [(⟨"java/lang/Throwable", "fillInStackTrace", "(I)Ljava/lang/Throwable;"⟩, 6), (⟨"java/util/ArrayList", "add", "(Ljava/lang/Object;[Ljava/lang/Object;I)V"⟩, 3), (⟨"java/util/ArrayList", "grow", "()[Ljava/lang/Object;"⟩, 3), (⟨"java/util/ArrayList", "grow", "(I)[Ljava/lang/Object;"⟩, 3), (⟨"AlertRows", "groupOf", "(I)LAlertRows$Group;"⟩, 7), (⟨"AlertRows", "requireGroup", "(I)V"⟩, 7), (⟨"AlertRows", "personOf", "(I)LAlertRows$Person;"⟩, 7), (⟨"AlertRows", "requirePerson", "(I)V"⟩, 7), (⟨"AlertRows", "wouldAskSomebody", "(IZ)Z"⟩, 7), (⟨"AlertRows", "raise", "(IZI)V"⟩, 7), (⟨"AlertRows", "alarmOf", "(I)LAlertRows$Alarm;"⟩, 7), (⟨"AlertRows", "requireAlarm", "(I)V"⟩, 7), (⟨"AlertRows", "noteLate", "(II)I"⟩, 7), (⟨"AlertRows", "firstDue", "(I)I"⟩, 7), (⟨"AlertRows", "closeAlarm", "(I)V"⟩, 7), (⟨"AlertRows", "addUp", "(LAlertRows$Alarm;LAlertRows$Group;)V"⟩, 7)]
theorem lw_r1 : ∀ q ∈ lw_privs_1, lw_okq q := List.forall_mem_cons.mpr ⟨lw_p0, List.forall_mem_cons.mpr ⟨lw_p1, List.forall_mem_cons.mpr ⟨lw_p2, List.forall_mem_cons.mpr ⟨lw_p3, List.forall_mem_cons.mpr ⟨lw_p4, List.forall_mem_cons.mpr ⟨lw_p5, List.forall_mem_cons.mpr ⟨lw_p6, List.forall_mem_cons.mpr ⟨lw_p7, List.forall_mem_cons.mpr ⟨lw_p8, List.forall_mem_cons.mpr ⟨lw_p9, List.forall_mem_cons.mpr ⟨lw_p10, List.forall_mem_cons.mpr ⟨lw_p11, List.forall_mem_cons.mpr ⟨lw_p12, List.forall_mem_cons.mpr ⟨lw_p13, List.forall_mem_cons.mpr ⟨lw_p14, List.forall_mem_cons.mpr ⟨lw_p15, fun _ h => absurd h List.not_mem_nil⟩⟩⟩⟩⟩⟩⟩⟩⟩⟩⟩⟩⟩⟩⟩⟩
theorem lw_p16 : lw_okq (⟨"AlertRows", "raiseSecond", "(II)V"⟩, 7) := ⟨⟨by decide +kernel, by decide +kernel⟩, List.mem_of_getElem? (i := 24) (by decide +kernel), List.mem_of_getElem? (i := 552) (by decide +kernel), List.mem_of_getElem? (i := 553) (by decide +kernel)⟩
theorem lw_p17 : lw_okq (⟨"AlertRows$Alarm", "comersBefore", "(II)I"⟩, 8) := ⟨⟨by decide +kernel, by decide +kernel⟩, List.mem_of_getElem? (i := 416) (by decide +kernel), List.mem_of_getElem? (i := 583) (by decide +kernel), List.mem_of_getElem? (i := 584) (by decide +kernel)⟩
theorem lw_p18 : lw_okq (⟨"AlertRows", "openAlarms", "()I"⟩, 7) := ⟨⟨by decide +kernel, by decide +kernel⟩, List.mem_of_getElem? (i := 24) (by decide +kernel), List.mem_of_getElem? (i := 641) (by decide +kernel), List.mem_of_getElem? (i := 642) (by decide +kernel)⟩
theorem lw_p19 : lw_okq (⟨"AlertRowsModel", "goes", "(ZZZ)Z"⟩, 25) := ⟨⟨by decide +kernel, by decide +kernel⟩, List.mem_of_getElem? (i := 646) (by decide +kernel), List.mem_of_getElem? (i := 739) (by decide +kernel), List.mem_of_getElem? (i := 740) (by decide +kernel)⟩
theorem lw_p20 : lw_okq (⟨"AlertRowsModel", "isGroup", "(I)Z"⟩, 25) := ⟨⟨by decide +kernel, by decide +kernel⟩, List.mem_of_getElem? (i := 646) (by decide +kernel), List.mem_of_getElem? (i := 747) (by decide +kernel), List.mem_of_getElem? (i := 748) (by decide +kernel)⟩
theorem lw_p21 : lw_okq (⟨"AlertRowsModel", "isPerson", "(I)Z"⟩, 25) := ⟨⟨by decide +kernel, by decide +kernel⟩, List.mem_of_getElem? (i := 646) (by decide +kernel), List.mem_of_getElem? (i := 759) (by decide +kernel), List.mem_of_getElem? (i := 760) (by decide +kernel)⟩
theorem lw_p22 : lw_okq (⟨"AlertRowsModel", "asksAny", "(IZ)Z"⟩, 25) := ⟨⟨by decide +kernel, by decide +kernel⟩, List.mem_of_getElem? (i := 646) (by decide +kernel), List.mem_of_getElem? (i := 771) (by decide +kernel), List.mem_of_getElem? (i := 772) (by decide +kernel)⟩
theorem lw_p23 : lw_okq (⟨"AlertRowsModel", "asks", "(IZI)Z"⟩, 25) := ⟨⟨by decide +kernel, by decide +kernel⟩, List.mem_of_getElem? (i := 646) (by decide +kernel), List.mem_of_getElem? (i := 775) (by decide +kernel), List.mem_of_getElem? (i := 776) (by decide +kernel)⟩
theorem lw_p24 : lw_okq (⟨"AlertRowsModel", "begin", "(IZI)V"⟩, 25) := ⟨⟨by decide +kernel, by decide +kernel⟩, List.mem_of_getElem? (i := 646) (by decide +kernel), List.mem_of_getElem? (i := 779) (by decide +kernel), List.mem_of_getElem? (i := 780) (by decide +kernel)⟩
theorem lw_p25 : lw_okq (⟨"AlertRowsModel", "isAlarm", "(I)Z"⟩, 25) := ⟨⟨by decide +kernel, by decide +kernel⟩, List.mem_of_getElem? (i := 646) (by decide +kernel), List.mem_of_getElem? (i := 787) (by decide +kernel), List.mem_of_getElem? (i := 788) (by decide +kernel)⟩
theorem lw_p26 : lw_okq (⟨"AlertRowsModel", "isReached", "(II)Z"⟩, 25) := ⟨⟨by decide +kernel, by decide +kernel⟩, List.mem_of_getElem? (i := 646) (by decide +kernel), List.mem_of_getElem? (i := 791) (by decide +kernel), List.mem_of_getElem? (i := 792) (by decide +kernel)⟩
theorem lw_p27 : lw_okq (⟨"AlertRowsModel", "isThere", "(II)Z"⟩, 25) := ⟨⟨by decide +kernel, by decide +kernel⟩, List.mem_of_getElem? (i := 646) (by decide +kernel), List.mem_of_getElem? (i := 795) (by decide +kernel), List.mem_of_getElem? (i := 796) (by decide +kernel)⟩
theorem lw_p28 : lw_okq (⟨"AlertRowsModel", "many", "(II)I"⟩, 25) := ⟨⟨by decide +kernel, by decide +kernel⟩, List.mem_of_getElem? (i := 646) (by decide +kernel), List.mem_of_getElem? (i := 804) (by decide +kernel), List.mem_of_getElem? (i := 805) (by decide +kernel)⟩
theorem lw_p29 : lw_okq (⟨"AlertRowsModel", "isSilent", "(I)Z"⟩, 25) := ⟨⟨by decide +kernel, by decide +kernel⟩, List.mem_of_getElem? (i := 646) (by decide +kernel), List.mem_of_getElem? (i := 828) (by decide +kernel), List.mem_of_getElem? (i := 829) (by decide +kernel)⟩
def lw_privs_2 : List (MethodName × Nat) := [(⟨"AlertRows", "raiseSecond", "(II)V"⟩, 7), (⟨"AlertRows$Alarm", "comersBefore", "(II)I"⟩, 8), (⟨"AlertRows", "openAlarms", "()I"⟩, 7), (⟨"AlertRowsModel", "goes", "(ZZZ)Z"⟩, 25), (⟨"AlertRowsModel", "isGroup", "(I)Z"⟩, 25), (⟨"AlertRowsModel", "isPerson", "(I)Z"⟩, 25), (⟨"AlertRowsModel", "asksAny", "(IZ)Z"⟩, 25), (⟨"AlertRowsModel", "asks", "(IZI)Z"⟩, 25), (⟨"AlertRowsModel", "begin", "(IZI)V"⟩, 25), (⟨"AlertRowsModel", "isAlarm", "(I)Z"⟩, 25), (⟨"AlertRowsModel", "isReached", "(II)Z"⟩, 25), (⟨"AlertRowsModel", "isThere", "(II)Z"⟩, 25), (⟨"AlertRowsModel", "many", "(II)I"⟩, 25), (⟨"AlertRowsModel", "isSilent", "(I)Z"⟩, 25)]
theorem lw_r2 : ∀ q ∈ lw_privs_2, lw_okq q := List.forall_mem_cons.mpr ⟨lw_p16, List.forall_mem_cons.mpr ⟨lw_p17, List.forall_mem_cons.mpr ⟨lw_p18, List.forall_mem_cons.mpr ⟨lw_p19, List.forall_mem_cons.mpr ⟨lw_p20, List.forall_mem_cons.mpr ⟨lw_p21, List.forall_mem_cons.mpr ⟨lw_p22, List.forall_mem_cons.mpr ⟨lw_p23, List.forall_mem_cons.mpr ⟨lw_p24, List.forall_mem_cons.mpr ⟨lw_p25, List.forall_mem_cons.mpr ⟨lw_p26, List.forall_mem_cons.mpr ⟨lw_p27, List.forall_mem_cons.mpr ⟨lw_p28, List.forall_mem_cons.mpr ⟨lw_p29, fun _ h => absurd h List.not_mem_nil⟩⟩⟩⟩⟩⟩⟩⟩⟩⟩⟩⟩⟩⟩
def lw_privs : List (MethodName × Nat) := lw_privs_1 ++ (lw_privs_2)
def lw_tbl : List Cond := k2_sels lw_privs ++ tables_1
theorem lw_privs_ok : ∀ q ∈ lw_privs, lw_okq q := by
  show ∀ q ∈ lw_privs_1 ++ (lw_privs_2), lw_okq q
  exact List.forall_mem_append.mpr ⟨lw_r1, lw_r2⟩
end
section
theorem goodIn_r {big : List Cond} (ws : List Cond) (ps : List Nat) (hp : ws = ps.filterMap (fun i => big[i]?)) (h : ws.all goodWord = true) : GoodIn big ws := by
  intro w hw
  have h1 := List.all_eq_true.mp h w hw
  rw [hp] at hw
  obtain ⟨i, -, hi⟩ := List.mem_filterMap.mp hw
  have hm : w ∈ big := by first | exact List.mem_of_getElem? hi | exact List.getElem?_mem hi
  exact ⟨hm, good_of_word h1⟩
theorem goodIn_app {big a b : List Cond} (ha : GoodIn big a) (hb : GoodIn big b) : GoodIn big (a ++ b) := fun w h => (List.mem_append.mp h).elim (ha w) (hb w)
theorem goodIn_ca {big a b : List Cond} {c : Cond} (ha : GoodIn big (c :: a)) (hb : GoodIn big b) : GoodIn big (c :: (a ++ b)) := fun w h => (List.mem_cons.mp h).elim (fun e => ha w (List.mem_cons.mpr (Or.inl e))) (fun h => (List.mem_append.mp h).elim (fun h => ha w (List.mem_cons.mpr (Or.inr h))) (hb w))
theorem goodIn_sub {big ws : List Cond} (hm : ∀ w ∈ ws, w ∈ big) (h : ws.all goodWord = true) : GoodIn big ws := fun w hw => ⟨hm w hw, good_of_word (List.all_eq_true.mp h w hw)⟩

section VXA
def vx_T (XC : String → State → State → Prop) (st : State) (q : Addr) (t : State) (mc ms : Nat) (free : Addr → Prop) : Prop :=
  ∃ (E : String) (ce : Cell) (L : List Loc), XC E st t ∧ t.heap[q]? = some ce ∧ ce.vm = .none ∧ st.vm.findClass E = some ce.cls ∧ st.WarmedH t.vm ∧ st.sameButNew ({ t with vm := st.vm } : State) L mc ms ∧ ∀ z ∈ L, free z.base
def vx_Q (Qc : Array Value → State → Outcome → State → Prop) (XC : String → State → State → Prop) (mc ms : Nat) (free : Addr → Prop) : Array Value → State → Outcome → State → Prop := fun a st o t =>
  (Qc a st o t ∧ ∃ L, FrameEnd st o t L mc ms ∧ ∀ q ∈ L, free q.base) ∨ ∃ q, o = .threw q ∧ vx_T XC st q t mc ms free
def vx_Met (l : Launch) (y : MethodName) (ws : List Cond) (rm : Room) (Pc : Array Value → State → Prop) (Qc : Array Value → State → Outcome → State → Prop) (XC : String → State → State → Prop) (mc ms : Nat) (free : Addr → Prop) : Prop :=
  MetFree l y (headSpec ws rm) Pc (fun _ _ _ _ _ => True) (vx_Q Qc XC mc ms free)
def vx_Post (XC : String → State → State → Prop) (mc ms : Nat) (free : Addr → Prop) : Pt → Array Value → Addr → Pt → Prop := fun A a q B =>
  ∃ (g : JFrame) (mk : MethodId) (t : State) (L : List Loc) (E : String) (ce : Cell), B.U.heap = t.heap ∧ B.U.vm = t.vm ∧ XC E (A.U.calling g mk a) t ∧ t.heap[q]? = some ce ∧ ce.vm = .none ∧ A.U.vm.findClass E = some ce.cls ∧ B.locs = A.locs ++ L ∧ (∀ z ∈ L, free z.base) ∧ B.cells = A.cells + mc ∧ B.slots = A.slots + ms
def vx_Back (l : Launch) (R : Room) (p : Program) (e : Env) (below : List Frame) (s : State) (sargs : Array Value) (y : MethodName) (len W9 : Nat)
    (Pre : Pt → Array Value → Prop) (Post : Pt → Array Value → Option Value → Pt → Prop) (PostX : Pt → Array Value → Addr → Pt → Prop) : Prop :=
  ∀ (m : MethodId) (meth : Method) (c : Code) (A : Pt) (g : JFrame) (ig : Instr) (mk : MethodId) (a : Array Value),
    Stand p l e R s m sargs below meth c A.U A.locs A.cells A.slots → g.method = m → g.locals.size = c.maxLocals → decode c.code g.pc = .ok (ig, len) →
    2 * g.monitorRoom + (g.stack.map fun v => v.category).sum ≤ W9 → A.U.methodNamed? y = some mk → Pre A a →
    (∃ (v : Option Value) (B : Pt), Stand p l e R s m sargs below meth c B.U B.locs B.cells B.slots ∧ Post A a v B ∧
      Steps p.tables e below (doInvoke e (A.U.setTop g) [] mk a).1 (B.U.setTop { g with pc := g.pc + len, stack := v.toList ++ g.stack })) ∨
    (∃ (q : Addr) (B : Pt), Stand p l e R s m sargs below meth c B.U B.locs B.cells B.slots ∧ PostX A a q B ∧
      Steps p.tables e below (doInvoke e (A.U.setTop g) [] mk a).1 ((B.U.setTop g).pushFrame (.throwing q)))
section Payer
variable {l : Launch} {R : Room} {p : Program} {e : Env} {below : List Frame} {s : State} {sargs : Array Value} {y : MethodName} {len W9 : Nat}
theorem vx_back {ws : List Cond} {rm : Room} {Pc : Array Value → State → Prop} {Qc : Array Value → State → Outcome → State → Prop} {XC : String → State → State → Prop} {mc ms : Nat} {free : Addr → Prop} {bytes : ByteArray} {maxL : Nat} {ret : Option FieldType}
    (hM : vx_Met l y ws rm Pc Qc XC mc ms free) (hblind : FrameBlind Pc) (hrc : rm.cells = mc) (hrs : rm.slots = ms)
    (hframes : rm.frames + 1 ≤ R.frames) (hlocals : W9 + (maxL + 11) + rm.locals ≤ R.locals)
    (hws : ∀ w ∈ ws, ∀ a' U, s.WarmedH U.vm → w.before a' U = true) (hcode : Cond.code y bytes maxL ret ∈ ws) (hinit : ∀ a' U, s.WarmedH U.vm → (Cond.initialized y.cls).before a' U = true) :
    vx_Back l R p e below s sargs y len W9 (PreOf R mc ms Pc) (PostOf Qc mc ms free) (vx_Post XC mc ms free) := by
  intro m meth c A g ig mk a X hg hsize hdg hW hn hp
  have h1 : (headSpec ws rm).pre.before a A.U = true := atoms_intro fun w hw => hws w hw _ _ X.warmed
  have h2 : (Cond.code y bytes maxL ret).before a A.U = true := hws _ hcode _ _ X.warmed
  have h3 : (Cond.initialized y.cls).before a A.U = true := hinit _ _ X.warmed
  have h4 : A.cells + (headSpec ws rm).room.cells ≤ R.cells := by rw [show (headSpec ws rm).room.cells = mc from hrc]; exact hp.1
  have h5 : A.slots + (headSpec ws rm).room.slots ≤ R.slots := by rw [show (headSpec ws rm).room.slots = ms from hrs]; exact hp.2.1
  have hPc : Pc a (A.U.calling g mk a) := hblind _ _ _ _ hp.2.2
  obtain ⟨U, Ls, c0, s0⟩ := A
  dsimp only [Pt.U, Pt.locs, Pt.cells, Pt.slots] at h1 h2 h3 h4 h5 X hn hPc ⊢
  obtain ⟨methY, cY, hmY, hcY, -, hlY, -, -, -, -⟩ := Cond.code_spec hn h2
  obtain ⟨kY, hkY, -⟩ := className_of_methodNamed hn
  have hinitY : kY.init = .initialized := Cond.initialized_spec (findClass_of_methodNamed hn) hkY h3
  have h : At U g.method c below := by rw [hg]; exact X.here
  have hlocals9 : W9 + (maxL + 11) + (headSpec ws rm).room.locals ≤ R.locals := hlocals
  have happ : (headSpec ws rm).appliesLoose y e.platform (U.calling g mk a) = true :=
    Spec.appliesLoose_calling (g := g) h hdg hn hkY hinitY
      (X.room_calling (g := g) (R' := (headSpec ws rm).room) hsize hmY hcY hframes (by rw [hlY]; omega) h4 h5) h1
  obtain ⟨mid, hmid⟩ := h.above
  have hfr : (U.setTop g).frames = (.java g :: mid) ++ below := by rw [State.frames_setTop' g h.top, hmid]; rfl
  obtain ⟨o, s₂, hsteps, -, hend, hq⟩ := Steps.callFree hM p X.admits X.cas X.clock (acts := []) hfr happ hPc trivial
  have hq' : vx_Q Qc XC mc ms free a (U.calling g mk a) o s₂ := hq
  rw [State.frames_setTop' g h.top] at hend
  obtain ⟨g₀, hg0⟩ := Option.isSome_iff_exists.mp h.top
  obtain ⟨r, hr⟩ := State.topJava?_eq_some.mp hg0
  have hr' : (({ U with heap := s₂.heap, slotsUsed := s₂.slotsUsed } : State).setVm s₂.vm).frames = .java g₀ :: r := hr
  rcases hq' with ⟨hqc, L, hfe, hL⟩ | ⟨q, rfl, E, ce, L, hx, hce, hcv, hcl, hW₂, hsm, hL⟩
  · obtain ⟨⟨v, rfl⟩, hW₂, e2, q2, q3, q4, q5, q6⟩ := id hfe
    have e3 : s₂ = ({ (U.calling g mk a).setFrames s₂.frames with heap := s₂.heap, slotsUsed := s₂.slotsUsed } : State).setVm s₂.vm := by
      have : s₂ = ({ s₂ with vm := (U.calling g mk a).vm } : State).setVm s₂.vm := rfl
      rw [e2] at this
      exact this
    obtain ⟨c₂, i₂, len₂, hc₂, hd₂, hf₂⟩ := hend
    have hW' : U.WarmedH s₂.vm := hW₂
    have hcc : c₂ = c := by
      have h1 : s₂.code? g.method = U.code? g.method := by
        rw [State.code?_eq, State.code?_eq, hW'.alike.method?]
      exact Option.some.inj (hc₂.symm.trans (h1.trans h.code))
    subst hcc
    have hlen : len₂ = len := by rw [hdg] at hd₂; cases hd₂; rfl
    subst hlen
    have hs₂ : s₂ = (({ U with heap := s₂.heap, slotsUsed := s₂.slotsUsed } : State).setVm s₂.vm).setTop { g with pc := g.pc + len₂, stack := v.toList ++ g.stack } := by
      refine e3.trans ?_
      rw [hf₂, State.calling_eq h.top, State.setFrames_setFrames, State.setTop_of_frames _ hr', hr]
      rfl
    have hsame : U.sameButNew ({ U with heap := s₂.heap, slotsUsed := s₂.slotsUsed } : State) L mc ms := by
      refine ⟨?_, q2, q3, q4, q5, q6⟩
      obtain ⟨t, ht, -⟩ := State.frames_cons hr
      show ({ U with heap := s₂.heap, slotsUsed := s₂.slotsUsed } : State) = { U.setFrames U.frames with heap := s₂.heap, slotsUsed := s₂.slotsUsed }
      rw [State.setFrames_self ht]
    subst hg
    refine Or.inl ⟨v, ⟨(({ U with heap := s₂.heap, slotsUsed := s₂.slotsUsed } : State).setVm s₂.vm), Ls ++ L, c0 + mc, s0 + ms⟩,
      ⟨X.admits, X.cas, X.clock, X.frames, X.room, X.hears, X.method, X.code, (X.here.setHeapUsed s₂.heap s₂.slotsUsed).setVm hW'.alike, X.tail, State.WarmedH.trans X.warmed hW', X.limits, X.bytes, X.same.trans (hsame.setVm s.vm)⟩,
      ⟨g, mk, s₂, L, rfl, rfl, hqc, rfl, hL, rfl, rfl⟩, ?_⟩
    show Steps p.tables e below _ ((({ U with heap := s₂.heap, slotsUsed := s₂.slotsUsed } : State).setVm s₂.vm).setTop { g with pc := g.pc + len₂, stack := v.toList ++ g.stack })
    rw [← hs₂]
    exact hsteps
  · obtain ⟨e2, q2, q3, q4, q5, q6⟩ := id hsm
    have e3 : s₂ = ({ (U.calling g mk a).setFrames s₂.frames with heap := s₂.heap, slotsUsed := s₂.slotsUsed } : State).setVm s₂.vm := by
      have : s₂ = ({ s₂ with vm := (U.calling g mk a).vm } : State).setVm s₂.vm := rfl
      rw [e2] at this
      exact this
    have hf₂ : s₂.frames = .throwing q :: .java g :: U.frames.tail := hend
    have hW' : U.WarmedH s₂.vm := hW₂
    have hs₂ : s₂ = ((({ U with heap := s₂.heap, slotsUsed := s₂.slotsUsed } : State).setVm s₂.vm).setTop g).pushFrame (.throwing q) := by
      refine e3.trans ?_
      rw [hf₂, State.calling_eq h.top, State.setFrames_setFrames, State.pushFrame, State.frames_setTop _ hr', State.setTop_of_frames _ hr', State.setFrames_setFrames, hr]
      rfl
    have hsame : U.sameButNew ({ U with heap := s₂.heap, slotsUsed := s₂.slotsUsed } : State) L mc ms := by
      refine ⟨?_, q2, q3, q4, q5, q6⟩
      obtain ⟨t, ht, -⟩ := State.frames_cons hr
      show ({ U with heap := s₂.heap, slotsUsed := s₂.slotsUsed } : State) = { U.setFrames U.frames with heap := s₂.heap, slotsUsed := s₂.slotsUsed }
      rw [State.setFrames_self ht]
    subst hg
    refine Or.inr ⟨q, ⟨(({ U with heap := s₂.heap, slotsUsed := s₂.slotsUsed } : State).setVm s₂.vm), Ls ++ L, c0 + mc, s0 + ms⟩,
      ⟨X.admits, X.cas, X.clock, X.frames, X.room, X.hears, X.method, X.code, (X.here.setHeapUsed s₂.heap s₂.slotsUsed).setVm hW'.alike, X.tail, State.WarmedH.trans X.warmed hW', X.limits, X.bytes, X.same.trans (hsame.setVm s.vm)⟩,
      ⟨g, mk, s₂, L, E, ce, rfl, rfl, hx, hce, hcv, hcl, rfl, hL, rfl, rfl⟩, ?_⟩
    show Steps p.tables e below _ (((({ U with heap := s₂.heap, slotsUsed := s₂.slotsUsed } : State).setVm s₂.vm).setTop g).pushFrame (.throwing q))
    rw [← hs₂]
    exact hsteps
end Payer
section Calls
variable {p : Program} {l : Launch} {e : Env} {R : Room} {s : State} {m : MethodId} {args : Array Value} {below : List Frame} {meth : Method} {c : Code} {T : State} {locs : List Loc} {cells slots : Nat}
theorem vx_callV (X : Stand p l e R s m args below meth c T locs cells slots) (hexec : p.tables.exec = Jvm.exec) {own C : String} {index : Nat} {y : MethodName} {bytes : ByteArray} {maxL : Nat} {ret : Option FieldType}
    (hown : s.vm.findClass own = some m.cls) (hlink : (Cond.methodLink own index y).before args s = true) (hinst : (Cond.instanceMethod y).before args s = true) (hsel : (Cond.selects C y y).before args s = true)
    (hcode : (Cond.code y bytes maxL ret).before args s = true) (hy : y.cls ≠ "java/lang/invoke/MethodHandle" ∧ y.cls ≠ "java/lang/invoke/VarHandle")
    {W9 : Nat} {Pre : Pt → Array Value → Prop} {Post : Pt → Array Value → Option Value → Pt → Prop} {PostX : Pt → Array Value → Addr → Pt → Prop} (hK : vx_Back l R p e below s args y 3 W9 Pre Post PostX)
    {b : Addr} {cellB : Cell} (hcell : T.heap[b]? = some cellB) (hobj : cellB.vm.isStatics = false) (hcls : s.vm.findClass C = some cellB.cls)
    {g : JFrame} (hg : g.method = m) (hsize : g.locals.size = c.maxLocals) {argsL rest : List Value} (hlen : ∀ sig, parseMethodDescriptor y.desc = some sig → argsL.length = sig.parameters.length)
    (hstack : g.stack = argsL.reverse ++ .ref b :: rest) (hW : 2 * g.monitorRoom + (rest.map fun v => v.category).sum ≤ W9) (hdg : decode c.code g.pc = .ok (.invokevirtual index, 3))
    (hpre : ∀ vm₁, s.WarmedH vm₁ → Pre ⟨T.setVm vm₁, locs, cells, slots⟩ (Value.ref b :: argsL).toArray) :
    (∃ (v : Option Value) (vm₁ : Vm) (B : Pt), s.WarmedH vm₁ ∧ Stand p l e R s m args below meth c B.U B.locs B.cells B.slots ∧ Post ⟨T.setVm vm₁, locs, cells, slots⟩ (Value.ref b :: argsL).toArray v B ∧
      ∀ target, Steps p.tables e below (B.U.setTop { g with pc := g.pc + 3, stack := v.toList ++ rest }) target → Steps p.tables e below (T.setTop g) target) ∨
    (∃ (q : Addr) (vm₁ : Vm) (B : Pt), s.WarmedH vm₁ ∧ Stand p l e R s m args below meth c B.U B.locs B.cells B.slots ∧ PostX ⟨T.setVm vm₁, locs, cells, slots⟩ (Value.ref b :: argsL).toArray q B ∧
      Steps p.tables e below (T.setTop g) ((B.U.setTop { g with stack := rest }).pushFrame (.throwing q))) := by
  obtain ⟨mk, methM, hnamed, hmethM, hstM, habM⟩ := Cond.instanceMethod_spec hinst
  obtain ⟨methM', cM, hmethM', -, -, -, -, -, -, hsigM⟩ := Cond.code_spec hnamed hcode
  cases hmethM.symm.trans hmethM'
  obtain ⟨c2, r2, m2, q1, q2, q3, q4, kP, hkP, hkPi⟩ := Cond.selects_spec hsel
  cases hcls.symm.trans q1
  cases (State.methodFound?_of_named hnamed hy).symm.trans q2
  cases hnamed.symm.trans q3
  have hselP : selectMethod e.platform s.vm cellB.cls mk = .method mk := by rw [Launch.admits_selectMethod X.admits]; exact q4
  obtain ⟨vm₁, X₁, hstep₁⟩ := X.invokevirtual hexec hown hlink hnamed hmethM hstM hkP hkPi hy (a := b) (cell := cellB) hcell
    (fun z h => by rw [h] at hobj; cases hobj) hselP hmethM habM hkP hkPi (g := g) hg (argsL := argsL) (rest := rest) (hlen _ hsigM) hstack hdg
  rcases hK m meth c ⟨T.setVm vm₁, locs, cells, slots⟩ { g with stack := rest } (.invokevirtual index) mk (Value.ref b :: argsL).toArray X₁ hg hsize hdg hW (X₁.named hnamed) (hpre vm₁ X₁.warmed) with ⟨v, B, X', hpost, hsteps⟩ | ⟨q, B, X', hpost, hsteps⟩
  · exact Or.inl ⟨v, vm₁, B, X₁.warmed, X', hpost, fun target h => hstep₁ _ fun acts => by rw [doInvoke_state]; exact hsteps.trans h⟩
  · exact Or.inr ⟨q, vm₁, B, X₁.warmed, X', hpost, hstep₁ _ fun acts => by rw [doInvoke_state]; exact hsteps⟩
theorem vx_callS (X : Stand p l e R s m args below meth c T locs cells slots) (hexec : p.tables.exec = Jvm.exec) {own : String} {index : Nat} {y : MethodName} {bytes : ByteArray} {maxL : Nat} {ret : Option FieldType}
    (hown : s.vm.findClass own = some m.cls) (hlink : (Cond.methodLink own index y).before args s = true) (hstat : (Cond.static y).before args s = true) (hinit : (Cond.initialized y.cls).before args s = true)
    (hcode : (Cond.code y bytes maxL ret).before args s = true) (hy : y.cls ≠ "java/lang/invoke/MethodHandle" ∧ y.cls ≠ "java/lang/invoke/VarHandle")
    {W9 : Nat} {Pre : Pt → Array Value → Prop} {Post : Pt → Array Value → Option Value → Pt → Prop} {PostX : Pt → Array Value → Addr → Pt → Prop} (hK : vx_Back l R p e below s args y 3 W9 Pre Post PostX)
    {g : JFrame} (hg : g.method = m) (hsize : g.locals.size = c.maxLocals) {argsL rest : List Value} (hlen : ∀ sig, parseMethodDescriptor y.desc = some sig → argsL.length = sig.parameters.length)
    (hstack : g.stack = argsL.reverse ++ rest) (hW : 2 * g.monitorRoom + (rest.map fun v => v.category).sum ≤ W9) (hdg : decode c.code g.pc = .ok (.invokestatic index, 3))
    (hpre : ∀ vm₁, s.WarmedH vm₁ → Pre ⟨T.setVm vm₁, locs, cells, slots⟩ argsL.toArray) :
    (∃ (v : Option Value) (vm₁ : Vm) (B : Pt), s.WarmedH vm₁ ∧ Stand p l e R s m args below meth c B.U B.locs B.cells B.slots ∧ Post ⟨T.setVm vm₁, locs, cells, slots⟩ argsL.toArray v B ∧
      ∀ target, Steps p.tables e below (B.U.setTop { g with pc := g.pc + 3, stack := v.toList ++ rest }) target → Steps p.tables e below (T.setTop g) target) ∨
    (∃ (q : Addr) (vm₁ : Vm) (B : Pt), s.WarmedH vm₁ ∧ Stand p l e R s m args below meth c B.U B.locs B.cells B.slots ∧ PostX ⟨T.setVm vm₁, locs, cells, slots⟩ argsL.toArray q B ∧
      Steps p.tables e below (T.setTop g) ((B.U.setTop { g with stack := rest }).pushFrame (.throwing q))) := by
  obtain ⟨mk, hnamed⟩ := Cond.code_named hcode
  obtain ⟨methM, cM, hmethM, -, -, -, -, -, -, hsigM⟩ := Cond.code_spec hnamed hcode
  have hstatic : methM.isStatic = true := Cond.static_spec hnamed hmethM hstat
  obtain ⟨kP, hkP, -⟩ := className_of_methodNamed hnamed
  have hinitP : kP.init = .initialized := Cond.initialized_spec (findClass_of_methodNamed hnamed) hkP hinit
  obtain ⟨vm₁, X₁, hstep₁⟩ := X.invokestatic hexec hown hlink hnamed hmethM hstatic hkP hinitP hy (g := g) hg (argsL := argsL) (rest := rest) (hlen _ hsigM) hstack hdg
  rcases hK m meth c ⟨T.setVm vm₁, locs, cells, slots⟩ { g with stack := rest } (.invokestatic index) mk argsL.toArray X₁ hg hsize hdg hW (X₁.named hnamed) (hpre vm₁ X₁.warmed) with ⟨v, B, X', hpost, hsteps⟩ | ⟨q, B, X', hpost, hsteps⟩
  · exact Or.inl ⟨v, vm₁, B, X₁.warmed, X', hpost, fun target h => hstep₁ _ fun acts => by rw [doInvoke_state]; exact hsteps.trans h⟩
  · exact Or.inr ⟨q, vm₁, B, X₁.warmed, X', hpost, hstep₁ _ fun acts => by rw [doInvoke_state]; exact hsteps⟩
end Calls
theorem vx_cls {s : State} {T : State} {vm₁ : Vm} {E : String} {k : ClassId} (hW : s.WarmedH vm₁) (h : (T.setVm vm₁).vm.findClass E = some k) : s.vm.findClass E = some k := by
  have h1 : vm₁.findClass E = some k := h
  rw [hW.alike.findClass] at h1
  exact h1
def vx_W (p : Program) (l : Launch) (e : Env) (R : Room) (s : State) (m : MethodId) (args : Array Value) (below : List Frame) (meth : Method) (c : Code) (H : Heap) (locs : List Loc) (cells slots : Nat) (Q : State → Prop) (g : JFrame) (q : Addr) : Prop :=
  ∀ T : State, T.heap = H → Stand p l e R s m args below meth c T locs cells slots → ∃ t, Steps p.tables e below ((T.setTop g).pushFrame (.throwing q)) t ∧ Q t
def vx_Run (p : Program) (l : Launch) (e : Env) (R : Room) (s : State) (m : MethodId) (args : Array Value) (below : List Frame) (meth : Method) (c : Code) (H : Heap) (locs : List Loc) (cells slots mc ms : Nat) (g : JFrame) (rest : List Value) (Qa : State → Outcome → State → Prop) (XC : String → State → State → Prop) (free : Addr → Prop) : Prop :=
  ∀ T : State, T.heap = H → Stand p l e R s m args below meth c T locs cells slots →
    (∃ (v : Option Value) (st₀ t T' : State) (L : List Loc), st₀.heap = H ∧ Stand p l e R s m args below meth c T' (locs ++ L) (cells + mc) (slots + ms) ∧ (∀ q ∈ L, free q.base) ∧ T'.heap = t.heap ∧ T'.vm = t.vm ∧ Qa st₀ (.returned v) t ∧
      Goes p e below T g T' { g with pc := g.pc + 3, stack := v.toList ++ rest }) ∨
    (∃ (q : Addr) (st₀ t T' : State) (L : List Loc) (E : String) (ce : Cell), st₀.heap = H ∧ Stand p l e R s m args below meth c T' (locs ++ L) (cells + mc) (slots + ms) ∧ (∀ z ∈ L, free z.base) ∧ T'.heap = t.heap ∧ T'.vm = t.vm ∧ XC E st₀ t ∧ t.heap[q]? = some ce ∧ ce.vm = .none ∧ s.vm.findClass E = some ce.cls ∧
      Steps p.tables e below (T.setTop g) ((T'.setTop { g with stack := rest }).pushFrame (.throwing q)))
def vx_X {S : Type} (px : S → Prop) (B : String → S → State → Prop) (A : Nat → Prop) : String → State → State → Prop := fun E st t => ∃ u : S, px u ∧ B E u t ∧ va_F A st t
section Runs
variable {p : Program} {l : Launch} {e : Env} {R : Room} {s : State} {m : MethodId} {args : Array Value} {below : List Frame} {meth : Method} {c : Code} {H : Heap} {locs : List Loc} {cells slots : Nat}
variable {y : MethodName} {bytes cc : ByteArray} {maxL nL mc ms n index : Nat} {ret : Option FieldType} {ws : List Cond} {rm : Room} {Pc : Array Value → State → Prop} {Qc : Array Value → State → Outcome → State → Prop} {XC : String → State → State → Prop} {free : Addr → Prop} {Ts : List Cond} {own C : String} {b : Addr} {As rest : List Value} {g : JFrame}
theorem vx_callBack (cb : CallB R s args own index y bytes maxL ret ws rm mc ms n) (hM : vx_Met l y ws rm Pc Qc XC mc ms free) (hbl : FrameBlind Pc) : vx_Back l R p e below s args y 3 8 (PreOf R mc ms Pc) (PostOf Qc mc ms free) (vx_Post XC mc ms free) := by
  obtain ⟨hrc, hrs, hfr, hlo, hws, hcw, -, hini, -⟩ := cb
  exact vx_back (bytes := bytes) (maxL := maxL) (ret := ret) hM hbl hrc hrs hfr hlo hws hcw (fun a' U hW => word_at hW (Or.inl (by first | rfl | simp [Cond.onTables, Cond.keeps, Cond.steady])) hini)
theorem vx_runV (S : CallFix p m c cc nL s args Ts own) (hM : vx_Met l y ws rm Pc Qc XC mc ms free) (cw : CallW R s args own C index y bytes maxL ret ws rm mc ms n) (hp : PreV s H C b Pc As)
    (hg : g.method = m) (hn : As.length = n) (hsize : g.locals.size = nL) (hstack : g.stack = As.reverse ++ .ref b :: rest) (hW : 2 * g.monitorRoom + (rest.map fun v => v.category).sum ≤ 8) (hdg : decode cc g.pc = .ok (.invokevirtual index, 3)) (hf : cells + mc ≤ R.cells ∧ slots + ms ≤ R.slots) :
    vx_Run p l e R s m args below meth c H locs cells slots mc ms g rest (Qc (Value.ref b :: As).toArray) XC free := by
  have hK : vx_Back l R p e below s args y 3 8 (PreOf R mc ms Pc) (PostOf Qc mc ms free) (vx_Post XC mc ms free) := vx_callBack cw.1 hM hp.1
  obtain ⟨⟨-, -, -, -, -, -, hcode, -, hy, hlen, hl⟩, hin, hse⟩ := cw
  obtain ⟨hx, hb, hml, ho, -⟩ := S
  obtain ⟨-, ⟨cellB, hcB, hoB, hclB⟩, hPc⟩ := hp
  intro T hT X
  rcases vx_callV X hx (C := C) (bytes := bytes) (maxL := maxL) (ret := ret) ho hl hin hse hcode hy hK (by rw [hT]; exact hcB) hoB hclB hg (hsize.trans hml.symm) (argsL := As) (rest := rest) (fun sig h => hn.trans (hlen sig h)) hstack hW (by rw [hb]; exact hdg)
    (fun vm₁ hW₁ => ⟨hf.1, hf.2, hPc (T.setVm vm₁) hT hW₁⟩) with ⟨v, vm₁, ⟨U', l2, c2, s2⟩, hW₁, X', ⟨g', mk, t, L, e1, e2, hq, h1, hL, h2, h3⟩, st⟩ | ⟨q, vm₁, ⟨U', l2, c2, s2⟩, hW₁, X', ⟨g', mk, t, L, E, ce, e1, e2, hq, hce, hcv, hcl, h1, hL, h2, h3⟩, st⟩
  · dsimp only [Pt.U, Pt.locs, Pt.cells, Pt.slots] at X' e1 e2 h1 h2 h3 st
    subst h1; subst h2; subst h3
    exact Or.inl ⟨v, (T.setVm vm₁).calling g' mk (Value.ref b :: As).toArray, t, U', L, hT, X', hL, e1, e2, hq, st⟩
  · dsimp only [Pt.U, Pt.locs, Pt.cells, Pt.slots] at X' e1 e2 h1 h2 h3 st hcl
    subst h1; subst h2; subst h3
    exact Or.inr ⟨q, (T.setVm vm₁).calling g' mk (Value.ref b :: As).toArray, t, U', L, E, ce, hT, X', hL, e1, e2, hq, hce, hcv, vx_cls hW₁ hcl, st⟩
theorem vx_runS (S : CallFix p m c cc nL s args Ts own) (hM : vx_Met l y ws rm Pc Qc XC mc ms free) (cw : CallB R s args own index y bytes maxL ret ws rm mc ms n ∧ (Cond.static y).before args s = true) (hp : PreS s H Pc As)
    (hg : g.method = m) (hn : As.length = n) (hsize : g.locals.size = nL) (hstack : g.stack = As.reverse ++ rest) (hW : 2 * g.monitorRoom + (rest.map fun v => v.category).sum ≤ 8) (hdg : decode cc g.pc = .ok (.invokestatic index, 3)) (hf : cells + mc ≤ R.cells ∧ slots + ms ≤ R.slots) :
    vx_Run p l e R s m args below meth c H locs cells slots mc ms g rest (Qc As.toArray) XC free := by
  have hK : vx_Back l R p e below s args y 3 8 (PreOf R mc ms Pc) (PostOf Qc mc ms free) (vx_Post XC mc ms free) := vx_callBack cw.1 hM hp.1
  obtain ⟨⟨-, -, -, -, -, -, hcode, hini, hy, hlen, hl⟩, hstt⟩ := cw
  obtain ⟨hx, hb, hml, ho, -⟩ := S
  intro T hT X
  rcases vx_callS X hx (bytes := bytes) (maxL := maxL) (ret := ret) ho hl hstt hini hcode hy hK hg (hsize.trans hml.symm) (argsL := As) (rest := rest) (fun sig h => hn.trans (hlen sig h)) hstack hW (by rw [hb]; exact hdg)
    (fun vm₁ hW₁ => ⟨hf.1, hf.2, hp.2 (T.setVm vm₁) hT hW₁⟩) with ⟨v, vm₁, ⟨U', l2, c2, s2⟩, hW₁, X', ⟨g', mk, t, L, e1, e2, hq, h1, hL, h2, h3⟩, st⟩ | ⟨q, vm₁, ⟨U', l2, c2, s2⟩, hW₁, X', ⟨g', mk, t, L, E, ce, e1, e2, hq, hce, hcv, hcl, h1, hL, h2, h3⟩, st⟩
  · dsimp only [Pt.U, Pt.locs, Pt.cells, Pt.slots] at X' e1 e2 h1 h2 h3 st
    subst h1; subst h2; subst h3
    exact Or.inl ⟨v, (T.setVm vm₁).calling g' mk As.toArray, t, U', L, hT, X', hL, e1, e2, hq, st⟩
  · dsimp only [Pt.U, Pt.locs, Pt.cells, Pt.slots] at X' e1 e2 h1 h2 h3 st hcl
    subst h1; subst h2; subst h3
    exact Or.inr ⟨q, (T.setVm vm₁).calling g' mk As.toArray, t, U', L, E, ce, hT, X', hL, e1, e2, hq, hce, hcv, vx_cls hW₁ hcl, st⟩
end Runs
section Rows
variable {p : Program} {l : Launch} {e : Env} {R : Room} {s : State} {m : MethodId} {args : Array Value} {below : List Frame} {meth : Method} {c : Code} {H : Heap} {locs : List Loc} {cells slots : Nat} {Q : State → Prop}
variable {mc ms : Nat} {free : Addr → Prop} {A0 A1 : Nat → Prop} {H0 : Heap} {a : Array Value} {pc : Nat} {ls : Array Slot} {st0 rest : List Value}
theorem vx_keep {st₀ t T' : State} {L : List Loc} (h0 : st₀.heap = H) (e1 : T'.heap = t.heap) (hS : va_S A0 H0 H locs) (hA : ∀ q, q < H.size → A1 q → A0 q) (hf : ∀ q, free q → A0 q) (hL : ∀ q ∈ L, free q.base) (hF : va_F A1 st₀ t) :
    H.size ≤ T'.heap.size ∧ (∀ q : Nat, q < H.size → ¬ A1 q → T'.heap[q]? = H[q]?) ∧ va_S A0 H0 T'.heap (locs ++ L) := by
  obtain ⟨hz, hk⟩ := hF
  rw [h0] at hz hk
  exact ⟨by rw [e1]; exact hz, fun q h1 h2 => by rw [e1]; exact hk q h1 h2,
    ⟨Nat.le_trans hS.1 (by rw [e1]; exact hz), fun q h1 h2 => by rw [e1, hk q (Nat.lt_of_lt_of_le h1 hS.1) (fun z => h2 (hA q (Nat.lt_of_lt_of_le h1 hS.1) z))]; exact hS.2.1 q h1 h2, fun q hq => by
      rcases List.mem_append.mp hq with h | h
      · exact hS.2.2 q h
      · exact hf _ (hL q h)⟩⟩
theorem vx_calli {S SX : Type} {post : Int32 → S → Prop} {px : SX → Prop} {B : S → State → Prop} {BX : String → SX → State → Prop} {AX : Nat → Prop} (hr : vx_Run p l e R s m args below meth c H locs cells slots mc ms (F0 m pc ls st0) rest (va_Qi post B A1 a) (vx_X px BX AX) free) (hS : va_S A0 H0 H locs) (hA : ∀ q, q < H.size → A1 q → A0 q) (hf : ∀ q, free q → A0 q) (hAX : ∀ q, q < H.size → AX q → A0 q)
    (kx : ∀ (E : String) (ce : Cell) (q9 : Addr) (u : SX) (t : State) (H1 : Heap) (locs1 : List Loc), t.heap = H1 → s.vm.Alike t.vm → px u → BX E u t → H.size ≤ H1.size → (∀ q : Nat, q < H.size → ¬ AX q → H1[q]? = H[q]?) → va_S A0 H0 H1 locs1 → H1[q9]? = some ce → ce.vm = .none → s.vm.findClass E = some ce.cls → vx_W p l e R s m args below meth c H1 locs1 (cells + mc) (slots + ms) Q (F0 m pc ls rest) q9)
    (kk : ∀ (r : Int32) (u : S) (t : State) (H1 : Heap) (locs1 : List Loc), t.heap = H1 → s.vm.Alike t.vm → post r u → B u t → H.size ≤ H1.size → (∀ q : Nat, q < H.size → ¬ A1 q → H1[q]? = H[q]?) → va_S A0 H0 H1 locs1 → W p l e R s m args below meth c H1 locs1 (cells + mc) (slots + ms) Q (F0 m (pc + 3) ls (.int r :: rest))) : W p l e R s m args below meth c H locs cells slots Q (F0 m pc ls st0) := by
  intro T hT X
  rcases hr T hT X with ⟨v, st₀, t, T', L, h0, X', hL, e1, e2, ⟨⟨r, u, hv, hp, hb⟩, hF⟩, st⟩ | ⟨q, st₀, t, T', L, E, ce, h0, X', hL, e1, e2, ⟨u, hp, hb, hF⟩, hce, hcv, hcl, st⟩
  · cases hv
    obtain ⟨k1, k2, k3⟩ := vx_keep h0 e1 hS hA hf hL hF
    obtain ⟨t2, a1, b1⟩ := kk r u t T'.heap (locs ++ L) e1.symm (by rw [← e2]; exact X'.warmed.alike) hp hb k1 k2 k3 T' rfl X'
    exact ⟨t2, st t2 a1, b1⟩
  · obtain ⟨k1, k2, k3⟩ := vx_keep h0 e1 hS hAX hf hL hF
    obtain ⟨t2, a1, b1⟩ := kx E ce q u t T'.heap (locs ++ L) e1.symm (by rw [← e2]; exact X'.warmed.alike) hp hb k1 k2 k3 (by rw [e1]; exact hce) hcv hcl T' rfl X'
    exact ⟨t2, st.trans a1, b1⟩
theorem vx_calll {S SX : Type} {post : Int64 → S → Prop} {px : SX → Prop} {B : S → State → Prop} {BX : String → SX → State → Prop} {AX : Nat → Prop} (hr : vx_Run p l e R s m args below meth c H locs cells slots mc ms (F0 m pc ls st0) rest (va_Ql post B A1 a) (vx_X px BX AX) free) (hS : va_S A0 H0 H locs) (hA : ∀ q, q < H.size → A1 q → A0 q) (hf : ∀ q, free q → A0 q) (hAX : ∀ q, q < H.size → AX q → A0 q)
    (kx : ∀ (E : String) (ce : Cell) (q9 : Addr) (u : SX) (t : State) (H1 : Heap) (locs1 : List Loc), t.heap = H1 → s.vm.Alike t.vm → px u → BX E u t → H.size ≤ H1.size → (∀ q : Nat, q < H.size → ¬ AX q → H1[q]? = H[q]?) → va_S A0 H0 H1 locs1 → H1[q9]? = some ce → ce.vm = .none → s.vm.findClass E = some ce.cls → vx_W p l e R s m args below meth c H1 locs1 (cells + mc) (slots + ms) Q (F0 m pc ls rest) q9)
    (kk : ∀ (r : Int64) (u : S) (t : State) (H1 : Heap) (locs1 : List Loc), t.heap = H1 → s.vm.Alike t.vm → post r u → B u t → H.size ≤ H1.size → (∀ q : Nat, q < H.size → ¬ A1 q → H1[q]? = H[q]?) → va_S A0 H0 H1 locs1 → W p l e R s m args below meth c H1 locs1 (cells + mc) (slots + ms) Q (F0 m (pc + 3) ls (.long r :: rest))) : W p l e R s m args below meth c H locs cells slots Q (F0 m pc ls st0) := by
  intro T hT X
  rcases hr T hT X with ⟨v, st₀, t, T', L, h0, X', hL, e1, e2, ⟨⟨r, u, hv, hp, hb⟩, hF⟩, st⟩ | ⟨q, st₀, t, T', L, E, ce, h0, X', hL, e1, e2, ⟨u, hp, hb, hF⟩, hce, hcv, hcl, st⟩
  · cases hv
    obtain ⟨k1, k2, k3⟩ := vx_keep h0 e1 hS hA hf hL hF
    obtain ⟨t2, a1, b1⟩ := kk r u t T'.heap (locs ++ L) e1.symm (by rw [← e2]; exact X'.warmed.alike) hp hb k1 k2 k3 T' rfl X'
    exact ⟨t2, st t2 a1, b1⟩
  · obtain ⟨k1, k2, k3⟩ := vx_keep h0 e1 hS hAX hf hL hF
    obtain ⟨t2, a1, b1⟩ := kx E ce q u t T'.heap (locs ++ L) e1.symm (by rw [← e2]; exact X'.warmed.alike) hp hb k1 k2 k3 (by rw [e1]; exact hce) hcv hcl T' rfl X'
    exact ⟨t2, st.trans a1, b1⟩
theorem vx_callf {S SX : Type} {post : UInt32 → S → Prop} {px : SX → Prop} {B : S → State → Prop} {BX : String → SX → State → Prop} {AX : Nat → Prop} (hr : vx_Run p l e R s m args below meth c H locs cells slots mc ms (F0 m pc ls st0) rest (va_Qf post B A1 a) (vx_X px BX AX) free) (hS : va_S A0 H0 H locs) (hA : ∀ q, q < H.size → A1 q → A0 q) (hf : ∀ q, free q → A0 q) (hAX : ∀ q, q < H.size → AX q → A0 q)
    (kx : ∀ (E : String) (ce : Cell) (q9 : Addr) (u : SX) (t : State) (H1 : Heap) (locs1 : List Loc), t.heap = H1 → s.vm.Alike t.vm → px u → BX E u t → H.size ≤ H1.size → (∀ q : Nat, q < H.size → ¬ AX q → H1[q]? = H[q]?) → va_S A0 H0 H1 locs1 → H1[q9]? = some ce → ce.vm = .none → s.vm.findClass E = some ce.cls → vx_W p l e R s m args below meth c H1 locs1 (cells + mc) (slots + ms) Q (F0 m pc ls rest) q9)
    (kk : ∀ (r : UInt32) (u : S) (t : State) (H1 : Heap) (locs1 : List Loc), t.heap = H1 → s.vm.Alike t.vm → post r u → B u t → H.size ≤ H1.size → (∀ q : Nat, q < H.size → ¬ A1 q → H1[q]? = H[q]?) → va_S A0 H0 H1 locs1 → W p l e R s m args below meth c H1 locs1 (cells + mc) (slots + ms) Q (F0 m (pc + 3) ls (.float r :: rest))) : W p l e R s m args below meth c H locs cells slots Q (F0 m pc ls st0) := by
  intro T hT X
  rcases hr T hT X with ⟨v, st₀, t, T', L, h0, X', hL, e1, e2, ⟨⟨r, u, hv, hp, hb⟩, hF⟩, st⟩ | ⟨q, st₀, t, T', L, E, ce, h0, X', hL, e1, e2, ⟨u, hp, hb, hF⟩, hce, hcv, hcl, st⟩
  · cases hv
    obtain ⟨k1, k2, k3⟩ := vx_keep h0 e1 hS hA hf hL hF
    obtain ⟨t2, a1, b1⟩ := kk r u t T'.heap (locs ++ L) e1.symm (by rw [← e2]; exact X'.warmed.alike) hp hb k1 k2 k3 T' rfl X'
    exact ⟨t2, st t2 a1, b1⟩
  · obtain ⟨k1, k2, k3⟩ := vx_keep h0 e1 hS hAX hf hL hF
    obtain ⟨t2, a1, b1⟩ := kx E ce q u t T'.heap (locs ++ L) e1.symm (by rw [← e2]; exact X'.warmed.alike) hp hb k1 k2 k3 (by rw [e1]; exact hce) hcv hcl T' rfl X'
    exact ⟨t2, st.trans a1, b1⟩
theorem vx_calld {S SX : Type} {post : UInt64 → S → Prop} {px : SX → Prop} {B : S → State → Prop} {BX : String → SX → State → Prop} {AX : Nat → Prop} (hr : vx_Run p l e R s m args below meth c H locs cells slots mc ms (F0 m pc ls st0) rest (va_Qd post B A1 a) (vx_X px BX AX) free) (hS : va_S A0 H0 H locs) (hA : ∀ q, q < H.size → A1 q → A0 q) (hf : ∀ q, free q → A0 q) (hAX : ∀ q, q < H.size → AX q → A0 q)
    (kx : ∀ (E : String) (ce : Cell) (q9 : Addr) (u : SX) (t : State) (H1 : Heap) (locs1 : List Loc), t.heap = H1 → s.vm.Alike t.vm → px u → BX E u t → H.size ≤ H1.size → (∀ q : Nat, q < H.size → ¬ AX q → H1[q]? = H[q]?) → va_S A0 H0 H1 locs1 → H1[q9]? = some ce → ce.vm = .none → s.vm.findClass E = some ce.cls → vx_W p l e R s m args below meth c H1 locs1 (cells + mc) (slots + ms) Q (F0 m pc ls rest) q9)
    (kk : ∀ (r : UInt64) (u : S) (t : State) (H1 : Heap) (locs1 : List Loc), t.heap = H1 → s.vm.Alike t.vm → post r u → B u t → H.size ≤ H1.size → (∀ q : Nat, q < H.size → ¬ A1 q → H1[q]? = H[q]?) → va_S A0 H0 H1 locs1 → W p l e R s m args below meth c H1 locs1 (cells + mc) (slots + ms) Q (F0 m (pc + 3) ls (.double r :: rest))) : W p l e R s m args below meth c H locs cells slots Q (F0 m pc ls st0) := by
  intro T hT X
  rcases hr T hT X with ⟨v, st₀, t, T', L, h0, X', hL, e1, e2, ⟨⟨r, u, hv, hp, hb⟩, hF⟩, st⟩ | ⟨q, st₀, t, T', L, E, ce, h0, X', hL, e1, e2, ⟨u, hp, hb, hF⟩, hce, hcv, hcl, st⟩
  · cases hv
    obtain ⟨k1, k2, k3⟩ := vx_keep h0 e1 hS hA hf hL hF
    obtain ⟨t2, a1, b1⟩ := kk r u t T'.heap (locs ++ L) e1.symm (by rw [← e2]; exact X'.warmed.alike) hp hb k1 k2 k3 T' rfl X'
    exact ⟨t2, st t2 a1, b1⟩
  · obtain ⟨k1, k2, k3⟩ := vx_keep h0 e1 hS hAX hf hL hF
    obtain ⟨t2, a1, b1⟩ := kx E ce q u t T'.heap (locs ++ L) e1.symm (by rw [← e2]; exact X'.warmed.alike) hp hb k1 k2 k3 (by rw [e1]; exact hce) hcv hcl T' rfl X'
    exact ⟨t2, st.trans a1, b1⟩
theorem vx_callv {S SX : Type} {post : S → Prop} {px : SX → Prop} {B : S → State → Prop} {BX : String → SX → State → Prop} {AX : Nat → Prop} (hr : vx_Run p l e R s m args below meth c H locs cells slots mc ms (F0 m pc ls st0) rest (va_Qv post B A1 a) (vx_X px BX AX) free) (hS : va_S A0 H0 H locs) (hA : ∀ q, q < H.size → A1 q → A0 q) (hf : ∀ q, free q → A0 q) (hAX : ∀ q, q < H.size → AX q → A0 q)
    (kx : ∀ (E : String) (ce : Cell) (q9 : Addr) (u : SX) (t : State) (H1 : Heap) (locs1 : List Loc), t.heap = H1 → s.vm.Alike t.vm → px u → BX E u t → H.size ≤ H1.size → (∀ q : Nat, q < H.size → ¬ AX q → H1[q]? = H[q]?) → va_S A0 H0 H1 locs1 → H1[q9]? = some ce → ce.vm = .none → s.vm.findClass E = some ce.cls → vx_W p l e R s m args below meth c H1 locs1 (cells + mc) (slots + ms) Q (F0 m pc ls rest) q9)
    (kk : ∀ (u : S) (t : State) (H1 : Heap) (locs1 : List Loc), t.heap = H1 → s.vm.Alike t.vm → post u → B u t → H.size ≤ H1.size → (∀ q : Nat, q < H.size → ¬ A1 q → H1[q]? = H[q]?) → va_S A0 H0 H1 locs1 → W p l e R s m args below meth c H1 locs1 (cells + mc) (slots + ms) Q (F0 m (pc + 3) ls (rest))) : W p l e R s m args below meth c H locs cells slots Q (F0 m pc ls st0) := by
  intro T hT X
  rcases hr T hT X with ⟨v, st₀, t, T', L, h0, X', hL, e1, e2, ⟨⟨u, hv, hp, hb⟩, hF⟩, st⟩ | ⟨q, st₀, t, T', L, E, ce, h0, X', hL, e1, e2, ⟨u, hp, hb, hF⟩, hce, hcv, hcl, st⟩
  · cases hv
    obtain ⟨k1, k2, k3⟩ := vx_keep h0 e1 hS hA hf hL hF
    obtain ⟨t2, a1, b1⟩ := kk u t T'.heap (locs ++ L) e1.symm (by rw [← e2]; exact X'.warmed.alike) hp hb k1 k2 k3 T' rfl X'
    exact ⟨t2, st t2 a1, b1⟩
  · obtain ⟨k1, k2, k3⟩ := vx_keep h0 e1 hS hAX hf hL hF
    obtain ⟨t2, a1, b1⟩ := kx E ce q u t T'.heap (locs ++ L) e1.symm (by rw [← e2]; exact X'.warmed.alike) hp hb k1 k2 k3 (by rw [e1]; exact hce) hcv hcl T' rfl X'
    exact ⟨t2, st.trans a1, b1⟩
theorem vx_catch {own name : String} {E : String} {ce : Cell} {q : Addr} (hown : s.vm.findClass own = some m.cls) (pre : List ExceptionTableEntry) (x : ExceptionTableEntry) (suf : List ExceptionTableEntry) (hsplit : c.exceptionTable.toList = pre ++ x :: suf)
    (hpass : ∀ z ∈ pre, covers z pc = false ∨ (z.catchType ≠ 0 ∧ ∃ nm : String, (Cond.classLink own z.catchType nm).before args s = true ∧ va_Nc E nm s)) (hx : covers x pc = true) (h0 : x.catchType ≠ 0)
    (hlink : (Cond.classLink own x.catchType name).before args s = true) (hcast : (Cond.castable E name).before args s = true) (hcell : H[q]? = some ce) (hv : ce.vm = .none) (hcl : s.vm.findClass E = some ce.cls)
    (kk : W p l e R s m args below meth c H locs cells slots Q (F0 m x.handlerPc ls [.ref q])) : vx_W p l e R s m args below meth c H locs cells slots Q (F0 m pc ls rest) q := by
  intro T hT X
  have hpl : e.platform.magicAccessors = ({} : Platform).magicAccessors := by rw [X.admits.platform]
  obtain ⟨c3, c4, hc3, hc4, hasg⟩ := Cond.castable_spec hcast
  cases Option.some.inj (hc3.symm.trans hcl)
  obtain ⟨c5, hc5, hcl5⟩ := Cond.classLink_spec hown hlink e.platform hpl
  cases Option.some.inj (hc4.symm.trans hc5)
  obtain ⟨vm', X', st⟩ := X.thenCaughtThrough q (g := F0 m pc ls rest) rfl (Steps.refl _) (by rw [hT]; exact hcell) (by rw [hv]; rfl) (by obtain ⟨k9, h9, -⟩ := Vm.findClass_spec hcl; exact ⟨k9, h9⟩) pre x suf hsplit
    (fun z hz => by
      rcases hpass z hz with h | ⟨hz0, nm, hl1, hn1⟩
      · exact Or.inl h
      · obtain ⟨c6, hc6, hcl6⟩ := Cond.classLink_spec hown hl1 e.platform hpl
        obtain ⟨a8, b8, h1, h2, h3⟩ := hn1
        cases Option.some.inj (h1.symm.trans hcl)
        cases Option.some.inj (h2.symm.trans hc6)
        exact Or.inr ⟨hz0, _, hcl6, h3⟩) hx (Or.inr ⟨h0, c4, hcl5, hasg⟩)
  obtain ⟨t, a1, b1⟩ := kk (T.setVm vm') hT X'
  exact ⟨t, st.trans a1, b1⟩
end Rows
section Ends
variable {p : Program} {l : Launch} {e : Env} {R : Room} {s : State} {m : MethodId} {args : Array Value} {below : List Frame} {meth : Method} {c : Code} {H : Heap} {locs : List Loc} {cells slots : Nat} {Q : State → Prop}
variable {mc ms : Nat} {free : Addr → Prop} {A0 A1 : Nat → Prop} {H0 : Heap} {a : Array Value} {ls : Array Slot} {st0 rest : List Value}
variable {Qc : Array Value → State → Outcome → State → Prop} {XC : String → State → State → Prop}
def vx_MQ (below : List Frame) (Qc : Array Value → State → Outcome → State → Prop) (XC : String → State → State → Prop) (a : Array Value) (s : State) (mc ms : Nat) (free : Addr → Prop) : State → Prop := fun t =>
  ∃ o, t.status = .running ∧ Ended t below o ∧ vx_Q Qc XC mc ms free a s o t
theorem vx_ret {g : JFrame} {mc ms : Nat} (k : W p l e R s m args below meth c H locs cells slots (MQ below Qc args s mc ms free) g) : W p l e R s m args below meth c H locs cells slots (vx_MQ below Qc XC args s mc ms free) g := by
  intro T hT X
  obtain ⟨t, a1, o, b1, b2, b3, b4⟩ := k T hT X
  exact ⟨t, a1, o, b1, b2, Or.inl ⟨b3, b4⟩⟩
theorem vx_widen {g : JFrame} {q : Addr} {k n : Nat} (h1 : cells ≤ k) (h2 : slots ≤ n) (kk : vx_W p l e R s m args below meth c H locs k n Q g q) : vx_W p l e R s m args below meth c H locs cells slots Q g q := fun T hT X => kk T hT (stand_widen X h1 h2)
theorem vx_out {pc : Nat} {E : String} {ce : Cell} {q : Addr} {mc ms : Nat} (hout : ∀ x ∈ c.exceptionTable.toList, covers x pc = false) (hlocks : meth.locks = false) (hcell : H[q]? = some ce) (hv : ce.vm = .none) (hcl : s.vm.findClass E = some ce.cls)
    (hx : ∀ t : State, t.heap = H → s.vm.Alike t.vm → XC E s t) (hf : ∀ z ∈ locs, free z.base) (hc : cells ≤ mc) (hs : slots ≤ ms) :
    vx_W p l e R s m args below meth c H locs cells slots (vx_MQ below Qc XC args s mc ms free) (F0 m pc ls rest) q := by
  intro T hT X
  obtain ⟨st1, hrun, hend, hW, hsm⟩ := X.leaveThrown q (g := F0 m pc ls rest) rfl rfl rfl hout hlocks
  have hcell9 : (T.setFrames (.throwing q :: below)).heap[q]? = some ce := by
    show T.heap[q]? = some ce
    rw [hT]; exact hcell
  exact ⟨_, st1, .threw q, hrun, hend, Or.inr ⟨q, rfl, E, ce, locs, hx _ hT hW.alike, hcell9, hv, hcl, hW, hsm.mono hc hs, hf⟩⟩
theorem vx_frame {U : State} {k n : Nat} (h : s.sameButNew ({ U with vm := s.vm } : State) locs k n) : s.heap.size ≤ U.heap.size ∧ ∀ q : Nat, q < s.heap.size → (∀ z ∈ locs, z.base ≠ q) → U.heap[q]? = s.heap[q]? := by
  obtain ⟨-, h2, -, -, -, h6⟩ := h
  refine ⟨h2, fun q hq hz => ?_⟩
  obtain ⟨c9, e1, e2, e3, e4⟩ := h6 q _ (Array.getElem?_eq_getElem hq)
  have hs : c9.slots = (s.heap[q]).slots := Array.ext_getElem? fun i => e4 i fun hm => hz _ hm rfl
  have h9 : c9 = s.heap[q] := by
    rw [hs] at e2
    exact e2
  have e5 : U.heap[q]? = some c9 := e1
  rw [e5, h9, Array.getElem?_eq_getElem hq]
def vx_no (w : Cond) : Bool := decide (w ≠ .isRef (.static Bundle.tN "UNASSIGNED_STACK" Bundle.steD)) && decide (w ≠ .isRef (.static Bundle.tN "SUPPRESSED_SENTINEL" Bundle.listD)) && decide (w ≠ .laysStatic Bundle.tN "UNASSIGNED_STACK" Bundle.steD) && decide (w ≠ .laysStatic Bundle.tN "SUPPRESSED_SENTINEL" Bundle.listD)
def vx_at0 (own : String) (ic : Nat) (X : String) (names : List String) : List Cond := (Bundle.ownAtoms0 own ic X names).filter vx_no
def vx_atS (own : String) (ic : Nat) (X : String) (names : List String) : List Cond := (Bundle.ownAtoms own ic X names).filter vx_no
def vx_ot (w : Cond) : Bool := w.onTables || goodWord w
theorem vx_ot_at {args a' : Array Value} {s U : State} {w : Cond} (hW : s.WarmedH U.vm) (hvm : s.vm = U.vm) (hg : vx_ot w = true) (h : w.before args s = true) : w.before a' U = true := by
  simp only [vx_ot, Bool.or_eq_true] at hg
  rcases hg with hg | hg
  · exact va_tabs hg hvm h
  · exact word_at hW (good_of_word hg) h
theorem vx_hat {args : Array Value} {s : State} {L B : List Cond} (h1 : ∀ w ∈ L.filter goodWord, w.before args s = true) (h2 : ∀ w ∈ L.filter (fun w => !goodWord w), w ∈ B) (h3 : ∀ w ∈ B, w.before args s = true) : ∀ w ∈ L, w.before args s = true := by
  intro w hw
  by_cases g : goodWord w = true
  · exact h1 w (List.mem_filter.mpr ⟨hw, g⟩)
  · refine h3 w (h2 w (List.mem_filter.mpr ⟨hw, ?_⟩))
    show (!goodWord w) = true
    cases hgw : goodWord w
    · rfl
    · exact absurd hgw g
theorem vx_c {args : Array Value} {s : State} {w : Cond} {B : List Cond} (h : w.before args s = true) (t : ∀ w ∈ B, w.before args s = true) : ∀ w' ∈ w :: B, w'.before args s = true := fun w' h' => (List.mem_cons.mp h').elim (fun e => by rw [e]; exact h) (t w')
theorem vx_n {args : Array Value} {s : State} : ∀ w ∈ ([] : List Cond), w.before args s = true := fun _ h => nomatch h
theorem vx_own {args : Array Value} {s : State} {L : List Cond} (h1 : ∀ w ∈ L.filter vx_no, w.before args s = true)
    (hU : (Cond.isRef (.static Bundle.tN "UNASSIGNED_STACK" Bundle.steD)).before args s = true) (hN : (Cond.isRef (.static Bundle.tN "SUPPRESSED_SENTINEL" Bundle.listD)).before args s = true)
    (lU : (Cond.laysStatic Bundle.tN "UNASSIGNED_STACK" Bundle.steD).before args s = true) (lN : (Cond.laysStatic Bundle.tN "SUPPRESSED_SENTINEL" Bundle.listD).before args s = true) : ∀ w ∈ L, w.before args s = true := by
  intro w hw
  by_cases e1 : w = .isRef (.static Bundle.tN "UNASSIGNED_STACK" Bundle.steD)
  · rw [e1]; exact hU
  · by_cases e2 : w = .isRef (.static Bundle.tN "SUPPRESSED_SENTINEL" Bundle.listD)
    · rw [e2]; exact hN
    · by_cases e3 : w = .laysStatic Bundle.tN "UNASSIGNED_STACK" Bundle.steD
      · rw [e3]; exact lU
      · by_cases e4 : w = .laysStatic Bundle.tN "SUPPRESSED_SENTINEL" Bundle.listD
        · rw [e4]; exact lN
        · exact h1 w (List.mem_filter.mpr ⟨hw, by unfold vx_no; rw [decide_eq_true e1, decide_eq_true e2, decide_eq_true e3, decide_eq_true e4]; rfl⟩)
def vx_L (C n d : String) (A : Nat → Prop) (U : State) (H : Heap) : Prop := ∃ (c : ClassId) (k : Class) (i : Nat) (f : Field) (a : Nat) (cell : Cell), U.vm.findClass C = some c ∧ U.fieldFound? C n d = some (c, k, i, f) ∧ f.isStatic = true ∧ k.statics = some a ∧ H[a]? = some cell ∧ cell.vm.isStatics = true ∧ cell.cls = c ∧ f.slot < cell.slots.size ∧ k.staticTypes[f.slot]? = some f.type ∧ ¬ A a
theorem vx_L.moved {C n d : String} {A : Nat → Prop} {u U : State} {H : Heap} (hvm : u.vm.Alike U.vm) (h : vx_L C n d A u H) : vx_L C n d A U H := by
  obtain ⟨c, k, i, f, a, cell, h1, h2, h3, h4, h5, h6, h7, h8, h9, h10⟩ := h
  obtain ⟨k', hi', he⟩ := State.fieldFound?_setVm hvm h2
  exact ⟨c, k', i, f, a, cell, by rw [hvm.findClass]; exact h1, hi', h3, by rw [he]; exact h4, h5, h6, h7, h8, by rw [he]; exact h9, h10⟩
theorem vx_L.kept {C n d : String} {A : Nat → Prop} {U : State} {H H1 : Heap} (h : vx_L C n d A U H) (hq : ∀ a : Nat, a < H.size → ¬ A a → H1[a]? = H[a]?) : vx_L C n d A U H1 := by
  obtain ⟨c, k, i, f, a, cell, h1, h2, h3, h4, h5, h6, h7, h8, h9, h10⟩ := h
  exact ⟨c, k, i, f, a, cell, h1, h2, h3, h4, by rw [hq a (Array.getElem?_eq_some_iff.mp h5).1 h10]; exact h5, h6, h7, h8, h9, h10⟩
theorem vx_L.narrow {C n d : String} {A B : Nat → Prop} {U : State} {H : Heap} (h : vx_L C n d A U H) (hAB : ∀ q, B q → A q) : vx_L C n d B U H := by
  obtain ⟨c, k, i, f, a, cell, h1, h2, h3, h4, h5, h6, h7, h8, h9, h10⟩ := h
  exact ⟨c, k, i, f, a, cell, h1, h2, h3, h4, h5, h6, h7, h8, h9, fun z => h10 (hAB _ z)⟩
theorem vx_L.word {C n d : String} {A : Nat → Prop} {s : State} {args : Array Value} (h : vx_L C n d A s s.heap) : (Cond.laysStatic C n d).before args s = true := by
  obtain ⟨c, k, i, f, a, cell, h1, h2, h3, h4, h5, h6, h7, h8, h9, -⟩ := h
  show (Cond.laysStatic C n d).holds args s none s [] = true
  exact Cond.laysStatic_of h1 h2 h3 h4 h5 h6 h7 h8 h9
def vx_Zq (C n d : String) (A : Nat → Prop) (U : State) (H : Heap) : Prop := va_Zq C n d A U H ∧ vx_L C n d A U H
theorem vx_Zq.moved {C n d : String} {A : Nat → Prop} {u U : State} {H : Heap} (hvm : u.vm.Alike U.vm) (h : vx_Zq C n d A u H) : vx_Zq C n d A U H := ⟨va_Zq.moved hvm h.1, vx_L.moved hvm h.2⟩
theorem vx_Zq.kept {C n d : String} {A : Nat → Prop} {U : State} {H H1 : Heap} (h : vx_Zq C n d A U H) (hq : ∀ a : Nat, a < H.size → ¬ A a → H1[a]? = H[a]?) : vx_Zq C n d A U H1 := ⟨va_Zq.kept h.1 hq, vx_L.kept h.2 hq⟩
theorem vx_Zq.narrow {C n d : String} {A B : Nat → Prop} {U : State} {H : Heap} (h : vx_Zq C n d A U H) (hAB : ∀ q, B q → A q) : vx_Zq C n d B U H := ⟨va_Zq.narrow h.1 hAB, vx_L.narrow h.2 hAB⟩
theorem vx_Zqof {args : Array Value} {s : State} {C n d : String} {A : Nat → Prop} (hl : (Cond.laysStatic C n d).before args s = true) (hini : (Cond.initialized C).before args s = true) (h : (Cond.isRef (.static C n d)).before args s = true) (hA : ∀ a : Nat, a < s.heap.size → ¬ A a) : vx_Zq C n d A s s.heap := by
  refine ⟨va_Zqof hl hini h hA, ?_⟩
  obtain ⟨c, k, i, f, a, cell, h1, h2, h3, h4, h5, h6, h7, h8, h9⟩ := Cond.laysStatic_spec hl
  exact ⟨c, k, i, f, a, cell, h1, h2, h3, h4, h5, h6, h7, h8, h9, hA a (Array.getElem?_eq_some_iff.mp h5).1⟩
theorem vx_isRef {C n d : String} {v : Value} {A : Nat → Prop} {s : State} {args : Array Value} (h : va_Z C n d v A s s.heap) (hv : v.isRef = true) : (Cond.isRef (.static C n d)).before args s = true := by
  obtain ⟨cf, kf, fi, f, a, cell, h1, h2, h3, h4, h5, h6, h7, -⟩ := h
  have he : (Term.static C n d).eval args s none [] s = some v := by
    simp [Term.eval, State.fieldNamed?, h1, h2, h4, h5, h6, h7]
  simp only [Cond.before, Cond.holds, Cond.value, he]
  cases v <;> simp_all [Value.isRef]
theorem vx_isRefq {C n d : String} {A : Nat → Prop} {s : State} {args : Array Value} (h : va_Zq C n d A s s.heap) : (Cond.isRef (.static C n d)).before args s = true := by
  rcases h with h | ⟨t, h⟩
  · exact vx_isRef h rfl
  · exact vx_isRef h rfl
theorem vx_rebase {T : State} (X : Stand p l e R s m args below meth c T locs cells slots) {R' : Room} (hf : R'.frames ≤ R.frames) (hl : R'.locals ≤ R.locals) (hc : cells + R'.cells ≤ R.cells) (hs : slots + R'.slots ≤ R.slots) :
    Stand p l e R' ((T.setVm s.vm).setFrames (.invoking m args :: below)) m args below meth c T [] 0 0 := by
  have htop : (T.setVm s.vm).topJava?.isSome := X.here.top
  have hF : ((T.setVm s.vm).setFrames (.invoking m args :: below)).frames = .invoking m args :: below := State.frames_setFrames _ (State.cur_lt_of_top htop)
  obtain ⟨g₀, hg0⟩ := Option.isSome_iff_exists.mp htop
  obtain ⟨r, hr⟩ := State.topJava?_eq_some.mp hg0
  have hl9 : e.platform.stackLimits (T.setVm s.vm).me = e.platform.stackLimits s.me := X.limits
  have hb9 : (T.setVm s.vm).me.stackBytes = s.me.stackBytes := X.bytes
  refine ⟨X.admits, X.cas, X.clock, hF, ?_, X.hears, X.method, X.code, X.here, X.tail, X.warmed, ?_, ?_, ?_⟩
  · have h := X.room
    have hU : ((T.setVm s.vm).setFrames (.invoking m args :: below)).localsInUse = s.localsInUse := by
      rw [State.localsInUse_invoking hF (meth := meth) (c := c) X.method X.code, State.localsInUse_invoking X.frames X.method X.code]
    simp only [State.hasRoom, Bool.and_eq_true, decide_eq_true_eq] at h ⊢
    obtain ⟨⟨⟨⟨h1, h2, h3, h4, h5, h6⟩, h7⟩, h8⟩, h9⟩ := h
    rw [X.frames, List.length_cons] at h2 h3
    have q1 := X.heapSize
    have q2 := X.used
    simp only [hF, hU, List.length_cons, State.stackLimits_setFrames, State.stackBytes_setFrames, hl9, hb9]
    refine ⟨⟨⟨⟨by omega, by omega, by omega, by omega, by omega, h6⟩, ?_⟩, ?_⟩, X.book⟩
    · show T.heap.size + R'.cells ≤ e.platform.maxCells
      omega
    · show T.slotsUsed + R'.slots ≤ e.platform.maxSlots
      omega
  · rw [State.stackLimits_setFrames]; rfl
  · rw [State.stackBytes_setFrames]; rfl
  · refine ⟨?_, Nat.le_refl _, Nat.le_refl _, ?_, ?_, fun a c9 h9 => ⟨c9, h9, rfl, rfl, fun _ _ => rfl⟩⟩
    · obtain ⟨t, ht, -⟩ := State.frames_cons hr
      show T.setVm s.vm = { ((T.setVm s.vm).setFrames (.invoking m args :: below)).setFrames (T.setVm s.vm).frames with heap := T.heap, slotsUsed := T.slotsUsed }
      rw [State.setFrames_setFrames, State.setFrames_self ht]
      rfl
    · show T.slotsUsed = T.slotsUsed + ((T.heap.toList.drop T.heap.size).map (·.slots.size)).sum
      rw [List.drop_eq_nil_of_le (Nat.le_of_eq Array.length_toList)]
      rfl
    · show ((T.heap.toList.drop T.heap.size).map (·.slots.size)).sum ≤ 0
      rw [List.drop_eq_nil_of_le (Nat.le_of_eq Array.length_toList)]
      exact Nat.le_refl _
theorem vx_throw0 {cc : ByteArray} {pc : Nat} (hexec : p.tables.exec = Jvm.exec) (hb : c.code = cc) (hl : l.stackTraces = false) {own cls : String} {names : List String} {ik ic mc ms : Nat} {A : Nat → Prop}
    (hown : s.vm.findClass own = some m.cls) (hcls : Bundle.fit cls = true) (hnames : ∀ n ∈ names, Bundle.fit n = true)
    (hk : (Cond.classLink own ik cls).before args s = true) (hini : (Cond.initialized cls).before args s = true) (hat : ∀ w ∈ vx_at0 own ic cls names, w.before args s = true)
    (hgood : ∀ w ∈ Cond.classLink own ik cls :: Cond.initialized cls :: vx_at0 own ic cls names, vx_ot w = true)
    (hU : vx_Zq Bundle.tN "UNASSIGNED_STACK" Bundle.steD A s s.heap) (hN : vx_Zq Bundle.tN "SUPPRESSED_SENTINEL" Bundle.listD A s s.heap) (hS : va_S A s.heap H locs) (hsize : ls.size = c.maxLocals)
    (d0 : decode cc pc = .ok (.new ik, 3)) (d3 : decode cc (pc + 3) = .ok (.dup, 1)) (d4 : decode cc (pc + 4) = .ok (.invokespecial ic, 3)) (d7 : decode cc (pc + 7) = .ok (.athrow, 1))
    (hout : ∀ x ∈ c.exceptionTable.toList, covers x (pc + 7) = false)
    (hRframes : names.length + 3 < R.frames) (hRlocals : (rest.map fun v => v.category).sum + (13 * (names.length + 1) + 42) ≤ R.locals) (hRcells : cells + 1 ≤ R.cells) (hRslots : slots + 6 ≤ R.slots) (hlocks : meth.locks = false)
    (hx : ∀ t : State, s.vm.Alike t.vm → H.size ≤ t.heap.size → (∀ q : Nat, q < H.size → t.heap[q]? = H[q]?) → XC cls s t)
    (hf : ∀ z ∈ locs, free z.base) (hc : cells + 1 ≤ mc) (hs : slots + 6 ≤ ms) :
    W p l e R s m args below meth c H locs cells slots (vx_MQ below Qc XC args s mc ms free) (F0 m pc ls rest) := by
  intro T hT X
  have htr : e.platform.stackTraces = false := (show e.platform.stackTraces = l.stackTraces by rw [X.admits.platform]).trans hl
  have Y := vx_rebase X (R' := { frames := R.frames, locals := R.locals, cells := 1, slots := 6 }) (Nat.le_refl _) (Nat.le_refl _) hRcells hRslots
  obtain ⟨s', hA⟩ : ∃ z, z = (T.setVm s.vm).setFrames (.invoking m args :: below) := ⟨_, rfl⟩
  rw [← hA] at Y
  have hvm : s'.vm = s.vm := by rw [hA]; rfl
  have hhp : s'.heap = H := by rw [hA]; exact hT
  have hW0 : s.WarmedH s'.vm := by rw [hvm]; exact State.WarmedH.refl s
  have hat' : ∀ w ∈ vx_at0 own ic cls names, w.before args s' = true := fun w hw => vx_ot_at hW0 hvm.symm (hgood w (List.mem_cons_of_mem _ (List.mem_cons_of_mem _ hw))) (hat w hw)
  have hk' : (Cond.classLink own ik cls).before args s' = true := vx_ot_at hW0 hvm.symm (hgood _ List.mem_cons_self) hk
  have hini' : (Cond.initialized cls).before args s' = true := vx_ot_at hW0 hvm.symm (hgood _ (List.mem_cons_of_mem _ List.mem_cons_self)) hini
  have hU' : vx_Zq Bundle.tN "UNASSIGNED_STACK" Bundle.steD A s' s'.heap := by rw [hhp]; exact vx_Zq.moved hW0.alike (hU.kept hS.2.1)
  have hN' : vx_Zq Bundle.tN "SUPPRESSED_SENTINEL" Bundle.listD A s' s'.heap := by rw [hhp]; exact vx_Zq.moved hW0.alike (hN.kept hS.2.1)
  have h : ∀ w ∈ Bundle.ownAtoms0 own ic cls names, w.before args s' = true := vx_own hat' (vx_isRefq hU'.1) (vx_isRefq hN'.1) hU'.2.word hN'.2.word
  have hown' : s'.vm.findClass own = some m.cls := by rw [hvm]; exact hown
  have hins : (Cond.instantiable cls 6).before args s' = true := h _ (by simp [Bundle.ownAtoms0])
  obtain ⟨vm₁, cX, kX, hfX, hkX, -, -, X₁, st1⟩ := Y.newCold hexec (own := own) (C := cls) (index := ik) (n := 6) hown' hk' hins hini'
    (g := F0 m pc ls rest) rfl (by rw [hb]; exact d0) (Nat.le_refl _) (Nat.le_refl _)
  generalize hT1 : (T.setVm vm₁).pushCell { cls := cX, slots := kX.instanceTypes.map defaultValue, vm := .none } = T1 at X₁ st1
  have hcat : (Value.ref T.heap.size).category = 1 := rfl
  have hcellA : T1.heap[T.heap.size]? = some (freshCell cX kX) := by rw [← hT1]; exact State.heap_pushCell_size _ _
  have d3' : decode c.code (pc + 3) = .ok (.dup, 1) := by rw [hb]; exact d3
  obtain ⟨U, hsteps, hrun, hend, hW, hsame, ce, hce, hO⟩ := X₁.ctorThrow0 hexec htr (own := own) (cls := cls) (names := names) (ic := ic) hown' hcls hnames h (fun x hx => nomatch hx) hfX hkX hcellA (by rw [hhp, hT]; exact Nat.le_refl _)
    (g := { method := m, pc := pc + 4, locals := ls, stack := .ref T.heap.size :: .ref T.heap.size :: rest, locked := none }) rfl hsize rfl rfl (rest := rest) rfl
    (by rw [hb]; exact d4) (by rw [hb]; exact d7) hout hRframes (by simp only [List.map_cons, List.sum_cons, hcat]; omega) hlocks
  obtain ⟨f1, f2⟩ := vx_frame hsame
  rw [hhp] at f1 f2
  have hWs : s.WarmedH U.vm := State.WarmedH.trans hW0 hW
  have hcl : s.vm.findClass cls = some ce.cls := by
    have h9 := hO.cls
    rw [hvm] at h9
    exact h9
  have hall : s.sameButNew ({ U with vm := s.vm } : State) locs mc ms := by
    subst hA
    obtain ⟨e1, e2⟩ := hsame
    rw [State.setFrames_setFrames] at e1
    have h2 : (T.setVm s.vm).sameButNew ({ U with vm := s.vm } : State) [] (0 + 1) (0 + 6) := ⟨e1, e2⟩
    have h3 := X.same.trans h2
    rw [List.append_nil] at h3
    exact h3.mono hc hs
  refine ⟨U, ?_, .threw T.heap.size, hrun, hend, Or.inr ⟨T.heap.size, rfl, cls, ce, locs, hx U hWs.alike f1 (fun q hq => f2 q hq (fun z hz => nomatch hz)), hce, hO.vm, hcl, hWs, hall, hf⟩⟩
  refine st1 _ ?_
  show Steps p.tables e below (T1.setTop { method := m, pc := pc + 3, locals := ls, stack := .ref T.heap.size :: rest, locked := none }) _
  jvm_step X₁.here [X₁.here.top, hexec, d3', Value.category]
  exact hsteps
theorem vx_throwS {cc : ByteArray} {pc : Nat} (hexec : p.tables.exec = Jvm.exec) (hb : c.code = cc) (hl : l.stackTraces = false) {own cls text : String} {names : List String} {ik is ic mc ms sa : Nat} {A : Nat → Prop}
    (hown : s.vm.findClass own = some m.cls) (hcls : Bundle.fit cls = true) (hnames : ∀ n ∈ names, Bundle.fit n = true)
    (hk : (Cond.classLink own ik cls).before args s = true) (hini : (Cond.initialized cls).before args s = true) (hstr : vk_R own is text sa s) (hat : ∀ w ∈ vx_atS own ic cls names, w.before args s = true)
    (hgood : ∀ w ∈ Cond.classLink own ik cls :: Cond.initialized cls :: vx_atS own ic cls names, vx_ot w = true)
    (hU : vx_Zq Bundle.tN "UNASSIGNED_STACK" Bundle.steD A s s.heap) (hN : vx_Zq Bundle.tN "SUPPRESSED_SENTINEL" Bundle.listD A s s.heap) (hS : va_S A s.heap H locs) (hsize : ls.size = c.maxLocals)
    (d0 : decode cc pc = .ok (.new ik, 3)) (d3 : decode cc (pc + 3) = .ok (.dup, 1)) (d4 : decode cc (pc + 4) = .ok (.ldc is, 2)) (d6 : decode cc (pc + 6) = .ok (.invokespecial ic, 3)) (d9 : decode cc (pc + 9) = .ok (.athrow, 1))
    (hout : ∀ x ∈ c.exceptionTable.toList, covers x (pc + 9) = false)
    (hRframes : names.length + 3 < R.frames) (hRlocals : (rest.map fun v => v.category).sum + (13 * (names.length + 1) + 43) ≤ R.locals) (hRcells : cells + 1 ≤ R.cells) (hRslots : slots + 6 ≤ R.slots) (hlocks : meth.locks = false)
    (hx : ∀ t : State, s.vm.Alike t.vm → H.size ≤ t.heap.size → (∀ q : Nat, q < H.size → t.heap[q]? = H[q]?) → XC cls s t)
    (hf : ∀ z ∈ locs, free z.base) (hc : cells + 1 ≤ mc) (hs : slots + 6 ≤ ms) :
    W p l e R s m args below meth c H locs cells slots (vx_MQ below Qc XC args s mc ms free) (F0 m pc ls rest) := by
  intro T hT X
  have htr : e.platform.stackTraces = false := (show e.platform.stackTraces = l.stackTraces by rw [X.admits.platform]).trans hl
  have Y := vx_rebase X (R' := { frames := R.frames, locals := R.locals, cells := 1, slots := 6 }) (Nat.le_refl _) (Nat.le_refl _) hRcells hRslots
  obtain ⟨s', hA⟩ : ∃ z, z = (T.setVm s.vm).setFrames (.invoking m args :: below) := ⟨_, rfl⟩
  rw [← hA] at Y
  have hvm : s'.vm = s.vm := by rw [hA]; rfl
  have hhp : s'.heap = H := by rw [hA]; exact hT
  have hW0 : s.WarmedH s'.vm := by rw [hvm]; exact State.WarmedH.refl s
  have hat' : ∀ w ∈ vx_atS own ic cls names, w.before args s' = true := fun w hw => vx_ot_at hW0 hvm.symm (hgood w (List.mem_cons_of_mem _ (List.mem_cons_of_mem _ hw))) (hat w hw)
  have hk' : (Cond.classLink own ik cls).before args s' = true := vx_ot_at hW0 hvm.symm (hgood _ List.mem_cons_self) hk
  have hini' : (Cond.initialized cls).before args s' = true := vx_ot_at hW0 hvm.symm (hgood _ (List.mem_cons_of_mem _ List.mem_cons_self)) hini
  have hU' : vx_Zq Bundle.tN "UNASSIGNED_STACK" Bundle.steD A s' s'.heap := by rw [hhp]; exact vx_Zq.moved hW0.alike (hU.kept hS.2.1)
  have hN' : vx_Zq Bundle.tN "SUPPRESSED_SENTINEL" Bundle.listD A s' s'.heap := by rw [hhp]; exact vx_Zq.moved hW0.alike (hN.kept hS.2.1)
  have h : ∀ w ∈ Bundle.ownAtoms own ic cls names, w.before args s' = true := vx_own hat' (vx_isRefq hU'.1) (vx_isRefq hN'.1) hU'.2.word hN'.2.word
  have hown' : s'.vm.findClass own = some m.cls := by rw [hvm]; exact hown
  have hins : (Cond.instantiable cls 6).before args s' = true := h _ (by simp [Bundle.ownAtoms])
  obtain ⟨vm₁, cX, kX, hfX, hkX, -, -, X₁, st1⟩ := Y.newCold hexec (own := own) (C := cls) (index := ik) (n := 6) hown' hk' hins hini'
    (g := F0 m pc ls rest) rfl (by rw [hb]; exact d0) (Nat.le_refl _) (Nat.le_refl _)
  generalize hT1 : (T.setVm vm₁).pushCell { cls := cX, slots := kX.instanceTypes.map defaultValue, vm := .none } = T1 at X₁ st1
  have hcat : (Value.ref T.heap.size).category = 1 := rfl
  have hcellA : T1.heap[T.heap.size]? = some (freshCell cX kX) := by rw [← hT1]; exact State.heap_pushCell_size _ _
  have d3' : decode c.code (pc + 3) = .ok (.dup, 1) := by rw [hb]; exact d3
  have d4' : decode c.code (pc + 4) = .ok (.ldc is, 2) := by rw [hb]; exact d4
  have hstr' : vk_R own is text sa s' := vk_R.warm hW0 hstr
  obtain ⟨U, hsteps, hrun, hend, hW, hsame, ce, hce, hO⟩ := X₁.ctorThrowS hexec htr (own := own) (cls := cls) (names := names) (ic := ic) hown' hcls hnames h (fun x hx => nomatch hx) hfX hkX hcellA (by rw [hhp, hT]; exact Nat.le_refl _) (msg := .ref sa) rfl
    (g := { method := m, pc := pc + 6, locals := ls, stack := .ref sa :: .ref T.heap.size :: .ref T.heap.size :: rest, locked := none }) rfl hsize rfl rfl (rest := rest) rfl
    (by rw [hb]; exact d6) (by rw [hb]; exact d9) hout hRframes (by simp only [List.map_cons, List.sum_cons, hcat]; omega) hlocks
  obtain ⟨f1, f2⟩ := vx_frame hsame
  rw [hhp] at f1 f2
  have hWs : s.WarmedH U.vm := State.WarmedH.trans hW0 hW
  have hcl : s.vm.findClass cls = some ce.cls := by
    have h9 := hO.cls
    rw [hvm] at h9
    exact h9
  have hall : s.sameButNew ({ U with vm := s.vm } : State) locs mc ms := by
    subst hA
    obtain ⟨e1, e2⟩ := hsame
    rw [State.setFrames_setFrames] at e1
    have h2 : (T.setVm s.vm).sameButNew ({ U with vm := s.vm } : State) [] (0 + 1) (0 + 6) := ⟨e1, e2⟩
    have h3 := X.same.trans h2
    rw [List.append_nil] at h3
    exact h3.mono hc hs
  refine ⟨U, ?_, .threw T.heap.size, hrun, hend, Or.inr ⟨T.heap.size, rfl, cls, ce, locs, hx U hWs.alike f1 (fun q hq => f2 q hq (fun z hz => nomatch hz)), hce, hO.vm, hcl, hWs, hall, hf⟩⟩
  refine st1 _ ?_
  show Steps p.tables e below (T1.setTop { method := m, pc := pc + 3, locals := ls, stack := .ref T.heap.size :: rest, locked := none }) _
  jvm_step X₁.here [X₁.here.top, hexec, d3', Value.category]
  exact X₁.ldcString hexec (own := own) (text := text) (index := is) (a := sa) hown' hstr'.1 hstr'.2
    (g := { method := m, pc := pc + 4, locals := ls, stack := .ref T.heap.size :: .ref T.heap.size :: rest, locked := none }) rfl d4' _ hsteps
theorem vx_throwSW {cc : ByteArray} {pc : Nat} (hexec : p.tables.exec = Jvm.exec) (hb : c.code = cc) (hl : l.stackTraces = false) {own cls text : String} {names : List String} {ik is ic mc ms sa : Nat} {A : Nat → Prop}
    (hown : s.vm.findClass own = some m.cls) (hcls : Bundle.fit cls = true) (hnames : ∀ n ∈ names, Bundle.fit n = true)
    (hk : (Cond.classLink own ik cls).before args s = true) (hini : (Cond.initialized cls).before args s = true) (hstr : vk_R own is text sa s) (hat : ∀ w ∈ vx_atS own ic cls names, w.before args s = true)
    (hgood : ∀ w ∈ Cond.classLink own ik cls :: Cond.initialized cls :: vx_atS own ic cls names, vx_ot w = true)
    (hU : vx_Zq Bundle.tN "UNASSIGNED_STACK" Bundle.steD A s s.heap) (hN : vx_Zq Bundle.tN "SUPPRESSED_SENTINEL" Bundle.listD A s s.heap) (hS : va_S A s.heap H locs) (hsize : ls.size = c.maxLocals)
    (d0 : decode cc pc = .ok (.new ik, 3)) (d3 : decode cc (pc + 3) = .ok (.dup, 1)) (d4 : decode cc (pc + 4) = .ok (.ldc_w is, 3)) (d7 : decode cc (pc + 7) = .ok (.invokespecial ic, 3)) (d10 : decode cc (pc + 10) = .ok (.athrow, 1))
    (hout : ∀ x ∈ c.exceptionTable.toList, covers x (pc + 10) = false)
    (hRframes : names.length + 3 < R.frames) (hRlocals : (rest.map fun v => v.category).sum + (13 * (names.length + 1) + 43) ≤ R.locals) (hRcells : cells + 1 ≤ R.cells) (hRslots : slots + 6 ≤ R.slots) (hlocks : meth.locks = false)
    (hx : ∀ t : State, s.vm.Alike t.vm → H.size ≤ t.heap.size → (∀ q : Nat, q < H.size → t.heap[q]? = H[q]?) → XC cls s t)
    (hf : ∀ z ∈ locs, free z.base) (hc : cells + 1 ≤ mc) (hs : slots + 6 ≤ ms) :
    W p l e R s m args below meth c H locs cells slots (vx_MQ below Qc XC args s mc ms free) (F0 m pc ls rest) := by
  intro T hT X
  have htr : e.platform.stackTraces = false := (show e.platform.stackTraces = l.stackTraces by rw [X.admits.platform]).trans hl
  have Y := vx_rebase X (R' := { frames := R.frames, locals := R.locals, cells := 1, slots := 6 }) (Nat.le_refl _) (Nat.le_refl _) hRcells hRslots
  obtain ⟨s', hA⟩ : ∃ z, z = (T.setVm s.vm).setFrames (.invoking m args :: below) := ⟨_, rfl⟩
  rw [← hA] at Y
  have hvm : s'.vm = s.vm := by rw [hA]; rfl
  have hhp : s'.heap = H := by rw [hA]; exact hT
  have hW0 : s.WarmedH s'.vm := by rw [hvm]; exact State.WarmedH.refl s
  have hat' : ∀ w ∈ vx_atS own ic cls names, w.before args s' = true := fun w hw => vx_ot_at hW0 hvm.symm (hgood w (List.mem_cons_of_mem _ (List.mem_cons_of_mem _ hw))) (hat w hw)
  have hk' : (Cond.classLink own ik cls).before args s' = true := vx_ot_at hW0 hvm.symm (hgood _ List.mem_cons_self) hk
  have hini' : (Cond.initialized cls).before args s' = true := vx_ot_at hW0 hvm.symm (hgood _ (List.mem_cons_of_mem _ List.mem_cons_self)) hini
  have hU' : vx_Zq Bundle.tN "UNASSIGNED_STACK" Bundle.steD A s' s'.heap := by rw [hhp]; exact vx_Zq.moved hW0.alike (hU.kept hS.2.1)
  have hN' : vx_Zq Bundle.tN "SUPPRESSED_SENTINEL" Bundle.listD A s' s'.heap := by rw [hhp]; exact vx_Zq.moved hW0.alike (hN.kept hS.2.1)
  have h : ∀ w ∈ Bundle.ownAtoms own ic cls names, w.before args s' = true := vx_own hat' (vx_isRefq hU'.1) (vx_isRefq hN'.1) hU'.2.word hN'.2.word
  have hown' : s'.vm.findClass own = some m.cls := by rw [hvm]; exact hown
  have hins : (Cond.instantiable cls 6).before args s' = true := h _ (by simp [Bundle.ownAtoms])
  obtain ⟨vm₁, cX, kX, hfX, hkX, -, -, X₁, st1⟩ := Y.newCold hexec (own := own) (C := cls) (index := ik) (n := 6) hown' hk' hins hini'
    (g := F0 m pc ls rest) rfl (by rw [hb]; exact d0) (Nat.le_refl _) (Nat.le_refl _)
  generalize hT1 : (T.setVm vm₁).pushCell { cls := cX, slots := kX.instanceTypes.map defaultValue, vm := .none } = T1 at X₁ st1
  have hcat : (Value.ref T.heap.size).category = 1 := rfl
  have hcellA : T1.heap[T.heap.size]? = some (freshCell cX kX) := by rw [← hT1]; exact State.heap_pushCell_size _ _
  have d3' : decode c.code (pc + 3) = .ok (.dup, 1) := by rw [hb]; exact d3
  have d4' : decode c.code (pc + 4) = .ok (.ldc_w is, 3) := by rw [hb]; exact d4
  have hstr' : vk_R own is text sa s' := vk_R.warm hW0 hstr
  obtain ⟨U, hsteps, hrun, hend, hW, hsame, ce, hce, hO⟩ := X₁.ctorThrowS hexec htr (own := own) (cls := cls) (names := names) (ic := ic) hown' hcls hnames h (fun x hx => nomatch hx) hfX hkX hcellA (by rw [hhp, hT]; exact Nat.le_refl _) (msg := .ref sa) rfl
    (g := { method := m, pc := pc + 7, locals := ls, stack := .ref sa :: .ref T.heap.size :: .ref T.heap.size :: rest, locked := none }) rfl hsize rfl rfl (rest := rest) rfl
    (by rw [hb]; exact d7) (by rw [hb]; exact d10) hout hRframes (by simp only [List.map_cons, List.sum_cons, hcat]; omega) hlocks
  obtain ⟨f1, f2⟩ := vx_frame hsame
  rw [hhp] at f1 f2
  have hWs : s.WarmedH U.vm := State.WarmedH.trans hW0 hW
  have hcl : s.vm.findClass cls = some ce.cls := by
    have h9 := hO.cls
    rw [hvm] at h9
    exact h9
  have hall : s.sameButNew ({ U with vm := s.vm } : State) locs mc ms := by
    subst hA
    obtain ⟨e1, e2⟩ := hsame
    rw [State.setFrames_setFrames] at e1
    have h2 : (T.setVm s.vm).sameButNew ({ U with vm := s.vm } : State) [] (0 + 1) (0 + 6) := ⟨e1, e2⟩
    have h3 := X.same.trans h2
    rw [List.append_nil] at h3
    exact h3.mono hc hs
  refine ⟨U, ?_, .threw T.heap.size, hrun, hend, Or.inr ⟨T.heap.size, rfl, cls, ce, locs, hx U hWs.alike f1 (fun q hq => f2 q hq (fun z hz => nomatch hz)), hce, hO.vm, hcl, hWs, hall, hf⟩⟩
  refine st1 _ ?_
  show Steps p.tables e below (T1.setTop { method := m, pc := pc + 3, locals := ls, stack := .ref T.heap.size :: rest, locked := none }) _
  jvm_step X₁.here [X₁.here.top, hexec, d3', Value.category]
  exact X₁.ldcStringW hexec (own := own) (text := text) (index := is) (a := sa) hown' hstr'.1 hstr'.2
    (g := { method := m, pc := pc + 4, locals := ls, stack := .ref T.heap.size :: .ref T.heap.size :: rest, locked := none }) rfl d4' _ hsteps
end Ends
section Bodies
variable {l : Launch}
theorem vx_ofW {y : MethodName} {ws ws' : List Cond} {rm : Room} {Pc : Array Value → State → Prop} {Qc : Array Value → State → Outcome → State → Prop} {XC : String → State → State → Prop} {mc ms : Nat} {free : Addr → Prop} {cc : ByteArray} {maxL : Nat} {ret : Option FieldType}
    (hy : plainName y.cls = true) (hw : ws = Cond.code y cc maxL ret :: ws')
    (body : ∀ p e s m args below meth c s₁, BodyLoose p l y (headSpec ws rm) cc maxL ret e s m args below meth c s₁ → c.maxLocals = maxL → (∀ x ∈ c.exceptionTable.toList, False) → Pc args s →
      W p l e (headSpec ws rm).room s m args below meth c s.heap [] 0 0 (vx_MQ below Qc XC args s mc ms free) (entryFrame m args maxL)) : vx_Met l y ws rm Pc Qc XC mc ms free := by
  refine MetFree.of_bodyS (code := cc) (maxLocals := maxL) (ret := ret) hy ?_ ?_
  · intro args s m h hn
    obtain ⟨meth, c, h1, h2, h3, h4, h5, h6, -, -⟩ := Cond.code_spec hn (atoms_spec (ws := ws) h _ (by rw [hw]; exact List.mem_cons_self))
    exact ⟨meth, c, h1, h2, h3, h4, h5, h6⟩
  · intro p e s m args below meth c s₁ B hml hP _
    have hh0 : s₁.heap = s.heap := by rw [B.state]; rfl
    have ht : ∀ x ∈ c.exceptionTable.toList, False := by
      obtain ⟨meth9, c9, h1, h2, -, -, -, -, h7, -⟩ := Cond.code_spec B.named (atoms_spec (ws := ws) B.pre _ (by rw [hw]; exact List.mem_cons_self))
      cases Option.some.inj (h1.symm.trans B.method)
      cases Option.some.inj (h2.symm.trans (Stand.of_body B).code)
      intro x hx
      rw [Array.isEmpty_iff.mp h7] at hx
      cases hx
    obtain ⟨t, a1, o, b1, b2, b3⟩ := body p e s m args below meth c s₁ B hml ht hP s₁ hh0 (Stand.of_body B)
    exact ⟨t, o, a1, b1, b2, b3⟩
theorem vx_table {p : Program} {x y : MethodName} {S : Spec} {cc bytes : ByteArray} {maxL maxL' : Nat} {ret ret' : Option FieldType} {e : Env} {s s₁ : State} {m : MethodId} {args : Array Value} {below : List Frame} {meth : Method} {c : Code} {hh : List (Nat × Nat × Nat × Nat)}
    (B : BodyLoose p l y S cc maxL ret e s m args below meth c s₁) (h : (Cond.codeWith y bytes maxL' ret' hh).before args s = true) : c.exceptionTable.toList = tableOf hh := by
  obtain ⟨m9, meth9, c9, hn9, h1, h2, -, -, h6, -⟩ := Cond.codeWith_spec h
  cases Option.some.inj (hn9.symm.trans B.named)
  cases Option.some.inj (h1.symm.trans B.method)
  cases Option.some.inj (h2.symm.trans (Stand.of_body B).code)
  rw [← h6, table_eq]
end Bodies
end VXA
section VXS
variable {p : Program} {l : Launch} {e : Env} {R : Room} {s : State} {m : MethodId} {args : Array Value} {below : List Frame} {meth : Method} {c : Code} {T : State} {H : Heap} {locs : List Loc} {cells slots : Nat}
abbrev vx_CSW (R : Room) (s : State) (args : Array Value) (own : String) (index : Nat) (y : MethodName) (bytes : ByteArray) (maxL : Nat) (ret : Option FieldType) (hh : List (Nat × Nat × Nat × Nat)) (ws : List Cond) (rm : Room) (mc ms n : Nat) : Prop :=
  (rm.cells = mc ∧ rm.slots = ms ∧ rm.frames + 1 ≤ R.frames ∧ 8 + (maxL + 11) + rm.locals ≤ R.locals ∧ (∀ w ∈ ws, ∀ (a' : Array Value) (U : State), s.WarmedH U.vm → w.before a' U = true) ∧ Cond.codeWith y bytes maxL ret hh ∈ ws) ∧
  (Cond.codeWith y bytes maxL ret hh).before args s = true ∧ (Cond.initialized y.cls).before args s = true ∧ (y.cls ≠ "java/lang/invoke/MethodHandle" ∧ y.cls ≠ "java/lang/invoke/VarHandle") ∧
  (∀ sig, parseMethodDescriptor y.desc = some sig → n = sig.parameters.length) ∧ (Cond.methodLink own index y).before args s = true ∧ (Cond.static y).before args s = true
theorem vx_cwSW {own : String} {index maxL mc ms : Nat} {y : MethodName} {bytes : ByteArray} {ret : Option FieldType} {hh : List (Nat × Nat × Nat × Nat)} {Ts ws ws' : List Cond} {rm : Room} (n : Nat) (ht : ∀ w ∈ Ts, w.before args s = true) (hT : GoodIn Ts (va_wsS own index y ws)) (hw : ws = Cond.codeWith y bytes maxL ret hh :: ws') (hrc : rm.cells = mc) (hrs : rm.slots = ms)
    (hd : y.cls ≠ "java/lang/invoke/MethodHandle" ∧ y.cls ≠ "java/lang/invoke/VarHandle" ∧ (parseMethodDescriptor y.desc).map (fun d => d.parameters.length) = some n) (hR : rm.frames + 1 ≤ R.frames ∧ 8 + (maxL + 11) + rm.locals ≤ R.locals) :
    vx_CSW R s args own index y bytes maxL ret hh ws rm mc ms n := by
  have ok : ∀ w ∈ va_wsS own index y ws, w.before args s = true := fun w h => ht w (hT w h).1
  have hG : GoodIn Ts ws := fun w h => hT w (by unfold va_wsS; exact List.mem_append_right _ h)
  have hc : Cond.codeWith y bytes maxL ret hh ∈ ws := by rw [hw]; exact List.mem_cons_self
  refine ⟨⟨hrc, hrs, hR.1, hR.2, pay_in ht hG, hc⟩, ht _ (hG _ hc).1, ok _ (by simp [va_wsS]), ⟨hd.1, hd.2.1⟩, fun sig h => ?_, ok _ (by simp [va_wsS]), ok _ (by simp [va_wsS])⟩
  have h2 := hd.2.2
  rw [h] at h2
  exact (Option.some.inj h2).symm
theorem vx_callSW (X : Stand p l e R s m args below meth c T locs cells slots) (hexec : p.tables.exec = Jvm.exec) {own : String} {index : Nat} {y : MethodName} {bytes : ByteArray} {maxL : Nat} {ret : Option FieldType} {hh : List (Nat × Nat × Nat × Nat)}
    (hown : s.vm.findClass own = some m.cls) (hlink : (Cond.methodLink own index y).before args s = true) (hstat : (Cond.static y).before args s = true) (hinit : (Cond.initialized y.cls).before args s = true)
    (hcode : (Cond.codeWith y bytes maxL ret hh).before args s = true) (hy : y.cls ≠ "java/lang/invoke/MethodHandle" ∧ y.cls ≠ "java/lang/invoke/VarHandle")
    {W9 : Nat} {Pre : Pt → Array Value → Prop} {Post : Pt → Array Value → Option Value → Pt → Prop} (hK : Back l R p e below s args y 3 W9 Pre Post)
    {g : JFrame} (hg : g.method = m) (hsize : g.locals.size = c.maxLocals) {argsL rest : List Value} (hlen : ∀ sig, parseMethodDescriptor y.desc = some sig → argsL.length = sig.parameters.length)
    (hstack : g.stack = argsL.reverse ++ rest) (hW : 2 * g.monitorRoom + (rest.map fun v => v.category).sum ≤ W9) (hdg : decode c.code g.pc = .ok (.invokestatic index, 3))
    (hpre : ∀ vm₁, s.WarmedH vm₁ → Pre ⟨T.setVm vm₁, locs, cells, slots⟩ argsL.toArray) :
    ∃ (v : Option Value) (vm₁ : Vm) (B : Pt), s.WarmedH vm₁ ∧ Stand p l e R s m args below meth c B.U B.locs B.cells B.slots ∧ Post ⟨T.setVm vm₁, locs, cells, slots⟩ argsL.toArray v B ∧
      ∀ target, Steps p.tables e below (B.U.setTop { g with pc := g.pc + 3, stack := v.toList ++ rest }) target → Steps p.tables e below (T.setTop g) target := by
  obtain ⟨mk, methM, cM, hnamed, hmethM, -, -, -, -, -, -, hsigM⟩ := Cond.codeWith_spec hcode
  have hstatic : methM.isStatic = true := Cond.static_spec hnamed hmethM hstat
  obtain ⟨kP, hkP, -⟩ := className_of_methodNamed hnamed
  have hinitP : kP.init = .initialized := Cond.initialized_spec (findClass_of_methodNamed hnamed) hkP hinit
  obtain ⟨vm₁, X₁, hstep₁⟩ := X.invokestatic hexec hown hlink hnamed hmethM hstatic hkP hinitP hy (g := g) hg (argsL := argsL) (rest := rest) (hlen _ hsigM) hstack hdg
  obtain ⟨v, B, X', hpost, hsteps⟩ := hK m meth c ⟨T.setVm vm₁, locs, cells, slots⟩ { g with stack := rest } (.invokestatic index) mk argsL.toArray X₁ hg hsize hdg hW (X₁.named hnamed) (hpre vm₁ X₁.warmed)
  exact ⟨v, vm₁, B, X₁.warmed, X', hpost, fun target h => hstep₁ _ fun acts => by rw [doInvoke_state]; exact hsteps.trans h⟩
theorem vx_runSW {y : MethodName} {bytes cc : ByteArray} {maxL nL mc ms n index : Nat} {ret : Option FieldType} {hh : List (Nat × Nat × Nat × Nat)} {ws : List Cond} {rm : Room} {Pc : Array Value → State → Prop} {Qc : Array Value → State → Outcome → State → Prop} {free : Addr → Prop} {Ts : List Cond} {own : String} {As rest : List Value} {g : JFrame}
    (S : CallFix p m c cc nL s args Ts own) (hM : Met l y ws rm Pc Qc mc ms free) (cw : vx_CSW R s args own index y bytes maxL ret hh ws rm mc ms n) (hp : PreS s H Pc As)
    (hg : g.method = m) (hn : As.length = n) (hsize : g.locals.size = nL) (hstack : g.stack = As.reverse ++ rest) (hW : 2 * g.monitorRoom + (rest.map fun v => v.category).sum ≤ 8) (hdg : decode cc g.pc = .ok (.invokestatic index, 3)) (hf : cells + mc ≤ R.cells ∧ slots + ms ≤ R.slots) :
    va_Run p l e R s m args below meth c H locs cells slots mc ms g rest (Qc As.toArray) (free) := by
  obtain ⟨⟨hrc, hrs, hfr, hlo, hws, hcw⟩, hcode, hini, hy, hlen, hl, hstt⟩ := cw
  have hK : Back l R p e below s args y 3 8 (PreOf R mc ms Pc) (PostOf Qc mc ms free) := va_backW (hh := hh) (bytes := bytes) (maxL := maxL) (ret := ret) hM hp.1 hrc hrs hfr hlo hws hcw (fun a' U hW => word_at hW (Or.inl (by first | rfl | simp [Cond.onTables, Cond.keeps, Cond.steady])) hini)
  obtain ⟨hx, hb, hml, ho, -⟩ := S
  intro T hT X
  obtain ⟨v, vm₁, ⟨U', l2, c2, s2⟩, hW₁, X', ⟨g', mk, t, L, e1, e2, hq, h1, hL, h2, h3⟩, st⟩ := vx_callSW X hx (hh := hh) (bytes := bytes) (maxL := maxL) (ret := ret) ho hl hstt hini hcode hy hK hg (hsize.trans hml.symm) (argsL := As) (rest := rest) (fun sig h => hn.trans (hlen sig h)) hstack hW (by rw [hb]; exact hdg)
    (fun vm₁ hW₁ => ⟨hf.1, hf.2, hp.2 (T.setVm vm₁) hT hW₁⟩)
  dsimp only [Pt.U, Pt.locs, Pt.cells, Pt.slots] at X' e1 e2 h1 h2 h3 st
  subst h1; subst h2; subst h3
  exact ⟨v, (T.setVm vm₁).calling g' mk As.toArray, t, U', L, hT, X', hL, e1, e2, hq, st⟩
theorem vx_outP {p : Program} {l : Launch} {e : Env} {R : Room} {s : State} {m : MethodId} {args : Array Value} {below : List Frame} {meth : Method} {c : Code} {H : Heap} {locs : List Loc} {cells slots : Nat} {free : Addr → Prop} {ls : Array Slot} {rest : List Value} {Qc : Array Value → State → Outcome → State → Prop} {XC : String → State → State → Prop}
    {pc : Nat} {own E : String} {ce : Cell} {q : Addr} {mc ms : Nat} (hown : s.vm.findClass own = some m.cls) (hlocks : meth.locks = false)
    (hpass : ∀ z ∈ c.exceptionTable.toList, covers z pc = false ∨ (z.catchType ≠ 0 ∧ ∃ nm : String, (Cond.classLink own z.catchType nm).before args s = true ∧ va_Nc E nm s)) (hcell : H[q]? = some ce) (hv : ce.vm = .none) (hcl : s.vm.findClass E = some ce.cls)
    (hx : ∀ t : State, t.heap = H → s.vm.Alike t.vm → XC E s t) (hf : ∀ z ∈ locs, free z.base) (hc : cells ≤ mc) (hs : slots ≤ ms) :
    vx_W p l e R s m args below meth c H locs cells slots (vx_MQ below Qc XC args s mc ms free) (F0 m pc ls rest) q := by
  intro T hT X
  have hpl : e.platform.magicAccessors = ({} : Platform).magicAccessors := by rw [X.admits.platform]
  obtain ⟨vm', hW', X', st⟩ := X.outThrough hlocks q (g := F0 m pc ls rest) rfl rfl rfl (cell := ce) (by rw [hT]; exact hcell) (by rw [hv]; rfl)
    (by obtain ⟨k9, h9, -⟩ := Vm.findClass_spec hcl; exact ⟨k9, h9⟩) (fun z hz => by
      rcases hpass z hz with h | ⟨hz0, nm, hl1, hn1⟩
      · exact Or.inl h
      · obtain ⟨c6, hc6, hcl6⟩ := Cond.classLink_spec hown hl1 e.platform hpl
        obtain ⟨a8, b8, h1, h2, h3⟩ := hn1
        cases Option.some.inj (h1.symm.trans hcl)
        cases Option.some.inj (h2.symm.trans hc6)
        exact Or.inr ⟨hz0, _, hcl6, h3⟩)
  obtain ⟨g₀, hfr⟩ := X'.frames_eq
  have hcell9 : ((T.setVm vm').setFrames (.throwing q :: below)).heap[q]? = some ce := by
    show T.heap[q]? = some ce
    rw [hT]; exact hcell
  have hend : Ended ((T.setVm vm').setFrames (.throwing q :: below)) below (.threw q) := State.frames_setFrames _ (State.cur_lt_of_frames hfr)
  refine ⟨(T.setVm vm').setFrames (.throwing q :: below), ?_, .threw q, X'.here.running, hend, Or.inr ⟨q, rfl, E, ce, locs, hx _ hT (X'.ends _).1.alike, hcell9, hv, hcl, (X'.ends _).1, (X'.ends _).2.mono hc hs, hf⟩⟩
  rw [X.pushThrowing_eq]
  exact st
theorem vx_lt {D : va_G} {cl : List vw_C} {ws : va_W} {H1 : Heap} (h : va_P D cl ws H1) {k : Nat} {q : Nat × va_E} (hk : ws[k]? = some q) : q.1 < H1.size := (h k q hk).lt
end VXS
section VXH
section
variable {l : Launch} {R : Room} {p : Program} {e : Env} {below : List Frame} {s : State} {sargs : Array Value} {y : MethodName} {len W9 : Nat}
theorem vx_backW {ws : List Cond} {rm : Room} {Pc : Array Value → State → Prop} {Qc : Array Value → State → Outcome → State → Prop} {XC : String → State → State → Prop} {mc ms : Nat} {free : Addr → Prop} {bytes : ByteArray} {maxL : Nat} {ret : Option FieldType} {hh : List (Nat × Nat × Nat × Nat)}
    (hM : vx_Met l y ws rm Pc Qc XC mc ms free) (hblind : FrameBlind Pc) (hrc : rm.cells = mc) (hrs : rm.slots = ms)
    (hframes : rm.frames + 1 ≤ R.frames) (hlocals : W9 + (maxL + 11) + rm.locals ≤ R.locals)
    (hws : ∀ w ∈ ws, ∀ a' U, s.WarmedH U.vm → w.before a' U = true) (hcode : Cond.codeWith y bytes maxL ret hh ∈ ws) (hinit : ∀ a' U, s.WarmedH U.vm → (Cond.initialized y.cls).before a' U = true) :
    vx_Back l R p e below s sargs y len W9 (PreOf R mc ms Pc) (PostOf Qc mc ms free) (vx_Post XC mc ms free) := by
  intro m meth c A g ig mk a X hg hsize hdg hW hn hp
  have h1 : (headSpec ws rm).pre.before a A.U = true := atoms_intro fun w hw => hws w hw _ _ X.warmed
  have h2 : (Cond.codeWith y bytes maxL ret hh).before a A.U = true := hws _ hcode _ _ X.warmed
  have h3 : (Cond.initialized y.cls).before a A.U = true := hinit _ _ X.warmed
  have h4 : A.cells + (headSpec ws rm).room.cells ≤ R.cells := by rw [show (headSpec ws rm).room.cells = mc from hrc]; exact hp.1
  have h5 : A.slots + (headSpec ws rm).room.slots ≤ R.slots := by rw [show (headSpec ws rm).room.slots = ms from hrs]; exact hp.2.1
  have hPc : Pc a (A.U.calling g mk a) := hblind _ _ _ _ hp.2.2
  obtain ⟨U, Ls, c0, s0⟩ := A
  dsimp only [Pt.U, Pt.locs, Pt.cells, Pt.slots] at h1 h2 h3 h4 h5 X hn hPc ⊢
  obtain ⟨m9, methY, cY, hn9, hmY, hcY, -, hlY, -⟩ := Cond.codeWith_spec h2
  cases Option.some.inj (hn9.symm.trans hn)
  obtain ⟨kY, hkY, -⟩ := className_of_methodNamed hn
  have hinitY : kY.init = .initialized := Cond.initialized_spec (findClass_of_methodNamed hn) hkY h3
  have h : At U g.method c below := by rw [hg]; exact X.here
  have hlocals9 : W9 + (maxL + 11) + (headSpec ws rm).room.locals ≤ R.locals := hlocals
  have happ : (headSpec ws rm).appliesLoose y e.platform (U.calling g mk a) = true :=
    Spec.appliesLoose_calling (g := g) h hdg hn hkY hinitY
      (X.room_calling (g := g) (R' := (headSpec ws rm).room) hsize hmY hcY hframes (by rw [hlY]; omega) h4 h5) h1
  obtain ⟨mid, hmid⟩ := h.above
  have hfr : (U.setTop g).frames = (.java g :: mid) ++ below := by rw [State.frames_setTop' g h.top, hmid]; rfl
  obtain ⟨o, s₂, hsteps, -, hend, hq⟩ := Steps.callFree hM p X.admits X.cas X.clock (acts := []) hfr happ hPc trivial
  have hq' : vx_Q Qc XC mc ms free a (U.calling g mk a) o s₂ := hq
  rw [State.frames_setTop' g h.top] at hend
  obtain ⟨g₀, hg0⟩ := Option.isSome_iff_exists.mp h.top
  obtain ⟨r, hr⟩ := State.topJava?_eq_some.mp hg0
  have hr' : (({ U with heap := s₂.heap, slotsUsed := s₂.slotsUsed } : State).setVm s₂.vm).frames = .java g₀ :: r := hr
  rcases hq' with ⟨hqc, L, hfe, hL⟩ | ⟨q, rfl, E, ce, L, hx, hce, hcv, hcl, hW₂, hsm, hL⟩
  · obtain ⟨⟨v, rfl⟩, hW₂, e2, q2, q3, q4, q5, q6⟩ := id hfe
    have e3 : s₂ = ({ (U.calling g mk a).setFrames s₂.frames with heap := s₂.heap, slotsUsed := s₂.slotsUsed } : State).setVm s₂.vm := by
      have : s₂ = ({ s₂ with vm := (U.calling g mk a).vm } : State).setVm s₂.vm := rfl
      rw [e2] at this
      exact this
    obtain ⟨c₂, i₂, len₂, hc₂, hd₂, hf₂⟩ := hend
    have hW' : U.WarmedH s₂.vm := hW₂
    have hcc : c₂ = c := by
      have h1 : s₂.code? g.method = U.code? g.method := by
        rw [State.code?_eq, State.code?_eq, hW'.alike.method?]
      exact Option.some.inj (hc₂.symm.trans (h1.trans h.code))
    subst hcc
    have hlen : len₂ = len := by rw [hdg] at hd₂; cases hd₂; rfl
    subst hlen
    have hs₂ : s₂ = (({ U with heap := s₂.heap, slotsUsed := s₂.slotsUsed } : State).setVm s₂.vm).setTop { g with pc := g.pc + len₂, stack := v.toList ++ g.stack } := by
      refine e3.trans ?_
      rw [hf₂, State.calling_eq h.top, State.setFrames_setFrames, State.setTop_of_frames _ hr', hr]
      rfl
    have hsame : U.sameButNew ({ U with heap := s₂.heap, slotsUsed := s₂.slotsUsed } : State) L mc ms := by
      refine ⟨?_, q2, q3, q4, q5, q6⟩
      obtain ⟨t, ht, -⟩ := State.frames_cons hr
      show ({ U with heap := s₂.heap, slotsUsed := s₂.slotsUsed } : State) = { U.setFrames U.frames with heap := s₂.heap, slotsUsed := s₂.slotsUsed }
      rw [State.setFrames_self ht]
    subst hg
    refine Or.inl ⟨v, ⟨(({ U with heap := s₂.heap, slotsUsed := s₂.slotsUsed } : State).setVm s₂.vm), Ls ++ L, c0 + mc, s0 + ms⟩,
      ⟨X.admits, X.cas, X.clock, X.frames, X.room, X.hears, X.method, X.code, (X.here.setHeapUsed s₂.heap s₂.slotsUsed).setVm hW'.alike, X.tail, State.WarmedH.trans X.warmed hW', X.limits, X.bytes, X.same.trans (hsame.setVm s.vm)⟩,
      ⟨g, mk, s₂, L, rfl, rfl, hqc, rfl, hL, rfl, rfl⟩, ?_⟩
    show Steps p.tables e below _ ((({ U with heap := s₂.heap, slotsUsed := s₂.slotsUsed } : State).setVm s₂.vm).setTop { g with pc := g.pc + len₂, stack := v.toList ++ g.stack })
    rw [← hs₂]
    exact hsteps
  · obtain ⟨e2, q2, q3, q4, q5, q6⟩ := id hsm
    have e3 : s₂ = ({ (U.calling g mk a).setFrames s₂.frames with heap := s₂.heap, slotsUsed := s₂.slotsUsed } : State).setVm s₂.vm := by
      have : s₂ = ({ s₂ with vm := (U.calling g mk a).vm } : State).setVm s₂.vm := rfl
      rw [e2] at this
      exact this
    have hf₂ : s₂.frames = .throwing q :: .java g :: U.frames.tail := hend
    have hW' : U.WarmedH s₂.vm := hW₂
    have hs₂ : s₂ = ((({ U with heap := s₂.heap, slotsUsed := s₂.slotsUsed } : State).setVm s₂.vm).setTop g).pushFrame (.throwing q) := by
      refine e3.trans ?_
      rw [hf₂, State.calling_eq h.top, State.setFrames_setFrames, State.pushFrame, State.frames_setTop _ hr', State.setTop_of_frames _ hr', State.setFrames_setFrames, hr]
      rfl
    have hsame : U.sameButNew ({ U with heap := s₂.heap, slotsUsed := s₂.slotsUsed } : State) L mc ms := by
      refine ⟨?_, q2, q3, q4, q5, q6⟩
      obtain ⟨t, ht, -⟩ := State.frames_cons hr
      show ({ U with heap := s₂.heap, slotsUsed := s₂.slotsUsed } : State) = { U.setFrames U.frames with heap := s₂.heap, slotsUsed := s₂.slotsUsed }
      rw [State.setFrames_self ht]
    subst hg
    refine Or.inr ⟨q, ⟨(({ U with heap := s₂.heap, slotsUsed := s₂.slotsUsed } : State).setVm s₂.vm), Ls ++ L, c0 + mc, s0 + ms⟩,
      ⟨X.admits, X.cas, X.clock, X.frames, X.room, X.hears, X.method, X.code, (X.here.setHeapUsed s₂.heap s₂.slotsUsed).setVm hW'.alike, X.tail, State.WarmedH.trans X.warmed hW', X.limits, X.bytes, X.same.trans (hsame.setVm s.vm)⟩,
      ⟨g, mk, s₂, L, E, ce, rfl, rfl, hx, hce, hcv, hcl, rfl, hL, rfl, rfl⟩, ?_⟩
    show Steps p.tables e below _ (((({ U with heap := s₂.heap, slotsUsed := s₂.slotsUsed } : State).setVm s₂.vm).setTop g).pushFrame (.throwing q))
    rw [← hs₂]
    exact hsteps
end
variable {p : Program} {l : Launch} {e : Env} {R : Room} {s : State} {m : MethodId} {args : Array Value} {below : List Frame} {meth : Method} {c : Code} {T : State} {H : Heap} {locs : List Loc} {cells slots : Nat}
theorem vx_callVX (X : Stand p l e R s m args below meth c T locs cells slots) (hexec : p.tables.exec = Jvm.exec) {own C : String} {index : Nat} {y : MethodName} {bytes : ByteArray} {maxL : Nat} {ret : Option FieldType} {hh : List (Nat × Nat × Nat × Nat)}
    (hown : s.vm.findClass own = some m.cls) (hlink : (Cond.methodLink own index y).before args s = true) (hinst : (Cond.instanceMethod y).before args s = true) (hsel : (Cond.selects C y y).before args s = true)
    (hcode : (Cond.codeWith y bytes maxL ret hh).before args s = true) (hy : y.cls ≠ "java/lang/invoke/MethodHandle" ∧ y.cls ≠ "java/lang/invoke/VarHandle")
    {W9 : Nat} {Pre : Pt → Array Value → Prop} {Post : Pt → Array Value → Option Value → Pt → Prop} {PostX : Pt → Array Value → Addr → Pt → Prop} (hK : vx_Back l R p e below s args y 3 W9 Pre Post PostX)
    {b : Addr} {cellB : Cell} (hcell : T.heap[b]? = some cellB) (hobj : cellB.vm.isStatics = false) (hcls : s.vm.findClass C = some cellB.cls)
    {g : JFrame} (hg : g.method = m) (hsize : g.locals.size = c.maxLocals) {argsL rest : List Value} (hlen : ∀ sig, parseMethodDescriptor y.desc = some sig → argsL.length = sig.parameters.length)
    (hstack : g.stack = argsL.reverse ++ .ref b :: rest) (hW : 2 * g.monitorRoom + (rest.map fun v => v.category).sum ≤ W9) (hdg : decode c.code g.pc = .ok (.invokevirtual index, 3))
    (hpre : ∀ vm₁, s.WarmedH vm₁ → Pre ⟨T.setVm vm₁, locs, cells, slots⟩ (Value.ref b :: argsL).toArray) :
    (∃ (v : Option Value) (vm₁ : Vm) (B : Pt), s.WarmedH vm₁ ∧ Stand p l e R s m args below meth c B.U B.locs B.cells B.slots ∧ Post ⟨T.setVm vm₁, locs, cells, slots⟩ (Value.ref b :: argsL).toArray v B ∧
      ∀ target, Steps p.tables e below (B.U.setTop { g with pc := g.pc + 3, stack := v.toList ++ rest }) target → Steps p.tables e below (T.setTop g) target) ∨
    (∃ (q : Addr) (vm₁ : Vm) (B : Pt), s.WarmedH vm₁ ∧ Stand p l e R s m args below meth c B.U B.locs B.cells B.slots ∧ PostX ⟨T.setVm vm₁, locs, cells, slots⟩ (Value.ref b :: argsL).toArray q B ∧
      Steps p.tables e below (T.setTop g) ((B.U.setTop { g with stack := rest }).pushFrame (.throwing q))) := by
  obtain ⟨mk, methM, hnamed, hmethM, hstM, habM⟩ := Cond.instanceMethod_spec hinst
  obtain ⟨m8, methM', cM, hn8, hmethM', -, -, -, -, -, -, hsigM⟩ := Cond.codeWith_spec hcode
  cases Option.some.inj (hn8.symm.trans hnamed)
  cases hmethM.symm.trans hmethM'
  obtain ⟨c2, r2, m2, q1, q2, q3, q4, kP, hkP, hkPi⟩ := Cond.selects_spec hsel
  cases hcls.symm.trans q1
  cases (State.methodFound?_of_named hnamed hy).symm.trans q2
  cases hnamed.symm.trans q3
  have hselP : selectMethod e.platform s.vm cellB.cls mk = .method mk := by rw [Launch.admits_selectMethod X.admits]; exact q4
  obtain ⟨vm₁, X₁, hstep₁⟩ := X.invokevirtual hexec hown hlink hnamed hmethM hstM hkP hkPi hy (a := b) (cell := cellB) hcell
    (fun z h => by rw [h] at hobj; cases hobj) hselP hmethM habM hkP hkPi (g := g) hg (argsL := argsL) (rest := rest) (hlen _ hsigM) hstack hdg
  rcases hK m meth c ⟨T.setVm vm₁, locs, cells, slots⟩ { g with stack := rest } (.invokevirtual index) mk (Value.ref b :: argsL).toArray X₁ hg hsize hdg hW (X₁.named hnamed) (hpre vm₁ X₁.warmed) with ⟨v, B, X', hpost, hsteps⟩ | ⟨q, B, X', hpost, hsteps⟩
  · exact Or.inl ⟨v, vm₁, B, X₁.warmed, X', hpost, fun target h => hstep₁ _ fun acts => by rw [doInvoke_state]; exact hsteps.trans h⟩
  · exact Or.inr ⟨q, vm₁, B, X₁.warmed, X', hpost, hstep₁ _ fun acts => by rw [doInvoke_state]; exact hsteps⟩
theorem vx_callSX (X : Stand p l e R s m args below meth c T locs cells slots) (hexec : p.tables.exec = Jvm.exec) {own : String} {index : Nat} {y : MethodName} {bytes : ByteArray} {maxL : Nat} {ret : Option FieldType} {hh : List (Nat × Nat × Nat × Nat)}
    (hown : s.vm.findClass own = some m.cls) (hlink : (Cond.methodLink own index y).before args s = true) (hstat : (Cond.static y).before args s = true) (hinit : (Cond.initialized y.cls).before args s = true)
    (hcode : (Cond.codeWith y bytes maxL ret hh).before args s = true) (hy : y.cls ≠ "java/lang/invoke/MethodHandle" ∧ y.cls ≠ "java/lang/invoke/VarHandle")
    {W9 : Nat} {Pre : Pt → Array Value → Prop} {Post : Pt → Array Value → Option Value → Pt → Prop} {PostX : Pt → Array Value → Addr → Pt → Prop} (hK : vx_Back l R p e below s args y 3 W9 Pre Post PostX)
    {g : JFrame} (hg : g.method = m) (hsize : g.locals.size = c.maxLocals) {argsL rest : List Value} (hlen : ∀ sig, parseMethodDescriptor y.desc = some sig → argsL.length = sig.parameters.length)
    (hstack : g.stack = argsL.reverse ++ rest) (hW : 2 * g.monitorRoom + (rest.map fun v => v.category).sum ≤ W9) (hdg : decode c.code g.pc = .ok (.invokestatic index, 3))
    (hpre : ∀ vm₁, s.WarmedH vm₁ → Pre ⟨T.setVm vm₁, locs, cells, slots⟩ argsL.toArray) :
    (∃ (v : Option Value) (vm₁ : Vm) (B : Pt), s.WarmedH vm₁ ∧ Stand p l e R s m args below meth c B.U B.locs B.cells B.slots ∧ Post ⟨T.setVm vm₁, locs, cells, slots⟩ argsL.toArray v B ∧
      ∀ target, Steps p.tables e below (B.U.setTop { g with pc := g.pc + 3, stack := v.toList ++ rest }) target → Steps p.tables e below (T.setTop g) target) ∨
    (∃ (q : Addr) (vm₁ : Vm) (B : Pt), s.WarmedH vm₁ ∧ Stand p l e R s m args below meth c B.U B.locs B.cells B.slots ∧ PostX ⟨T.setVm vm₁, locs, cells, slots⟩ argsL.toArray q B ∧
      Steps p.tables e below (T.setTop g) ((B.U.setTop { g with stack := rest }).pushFrame (.throwing q))) := by
  obtain ⟨mk, methM, cM, hnamed, hmethM, -, -, -, -, -, -, hsigM⟩ := Cond.codeWith_spec hcode
  have hstatic : methM.isStatic = true := Cond.static_spec hnamed hmethM hstat
  obtain ⟨kP, hkP, -⟩ := className_of_methodNamed hnamed
  have hinitP : kP.init = .initialized := Cond.initialized_spec (findClass_of_methodNamed hnamed) hkP hinit
  obtain ⟨vm₁, X₁, hstep₁⟩ := X.invokestatic hexec hown hlink hnamed hmethM hstatic hkP hinitP hy (g := g) hg (argsL := argsL) (rest := rest) (hlen _ hsigM) hstack hdg
  rcases hK m meth c ⟨T.setVm vm₁, locs, cells, slots⟩ { g with stack := rest } (.invokestatic index) mk argsL.toArray X₁ hg hsize hdg hW (X₁.named hnamed) (hpre vm₁ X₁.warmed) with ⟨v, B, X', hpost, hsteps⟩ | ⟨q, B, X', hpost, hsteps⟩
  · exact Or.inl ⟨v, vm₁, B, X₁.warmed, X', hpost, fun target h => hstep₁ _ fun acts => by rw [doInvoke_state]; exact hsteps.trans h⟩
  · exact Or.inr ⟨q, vm₁, B, X₁.warmed, X', hpost, hstep₁ _ fun acts => by rw [doInvoke_state]; exact hsteps⟩
theorem vx_callVW (X : Stand p l e R s m args below meth c T locs cells slots) (hexec : p.tables.exec = Jvm.exec) {own C : String} {index : Nat} {y : MethodName} {bytes : ByteArray} {maxL : Nat} {ret : Option FieldType} {hh : List (Nat × Nat × Nat × Nat)}
    (hown : s.vm.findClass own = some m.cls) (hlink : (Cond.methodLink own index y).before args s = true) (hinst : (Cond.instanceMethod y).before args s = true) (hsel : (Cond.selects C y y).before args s = true)
    (hcode : (Cond.codeWith y bytes maxL ret hh).before args s = true) (hy : y.cls ≠ "java/lang/invoke/MethodHandle" ∧ y.cls ≠ "java/lang/invoke/VarHandle")
    {W9 : Nat} {Pre : Pt → Array Value → Prop} {Post : Pt → Array Value → Option Value → Pt → Prop} (hK : Back l R p e below s args y 3 W9 Pre Post)
    {b : Addr} {cellB : Cell} (hcell : T.heap[b]? = some cellB) (hobj : cellB.vm.isStatics = false) (hcls : s.vm.findClass C = some cellB.cls)
    {g : JFrame} (hg : g.method = m) (hsize : g.locals.size = c.maxLocals) {argsL rest : List Value} (hlen : ∀ sig, parseMethodDescriptor y.desc = some sig → argsL.length = sig.parameters.length)
    (hstack : g.stack = argsL.reverse ++ .ref b :: rest) (hW : 2 * g.monitorRoom + (rest.map fun v => v.category).sum ≤ W9) (hdg : decode c.code g.pc = .ok (.invokevirtual index, 3))
    (hpre : ∀ vm₁, s.WarmedH vm₁ → Pre ⟨T.setVm vm₁, locs, cells, slots⟩ (Value.ref b :: argsL).toArray) :
    ∃ (v : Option Value) (vm₁ : Vm) (B : Pt), s.WarmedH vm₁ ∧ Stand p l e R s m args below meth c B.U B.locs B.cells B.slots ∧ Post ⟨T.setVm vm₁, locs, cells, slots⟩ (Value.ref b :: argsL).toArray v B ∧
      ∀ target, Steps p.tables e below (B.U.setTop { g with pc := g.pc + 3, stack := v.toList ++ rest }) target → Steps p.tables e below (T.setTop g) target := by
  obtain ⟨mk, methM, hnamed, hmethM, hstM, habM⟩ := Cond.instanceMethod_spec hinst
  obtain ⟨m8, methM', cM, hn8, hmethM', -, -, -, -, -, -, hsigM⟩ := Cond.codeWith_spec hcode
  cases Option.some.inj (hn8.symm.trans hnamed)
  cases hmethM.symm.trans hmethM'
  obtain ⟨c2, r2, m2, q1, q2, q3, q4, kP, hkP, hkPi⟩ := Cond.selects_spec hsel
  cases hcls.symm.trans q1
  cases (State.methodFound?_of_named hnamed hy).symm.trans q2
  cases hnamed.symm.trans q3
  have hselP : selectMethod e.platform s.vm cellB.cls mk = .method mk := by rw [Launch.admits_selectMethod X.admits]; exact q4
  obtain ⟨vm₁, X₁, hstep₁⟩ := X.invokevirtual hexec hown hlink hnamed hmethM hstM hkP hkPi hy (a := b) (cell := cellB) hcell
    (fun z h => by rw [h] at hobj; cases hobj) hselP hmethM habM hkP hkPi (g := g) hg (argsL := argsL) (rest := rest) (hlen _ hsigM) hstack hdg
  obtain ⟨v, B, X', hpost, hsteps⟩ := hK m meth c ⟨T.setVm vm₁, locs, cells, slots⟩ { g with stack := rest } (.invokevirtual index) mk (Value.ref b :: argsL).toArray X₁ hg hsize hdg hW (X₁.named hnamed) (hpre vm₁ X₁.warmed)
  exact ⟨v, vm₁, B, X₁.warmed, X', hpost, fun target h => hstep₁ _ fun acts => by rw [doInvoke_state]; exact hsteps.trans h⟩
abbrev vx_CVW (R : Room) (s : State) (args : Array Value) (own C : String) (index : Nat) (y : MethodName) (bytes : ByteArray) (maxL : Nat) (ret : Option FieldType) (hh : List (Nat × Nat × Nat × Nat)) (ws : List Cond) (rm : Room) (mc ms n : Nat) : Prop :=
  (rm.cells = mc ∧ rm.slots = ms ∧ rm.frames + 1 ≤ R.frames ∧ 8 + (maxL + 11) + rm.locals ≤ R.locals ∧ (∀ w ∈ ws, ∀ (a' : Array Value) (U : State), s.WarmedH U.vm → w.before a' U = true) ∧ Cond.codeWith y bytes maxL ret hh ∈ ws) ∧
  (Cond.codeWith y bytes maxL ret hh).before args s = true ∧ (Cond.initialized y.cls).before args s = true ∧ (y.cls ≠ "java/lang/invoke/MethodHandle" ∧ y.cls ≠ "java/lang/invoke/VarHandle") ∧
  (∀ sig, parseMethodDescriptor y.desc = some sig → n = sig.parameters.length) ∧ (Cond.methodLink own index y).before args s = true ∧ (Cond.instanceMethod y).before args s = true ∧ (Cond.selects C y y).before args s = true
theorem vx_cwVW {own C : String} {index maxL mc ms : Nat} {y : MethodName} {bytes : ByteArray} {ret : Option FieldType} {hh : List (Nat × Nat × Nat × Nat)} {Ts ws ws' : List Cond} {rm : Room} (n : Nat) (ht : ∀ w ∈ Ts, w.before args s = true) (hT : GoodIn Ts (wsV own index C y ws)) (hw : ws = Cond.codeWith y bytes maxL ret hh :: ws') (hrc : rm.cells = mc) (hrs : rm.slots = ms)
    (hd : y.cls = C ∧ y.cls ≠ "java/lang/invoke/MethodHandle" ∧ y.cls ≠ "java/lang/invoke/VarHandle" ∧ (parseMethodDescriptor y.desc).map (fun d => d.parameters.length) = some n) (hR : rm.frames + 1 ≤ R.frames ∧ 8 + (maxL + 11) + rm.locals ≤ R.locals) :
    vx_CVW R s args own C index y bytes maxL ret hh ws rm mc ms n := by
  obtain ⟨hC, hd⟩ := hd
  subst hC
  have ok : ∀ w ∈ wsV own index y.cls y ws, w.before args s = true := fun w h => ht w (hT w h).1
  have hG : GoodIn Ts ws := fun w h => hT w (by unfold wsV; exact List.mem_append_right _ h)
  have hc : Cond.codeWith y bytes maxL ret hh ∈ ws := by rw [hw]; exact List.mem_cons_self
  refine ⟨⟨hrc, hrs, hR.1, hR.2, pay_in ht hG, hc⟩, ht _ (hG _ hc).1, ok _ (by simp [wsV]), ⟨hd.1, hd.2.1⟩, fun sig h => ?_, ok _ (by simp [wsV]), ok _ (by simp [wsV]), ok _ (by simp [wsV])⟩
  have h2 := hd.2.2
  rw [h] at h2
  exact (Option.some.inj h2).symm
theorem vx_runVW {y : MethodName} {bytes cc : ByteArray} {maxL nL mc ms n index : Nat} {ret : Option FieldType} {hh : List (Nat × Nat × Nat × Nat)} {ws : List Cond} {rm : Room} {Pc : Array Value → State → Prop} {Qc : Array Value → State → Outcome → State → Prop} {free : Addr → Prop} {Ts : List Cond} {own C : String} {b : Addr} {As rest : List Value} {g : JFrame}
    (S : CallFix p m c cc nL s args Ts own) (hM : Met l y ws rm Pc Qc mc ms free) (cw : vx_CVW R s args own C index y bytes maxL ret hh ws rm mc ms n) (hp : PreV s H C b Pc As)
    (hg : g.method = m) (hn : As.length = n) (hsize : g.locals.size = nL) (hstack : g.stack = As.reverse ++ .ref b :: rest) (hW : 2 * g.monitorRoom + (rest.map fun v => v.category).sum ≤ 8) (hdg : decode cc g.pc = .ok (.invokevirtual index, 3)) (hf : cells + mc ≤ R.cells ∧ slots + ms ≤ R.slots) :
    va_Run p l e R s m args below meth c H locs cells slots mc ms g rest (Qc (Value.ref b :: As).toArray) free := by
  obtain ⟨⟨hrc, hrs, hfr, hlo, hws, hcw⟩, hcode, hini, hy, hlen, hl, hin, hse⟩ := cw
  have hK : Back l R p e below s args y 3 8 (PreOf R mc ms Pc) (PostOf Qc mc ms free) := va_backW (hh := hh) (bytes := bytes) (maxL := maxL) (ret := ret) hM hp.1 hrc hrs hfr hlo hws hcw (fun a' U hW => word_at hW (Or.inl (by first | rfl | simp [Cond.onTables, Cond.keeps, Cond.steady])) hini)
  obtain ⟨hx, hb, hml, ho, -⟩ := S
  obtain ⟨-, ⟨cellB, hcB, hoB, hclB⟩, hPc⟩ := hp
  intro T hT X
  obtain ⟨v, vm₁, ⟨U', l2, c2, s2⟩, hW₁, X', ⟨g', mk, t, L, e1, e2, hq, h1, hL, h2, h3⟩, st⟩ := vx_callVW X hx (C := C) (hh := hh) (bytes := bytes) (maxL := maxL) (ret := ret) ho hl hin hse hcode hy hK (by rw [hT]; exact hcB) hoB hclB hg (hsize.trans hml.symm) (argsL := As) (rest := rest) (fun sig h => hn.trans (hlen sig h)) hstack hW (by rw [hb]; exact hdg)
    (fun vm₁ hW₁ => ⟨hf.1, hf.2, hPc (T.setVm vm₁) hT hW₁⟩)
  dsimp only [Pt.U, Pt.locs, Pt.cells, Pt.slots] at X' e1 e2 h1 h2 h3 st
  subst h1; subst h2; subst h3
  exact ⟨v, (T.setVm vm₁).calling g' mk (Value.ref b :: As).toArray, t, U', L, hT, X', hL, e1, e2, hq, st⟩
section
variable {y : MethodName} {bytes cc : ByteArray} {maxL nL mc ms n index : Nat} {ret : Option FieldType} {ws : List Cond} {rm : Room} {Pc : Array Value → State → Prop} {Qc : Array Value → State → Outcome → State → Prop} {XC : String → State → State → Prop} {free : Addr → Prop} {Ts : List Cond} {own C : String} {b : Addr} {As rest : List Value} {g : JFrame}
theorem vx_runVX {hh : List (Nat × Nat × Nat × Nat)} (S : CallFix p m c cc nL s args Ts own) (hM : vx_Met l y ws rm Pc Qc XC mc ms free) (cw : vx_CVW R s args own C index y bytes maxL ret hh ws rm mc ms n) (hp : PreV s H C b Pc As)
    (hg : g.method = m) (hn : As.length = n) (hsize : g.locals.size = nL) (hstack : g.stack = As.reverse ++ .ref b :: rest) (hW : 2 * g.monitorRoom + (rest.map fun v => v.category).sum ≤ 8) (hdg : decode cc g.pc = .ok (.invokevirtual index, 3)) (hf : cells + mc ≤ R.cells ∧ slots + ms ≤ R.slots) :
    vx_Run p l e R s m args below meth c H locs cells slots mc ms g rest (Qc (Value.ref b :: As).toArray) XC free := by
  obtain ⟨⟨hrc, hrs, hfr, hlo, hws, hcw⟩, hcode, hini, hy, hlen, hl, hin, hse⟩ := cw
  have hK : vx_Back l R p e below s args y 3 8 (PreOf R mc ms Pc) (PostOf Qc mc ms free) (vx_Post XC mc ms free) := vx_backW (hh := hh) (bytes := bytes) (maxL := maxL) (ret := ret) hM hp.1 hrc hrs hfr hlo hws hcw (fun a' U hW => word_at hW (Or.inl (by first | rfl | simp [Cond.onTables, Cond.keeps, Cond.steady])) hini)
  obtain ⟨hx, hb, hml, ho, -⟩ := S
  obtain ⟨-, ⟨cellB, hcB, hoB, hclB⟩, hPc⟩ := hp
  intro T hT X
  rcases vx_callVX X hx (C := C) (hh := hh) (bytes := bytes) (maxL := maxL) (ret := ret) ho hl hin hse hcode hy hK (by rw [hT]; exact hcB) hoB hclB hg (hsize.trans hml.symm) (argsL := As) (rest := rest) (fun sig h => hn.trans (hlen sig h)) hstack hW (by rw [hb]; exact hdg)
    (fun vm₁ hW₁ => ⟨hf.1, hf.2, hPc (T.setVm vm₁) hT hW₁⟩) with ⟨v, vm₁, ⟨U', l2, c2, s2⟩, hW₁, X', ⟨g', mk, t, L, e1, e2, hq, h1, hL, h2, h3⟩, st⟩ | ⟨q, vm₁, ⟨U', l2, c2, s2⟩, hW₁, X', ⟨g', mk, t, L, E, ce, e1, e2, hq, hce, hcv, hcl, h1, hL, h2, h3⟩, st⟩
  · dsimp only [Pt.U, Pt.locs, Pt.cells, Pt.slots] at X' e1 e2 h1 h2 h3 st
    subst h1; subst h2; subst h3
    exact Or.inl ⟨v, (T.setVm vm₁).calling g' mk (Value.ref b :: As).toArray, t, U', L, hT, X', hL, e1, e2, hq, st⟩
  · dsimp only [Pt.U, Pt.locs, Pt.cells, Pt.slots] at X' e1 e2 h1 h2 h3 st hcl
    subst h1; subst h2; subst h3
    exact Or.inr ⟨q, (T.setVm vm₁).calling g' mk (Value.ref b :: As).toArray, t, U', L, E, ce, hT, X', hL, e1, e2, hq, hce, hcv, vx_cls hW₁ hcl, st⟩
theorem vx_runSX {hh : List (Nat × Nat × Nat × Nat)} (S : CallFix p m c cc nL s args Ts own) (hM : vx_Met l y ws rm Pc Qc XC mc ms free) (cw : vx_CSW R s args own index y bytes maxL ret hh ws rm mc ms n) (hp : PreS s H Pc As)
    (hg : g.method = m) (hn : As.length = n) (hsize : g.locals.size = nL) (hstack : g.stack = As.reverse ++ rest) (hW : 2 * g.monitorRoom + (rest.map fun v => v.category).sum ≤ 8) (hdg : decode cc g.pc = .ok (.invokestatic index, 3)) (hf : cells + mc ≤ R.cells ∧ slots + ms ≤ R.slots) :
    vx_Run p l e R s m args below meth c H locs cells slots mc ms g rest (Qc As.toArray) XC free := by
  obtain ⟨⟨hrc, hrs, hfr, hlo, hws, hcw⟩, hcode, hini, hy, hlen, hl, hstt⟩ := cw
  have hK : vx_Back l R p e below s args y 3 8 (PreOf R mc ms Pc) (PostOf Qc mc ms free) (vx_Post XC mc ms free) := vx_backW (hh := hh) (bytes := bytes) (maxL := maxL) (ret := ret) hM hp.1 hrc hrs hfr hlo hws hcw (fun a' U hW => word_at hW (Or.inl (by first | rfl | simp [Cond.onTables, Cond.keeps, Cond.steady])) hini)
  obtain ⟨hx, hb, hml, ho, -⟩ := S
  intro T hT X
  rcases vx_callSX X hx (hh := hh) (bytes := bytes) (maxL := maxL) (ret := ret) ho hl hstt hini hcode hy hK hg (hsize.trans hml.symm) (argsL := As) (rest := rest) (fun sig h => hn.trans (hlen sig h)) hstack hW (by rw [hb]; exact hdg)
    (fun vm₁ hW₁ => ⟨hf.1, hf.2, hp.2 (T.setVm vm₁) hT hW₁⟩) with ⟨v, vm₁, ⟨U', l2, c2, s2⟩, hW₁, X', ⟨g', mk, t, L, e1, e2, hq, h1, hL, h2, h3⟩, st⟩ | ⟨q, vm₁, ⟨U', l2, c2, s2⟩, hW₁, X', ⟨g', mk, t, L, E, ce, e1, e2, hq, hce, hcv, hcl, h1, hL, h2, h3⟩, st⟩
  · dsimp only [Pt.U, Pt.locs, Pt.cells, Pt.slots] at X' e1 e2 h1 h2 h3 st
    subst h1; subst h2; subst h3
    exact Or.inl ⟨v, (T.setVm vm₁).calling g' mk As.toArray, t, U', L, hT, X', hL, e1, e2, hq, st⟩
  · dsimp only [Pt.U, Pt.locs, Pt.cells, Pt.slots] at X' e1 e2 h1 h2 h3 st hcl
    subst h1; subst h2; subst h3
    exact Or.inr ⟨q, (T.setVm vm₁).calling g' mk As.toArray, t, U', L, E, ce, hT, X', hL, e1, e2, hq, hce, hcv, vx_cls hW₁ hcl, st⟩
end
end VXH
theorem vx_ofWH {l : Launch} {y : MethodName} {ws ws' : List Cond} {rm : Room} {Pc : Array Value → State → Prop} {Qc : Array Value → State → Outcome → State → Prop} {XC : String → State → State → Prop} {mc ms : Nat} {free : Addr → Prop} {cc : ByteArray} {maxL : Nat} {ret : Option FieldType} {hh : List (Nat × Nat × Nat × Nat)}
    (hy : plainName y.cls = true) (hw : ws = Cond.codeWith y cc maxL ret hh :: ws')
    (body : ∀ p e s m args below meth c s₁, BodyLoose p l y (headSpec ws rm) cc maxL ret e s m args below meth c s₁ → c.maxLocals = maxL → Pc args s →
      W p l e (headSpec ws rm).room s m args below meth c s.heap [] 0 0 (vx_MQ below Qc XC args s mc ms free) (entryFrame m args maxL)) : vx_Met l y ws rm Pc Qc XC mc ms free := by
  refine MetFree.of_bodyS (code := cc) (maxLocals := maxL) (ret := ret) hy ?_ ?_
  · intro args s m h hn
    obtain ⟨m9, meth, c, hn9, h1, h2, h3, h4, -, h5, h6, -⟩ := Cond.codeWith_spec (atoms_spec (ws := ws) h _ (by rw [hw]; exact List.mem_cons_self))
    cases hn.symm.trans hn9
    exact ⟨meth, c, h1, h2, h3, h4, h5, h6⟩
  · intro p e s m args below meth c s₁ B hml hP _
    have hh0 : s₁.heap = s.heap := by rw [B.state]; rfl
    obtain ⟨t, a1, o, b1, b2, b3⟩ := body p e s m args below meth c s₁ B hml hP s₁ hh0 (Stand.of_body B)
    exact ⟨t, o, a1, b1, b2, b3⟩
end
section
abbrev R_A : String := "AlertRows"
abbrev R_L : String := "AlertRows$Alarm"
abbrev R_G : String := "AlertRows$Group"
abbrev R_P : String := "AlertRows$Person"
abbrev R_M : String := "AlertRowsModel"
abbrev R_W : String := "AlertRowsLaw"
abbrev R_Y : String := "java/util/ArrayList"
abbrev R_YL : String := "java/util/AbstractList"
abbrev R_YC : String := "java/util/AbstractCollection"
abbrev R_YA : String := "java/util/Arrays"
abbrev R_YO : String := "java/util/Objects"
abbrev R_YP : String := "jdk/internal/util/Preconditions"
abbrev R_YS : String := "jdk/internal/util/ArraysSupport"
abbrev R_YM : String := "java/lang/Math"
def T_A : u_T := fun k => match k with
  | 0 => ("AlertRows", "groups", "Ljava/util/ArrayList;", true)
  | 1 => ("AlertRows", "persons", "Ljava/util/ArrayList;", true)
  | 2 => ("AlertRows", "alarms", "Ljava/util/ArrayList;", true)
  | 3 => ("AlertRows", "second", "I", false)
  | 4 => ("AlertRows", "lateAnswers", "I", false)
  | 5 => ("AlertRows", "earlyAnswers", "I", false)
  | _ => ("AlertRows", "secondAlarms", "I", false)
def ty_A : Nat → FieldType := fun k => match k with
  | 0 => .object "java/util/ArrayList"
  | 1 => .object "java/util/ArrayList"
  | 2 => .object "java/util/ArrayList"
  | 3 => .int
  | 4 => .int
  | 5 => .int
  | _ => .int
theorem nmok_A : ∀ a, a < 7 → ∀ b, b < 7 → a ≠ b → (T_A a).2.1 ≠ (T_A b).2.1 := by decide +kernel
theorem tyok_A : ∀ k, k < 7 → parseFieldDescriptor (T_A k).2.2.1 = some (ty_A k) := by decide +kernel
theorem defok_A : ∀ j, j < 7 → defaultValue (ty_A j) = vp_V [.null, .null, .null, .int 0, .int 0, .int 0, .int 0] j := by
  intro j hj
  rcases (show j = 0 ∨ j = 1 ∨ j = 2 ∨ j = 3 ∨ j = 4 ∨ j = 5 ∨ j = 6 by omega) with rfl | rfl | rfl | rfl | rfl | rfl | rfl <;> rfl
def T_L : u_T := fun k => match k with
  | 0 => ("AlertRows$Alarm", "crew", "I", true)
  | 1 => ("AlertRows$Alarm", "test", "Z", true)
  | 2 => ("AlertRows$Alarm", "begin", "I", true)
  | 3 => ("AlertRows$Alarm", "end", "I", true)
  | 4 => ("AlertRows$Alarm", "raiser", "I", true)
  | 5 => ("AlertRows$Alarm", "reach", "[I", true)
  | 6 => ("AlertRows$Alarm", "said", "[I", true)
  | _ => ("AlertRows$Alarm", "state", "I", false)
def ty_L : Nat → FieldType := fun k => match k with
  | 0 => .int
  | 1 => .boolean
  | 2 => .int
  | 3 => .int
  | 4 => .int
  | 5 => .array .int
  | 6 => .array .int
  | _ => .int
theorem nmok_L : ∀ a, a < 8 → ∀ b, b < 8 → a ≠ b → (T_L a).2.1 ≠ (T_L b).2.1 := by decide +kernel
theorem tyok_L : ∀ k, k < 8 → parseFieldDescriptor (T_L k).2.2.1 = some (ty_L k) := by decide +kernel
theorem defok_L : ∀ j, j < 8 → defaultValue (ty_L j) = vp_V [.int 0, .int 0, .int 0, .int 0, .int 0, .null, .null, .int 0] j := by
  intro j hj
  rcases (show j = 0 ∨ j = 1 ∨ j = 2 ∨ j = 3 ∨ j = 4 ∨ j = 5 ∨ j = 6 ∨ j = 7 by omega) with rfl | rfl | rfl | rfl | rfl | rfl | rfl | rfl <;> rfl
def T_G : u_T := fun k => match k with
  | 0 => ("AlertRows$Group", "least", "I", true)
  | 1 => ("AlertRows$Group", "time", "I", true)
  | 2 => ("AlertRows$Group", "following", "I", false)
  | 3 => ("AlertRows$Group", "asked", "I", false)
  | _ => ("AlertRows$Group", "answered", "I", false)
def ty_G : Nat → FieldType := fun k => match k with
  | 0 => .int
  | 1 => .int
  | 2 => .int
  | 3 => .int
  | _ => .int
theorem nmok_G : ∀ a, a < 5 → ∀ b, b < 5 → a ≠ b → (T_G a).2.1 ≠ (T_G b).2.1 := by decide +kernel
theorem tyok_G : ∀ k, k < 5 → parseFieldDescriptor (T_G k).2.2.1 = some (ty_G k) := by decide +kernel
theorem defok_G : ∀ j, j < 5 → defaultValue (ty_G j) = vp_V [.int 0, .int 0, .int 0, .int 0, .int 0] j := by
  intro j hj
  rcases (show j = 0 ∨ j = 1 ∨ j = 2 ∨ j = 3 ∨ j = 4 by omega) with rfl | rfl | rfl | rfl | rfl <;> rfl
def T_P : u_T := fun k => match k with
  | 0 => ("AlertRows$Person", "crew", "I", true)
  | 1 => ("AlertRows$Person", "kinds", "[I", true)
  | 2 => ("AlertRows$Person", "working", "[Z", true)
  | 3 => ("AlertRows$Person", "ways", "I", false)
  | 4 => ("AlertRows$Person", "state", "I", false)
  | 5 => ("AlertRows$Person", "closedAlarms", "I", false)
  | _ => ("AlertRows$Person", "closedAnswers", "I", false)
def ty_P : Nat → FieldType := fun k => match k with
  | 0 => .int
  | 1 => .array .int
  | 2 => .array .boolean
  | 3 => .int
  | 4 => .int
  | 5 => .int
  | _ => .int
theorem nmok_P : ∀ a, a < 7 → ∀ b, b < 7 → a ≠ b → (T_P a).2.1 ≠ (T_P b).2.1 := by decide +kernel
theorem tyok_P : ∀ k, k < 7 → parseFieldDescriptor (T_P k).2.2.1 = some (ty_P k) := by decide +kernel
theorem defok_P : ∀ j, j < 7 → defaultValue (ty_P j) = vp_V [.int 0, .null, .null, .int 0, .int 0, .int 0, .int 0] j := by
  intro j hj
  rcases (show j = 0 ∨ j = 1 ∨ j = 2 ∨ j = 3 ∨ j = 4 ∨ j = 5 ∨ j = 6 by omega) with rfl | rfl | rfl | rfl | rfl | rfl | rfl <;> rfl
def T_M : u_T := fun k => match k with
  | 0 => ("AlertRowsModel", "thrown", "I", false)
  | 1 => ("AlertRowsModel", "now", "I", false)
  | 2 => ("AlertRowsModel", "groups", "I", false)
  | 3 => ("AlertRowsModel", "least", "[I", true)
  | 4 => ("AlertRowsModel", "time", "[I", true)
  | 5 => ("AlertRowsModel", "following", "[I", true)
  | 6 => ("AlertRowsModel", "persons", "I", false)
  | 7 => ("AlertRowsModel", "group", "[I", true)
  | 8 => ("AlertRowsModel", "ways", "[I", true)
  | 9 => ("AlertRowsModel", "kind", "[I", true)
  | 10 => ("AlertRowsModel", "works", "[Z", true)
  | 11 => ("AlertRowsModel", "state", "[I", true)
  | 12 => ("AlertRowsModel", "alarms", "I", false)
  | 13 => ("AlertRowsModel", "of", "[I", true)
  | 14 => ("AlertRowsModel", "test", "[Z", true)
  | 15 => ("AlertRowsModel", "began", "[I", true)
  | 16 => ("AlertRowsModel", "by", "[I", true)
  | 17 => ("AlertRowsModel", "how", "[I", true)
  | 18 => ("AlertRowsModel", "asked", "[Z", true)
  | 19 => ("AlertRowsModel", "way", "[I", true)
  | 20 => ("AlertRowsModel", "delay", "[I", true)
  | 21 => ("AlertRowsModel", "said", "[I", true)
  | 22 => ("AlertRowsModel", "late", "I", false)
  | 23 => ("AlertRowsModel", "early", "I", false)
  | _ => ("AlertRowsModel", "seconds", "I", false)
def ty_M : Nat → FieldType := fun k => match k with
  | 0 => .int
  | 1 => .int
  | 2 => .int
  | 3 => .array .int
  | 4 => .array .int
  | 5 => .array .int
  | 6 => .int
  | 7 => .array .int
  | 8 => .array .int
  | 9 => .array .int
  | 10 => .array .boolean
  | 11 => .array .int
  | 12 => .int
  | 13 => .array .int
  | 14 => .array .boolean
  | 15 => .array .int
  | 16 => .array .int
  | 17 => .array .int
  | 18 => .array .boolean
  | 19 => .array .int
  | 20 => .array .int
  | 21 => .array .int
  | 22 => .int
  | 23 => .int
  | _ => .int
theorem nmok_M : ∀ a, a < 25 → ∀ b, b < 25 → a ≠ b → (T_M a).2.1 ≠ (T_M b).2.1 := by decide +kernel
theorem tyok_M : ∀ k, k < 25 → parseFieldDescriptor (T_M k).2.2.1 = some (ty_M k) := by decide +kernel
theorem defok_M : ∀ j, j < 25 → defaultValue (ty_M j) = vp_V [.int 0, .int 0, .int 0, .null, .null, .null, .int 0, .null, .null, .null, .null, .null, .int 0, .null, .null, .null, .null, .null, .null, .null, .null, .null, .int 0, .int 0, .int 0] j := by
  intro j hj
  rcases (show j = 0 ∨ j = 1 ∨ j = 2 ∨ j = 3 ∨ j = 4 ∨ j = 5 ∨ j = 6 ∨ j = 7 ∨ j = 8 ∨ j = 9 ∨ j = 10 ∨ j = 11 ∨ j = 12 ∨ j = 13 ∨ j = 14 ∨ j = 15 ∨ j = 16 ∨ j = 17 ∨ j = 18 ∨ j = 19 ∨ j = 20 ∨ j = 21 ∨ j = 22 ∨ j = 23 ∨ j = 24 by omega) with rfl | rfl | rfl | rfl | rfl | rfl | rfl | rfl | rfl | rfl | rfl | rfl | rfl | rfl | rfl | rfl | rfl | rfl | rfl | rfl | rfl | rfl | rfl | rfl | rfl <;> rfl
def T_Y : u_T := fun k => match k with
  | 0 => ("java/util/ArrayList", "elementData", "[Ljava/lang/Object;", false)
  | 1 => ("java/util/ArrayList", "size", "I", false)
  | _ => ("java/util/AbstractList", "modCount", "I", false)
def ty_Y : Nat → FieldType := fun k => match k with
  | 0 => .array (.object "java/lang/Object")
  | 1 => .int
  | _ => .int
theorem nmok_Y : ∀ a, a < 3 → ∀ b, b < 3 → a ≠ b → (T_Y a).2.1 ≠ (T_Y b).2.1 := by decide +kernel
theorem tyok_Y : ∀ k, k < 3 → parseFieldDescriptor (T_Y k).2.2.1 = some (ty_Y k) := by decide +kernel
theorem defok_Y : ∀ j, j < 3 → defaultValue (ty_Y j) = vp_V [.null, .int 0, .int 0] j := by
  intro j hj
  rcases (show j = 0 ∨ j = 1 ∨ j = 2 by omega) with rfl | rfl | rfl <;> rfl
abbrev vwCl : List vw_C := [(R_A, T_A, 7), (R_L, T_L, 8), (R_G, T_G, 5), (R_P, T_P, 7), (R_M, T_M, 25), (R_Y, T_Y, 3)]
def zstr : List (String × Nat × String) := [(R_A, 24, "a group needs 1 to 20 persons"), (R_A, 29, "a group's time is 1 to 3600 seconds"), (R_A, 37, "there are 12 groups"), (R_A, 216, "no such group"), (R_A, 59, "a next group has a higher number"), (R_A, 66, "there are 60 persons"), (R_A, 218, "no such person"), (R_A, 76, "a way's kind is 0 to 2"), (R_A, 85, "a person is 0, 1 or 2"), (R_A, 94, "nobody would be asked"), (R_A, 96, "there are 60 alarms"), (R_A, 220, "no such alarm"), (R_A, 109, "minutes are -1 to 120"), (R_A, 117, "the alarm did not reach this person"), (R_A, 140, "a tick is 1 to 5000 seconds"), (R_A, 143, "time ends at 999999"), (R_A, 175, "what is 0 to 6"), (R_A, 222, "i is below 0"), (R_A, 187, "what is 0 or 1"), (R_A, 200, "nobody was asked by a closed alarm"), (R_A, 214, "what is 0 to 4")]
abbrev cYC_init : ByteArray := prog_21_method_1_code
abbrev yYC_init : MethodName := ⟨R_YC, "<init>", "()V"⟩
abbrev cYL_init : ByteArray := prog_22_method_1_code
abbrev yYL_init : MethodName := ⟨R_YL, "<init>", "()V"⟩
abbrev cY_init : ByteArray := prog_23_method_2_code
abbrev yY_init : MethodName := ⟨R_Y, "<init>", "()V"⟩
abbrev cA_init : ByteArray := prog_1_method_1_code
abbrev yA_init : MethodName := ⟨R_A, "<init>", "()V"⟩
abbrev cY_size : ByteArray := prog_23_method_8_code
abbrev yY_size : MethodName := ⟨R_Y, "size", "()I"⟩
abbrev cG_init : ByteArray := prog_3_method_1_code
abbrev yG_init : MethodName := ⟨R_G, "<init>", "(II)V"⟩
abbrev cYM_max : ByteArray := prog_15_method_65_code
abbrev yYM_max : MethodName := ⟨R_YM, "max", "(II)I"⟩
abbrev cYS_newLength : ByteArray := prog_30_method_27_code
abbrev yYS_newLength : MethodName := ⟨R_YS, "newLength", "(III)I"⟩
abbrev cYM_min : ByteArray := prog_15_method_69_code
abbrev yYM_min : MethodName := ⟨R_YM, "min", "(II)I"⟩
abbrev cYA_copyOf3 : ByteArray := prog_24_method_120_code
abbrev yYA_copyOf3 : MethodName := ⟨R_YA, "copyOf", "([Ljava/lang/Object;ILjava/lang/Class;)[Ljava/lang/Object;"⟩
abbrev cYA_copyOf2 : ByteArray := prog_24_method_119_code
abbrev yYA_copyOf2 : MethodName := ⟨R_YA, "copyOf", "([Ljava/lang/Object;I)[Ljava/lang/Object;"⟩
abbrev cY_grow1 : ByteArray := prog_23_method_6_code
abbrev yY_grow1 : MethodName := ⟨R_Y, "grow", "(I)[Ljava/lang/Object;"⟩
abbrev cY_grow0 : ByteArray := prog_23_method_7_code
abbrev yY_grow0 : MethodName := ⟨R_Y, "grow", "()[Ljava/lang/Object;"⟩
abbrev cY_add3 : ByteArray := prog_23_method_24_code
abbrev yY_add3 : MethodName := ⟨R_Y, "add", "(Ljava/lang/Object;[Ljava/lang/Object;I)V"⟩
abbrev cY_add1 : ByteArray := prog_23_method_25_code
abbrev yY_add1 : MethodName := ⟨R_Y, "add", "(Ljava/lang/Object;)Z"⟩
abbrev cA_group : ByteArray := prog_1_method_2_code
abbrev yA_group : MethodName := ⟨R_A, "group", "(II)I"⟩
abbrev cW_group : ByteArray := method_3_code
abbrev yW_group : MethodName := ⟨R_W, "group", "(LAlertRows;II[J)I"⟩
abbrev cYS_hugeLength : ByteArray := prog_30_method_28_code
abbrev yYS_hugeLength : MethodName := ⟨R_YS, "hugeLength", "(II)I"⟩
abbrev cA_requireGroup : ByteArray := prog_1_method_16_code
abbrev yA_requireGroup : MethodName := ⟨R_A, "requireGroup", "(I)V"⟩
abbrev cYP_checkIndex : ByteArray := prog_31_method_11_code
abbrev yYP_checkIndex : MethodName := ⟨R_YP, "checkIndex", "(IILjava/util/function/BiFunction;)I"⟩
abbrev cYO_checkIndex : ByteArray := prog_27_method_17_code
abbrev yYO_checkIndex : MethodName := ⟨R_YO, "checkIndex", "(II)I"⟩
abbrev cY_elementData : ByteArray := prog_23_method_18_code
abbrev yY_elementData : MethodName := ⟨R_Y, "elementData", "(I)Ljava/lang/Object;"⟩
abbrev cY_get : ByteArray := prog_23_method_20_code
abbrev yY_get : MethodName := ⟨R_Y, "get", "(I)Ljava/lang/Object;"⟩
abbrev cA_groupOf : ByteArray := prog_1_method_20_code
abbrev yA_groupOf : MethodName := ⟨R_A, "groupOf", "(I)LAlertRows$Group;"⟩
abbrev cA_next : ByteArray := prog_1_method_3_code
abbrev yA_next : MethodName := ⟨R_A, "next", "(II)V"⟩
abbrev cW_next : ByteArray := method_4_code
abbrev yW_next : MethodName := ⟨R_W, "next", "(LAlertRows;II)I"⟩
abbrev cP_init : ByteArray := prog_4_method_1_code
abbrev yP_init : MethodName := ⟨R_P, "<init>", "(I)V"⟩
abbrev cA_person : ByteArray := prog_1_method_4_code
abbrev yA_person : MethodName := ⟨R_A, "person", "(I)I"⟩
abbrev cW_person : ByteArray := method_5_code
abbrev yW_person : MethodName := ⟨R_W, "person", "(LAlertRows;I[J)I"⟩
abbrev cA_requirePerson : ByteArray := prog_1_method_17_code
abbrev yA_requirePerson : MethodName := ⟨R_A, "requirePerson", "(I)V"⟩
abbrev cA_personOf : ByteArray := prog_1_method_21_code
abbrev yA_personOf : MethodName := ⟨R_A, "personOf", "(I)LAlertRows$Person;"⟩
abbrev cP_setWay : ByteArray := prog_4_method_2_code
abbrev yP_setWay : MethodName := ⟨R_P, "setWay", "(IZ)V"⟩
abbrev cA_way : ByteArray := prog_1_method_5_code
abbrev yA_way : MethodName := ⟨R_A, "way", "(IIZ)I"⟩
abbrev cW_way : ByteArray := method_6_code
abbrev yW_way : MethodName := ⟨R_W, "way", "(LAlertRows;IIZ[J)I"⟩
abbrev cA_is : ByteArray := prog_1_method_6_code
abbrev yA_is : MethodName := ⟨R_A, "is", "(II)V"⟩
abbrev cW_is : ByteArray := method_7_code
abbrev yW_is : MethodName := ⟨R_W, "is", "(LAlertRows;II)I"⟩
abbrev cP_wouldBeAsked : ByteArray := prog_4_method_3_code
abbrev yP_wouldBeAsked : MethodName := ⟨R_P, "wouldBeAsked", "(IZ)Z"⟩
abbrev cA_wouldAskSomebody : ByteArray := prog_1_method_23_code
abbrev yA_wouldAskSomebody : MethodName := ⟨R_A, "wouldAskSomebody", "(IZ)Z"⟩
abbrev cYA_fill : ByteArray := prog_24_method_103_code
abbrev yYA_fill : MethodName := ⟨R_YA, "fill", "([II)V"⟩
abbrev cL_init : ByteArray := prog_2_method_1_code
abbrev yL_init : MethodName := ⟨R_L, "<init>", "(IZIII)V"⟩
abbrev cP_reachNow : ByteArray := prog_4_method_4_code
abbrev yP_reachNow : MethodName := ⟨R_P, "reachNow", "()I"⟩
abbrev cL_ask : ByteArray := prog_2_method_2_code
abbrev yL_ask : MethodName := ⟨R_L, "ask", "(II)V"⟩
abbrev cA_raise : ByteArray := prog_1_method_24_code
abbrev yA_raise : MethodName := ⟨R_A, "raise", "(IZI)V"⟩
abbrev cA_alarm : ByteArray := prog_1_method_7_code
abbrev yA_alarm : MethodName := ⟨R_A, "alarm", "(IZ)I"⟩
abbrev cW_alarm : ByteArray := method_8_code
abbrev yW_alarm : MethodName := ⟨R_W, "alarm", "(LAlertRows;IZ[J)I"⟩
abbrev cA_requireAlarm : ByteArray := prog_1_method_18_code
abbrev yA_requireAlarm : MethodName := ⟨R_A, "requireAlarm", "(I)V"⟩
abbrev cA_alarmOf : ByteArray := prog_1_method_22_code
abbrev yA_alarmOf : MethodName := ⟨R_A, "alarmOf", "(I)LAlertRows$Alarm;"⟩
abbrev cL_reachOf : ByteArray := prog_2_method_4_code
abbrev yL_reachOf : MethodName := ⟨R_L, "reachOf", "(I)I"⟩
abbrev cL_hasReached : ByteArray := prog_2_method_6_code
abbrev yL_hasReached : MethodName := ⟨R_L, "hasReached", "(I)Z"⟩
abbrev cL_hasReachedBy : ByteArray := prog_2_method_7_code
abbrev yL_hasReachedBy : MethodName := ⟨R_L, "hasReachedBy", "(II)Z"⟩
abbrev cL_note : ByteArray := prog_2_method_3_code
abbrev yL_note : MethodName := ⟨R_L, "note", "(II)V"⟩
abbrev cL_hasAsked : ByteArray := prog_2_method_5_code
abbrev yL_hasAsked : MethodName := ⟨R_L, "hasAsked", "(I)Z"⟩
abbrev cA_noteLate : ByteArray := prog_1_method_25_code
abbrev yA_noteLate : MethodName := ⟨R_A, "noteLate", "(II)I"⟩
abbrev cA_answer : ByteArray := prog_1_method_8_code
abbrev yA_answer : MethodName := ⟨R_A, "answer", "(III)I"⟩
abbrev cW_answer : ByteArray := method_9_code
abbrev yW_answer : MethodName := ⟨R_W, "answer", "(LAlertRows;III[J)I"⟩
abbrev cA_firstDue : ByteArray := prog_1_method_26_code
abbrev yA_firstDue : MethodName := ⟨R_A, "firstDue", "(I)I"⟩
abbrev cL_countFrom : ByteArray := prog_2_method_15_code
abbrev yL_countFrom : MethodName := ⟨R_L, "countFrom", "([II)I"⟩
abbrev cL_comingPersons : ByteArray := prog_2_method_12_code
abbrev yL_comingPersons : MethodName := ⟨R_L, "comingPersons", "()I"⟩
abbrev cL_askedPersons : ByteArray := prog_2_method_9_code
abbrev yL_askedPersons : MethodName := ⟨R_L, "askedPersons", "()I"⟩
abbrev cL_answeredPersons : ByteArray := prog_2_method_11_code
abbrev yL_answeredPersons : MethodName := ⟨R_L, "answeredPersons", "()I"⟩
abbrev cL_hasAnswer : ByteArray := prog_2_method_8_code
abbrev yL_hasAnswer : MethodName := ⟨R_L, "hasAnswer", "(I)Z"⟩
abbrev cP_addClosed : ByteArray := prog_4_method_5_code
abbrev yP_addClosed : MethodName := ⟨R_P, "addClosed", "(Z)V"⟩
abbrev cA_addUp : ByteArray := prog_1_method_28_code
abbrev yA_addUp : MethodName := ⟨R_A, "addUp", "(LAlertRows$Alarm;LAlertRows$Group;)V"⟩
abbrev cA_raiseSecond : ByteArray := prog_1_method_29_code
abbrev yA_raiseSecond : MethodName := ⟨R_A, "raiseSecond", "(II)V"⟩
abbrev cA_closeAlarm : ByteArray := prog_1_method_27_code
abbrev yA_closeAlarm : MethodName := ⟨R_A, "closeAlarm", "(I)V"⟩
abbrev cA_tick : ByteArray := prog_1_method_9_code
abbrev yA_tick : MethodName := ⟨R_A, "tick", "(I)I"⟩
abbrev cW_tick : ByteArray := method_10_code
abbrev yW_tick : MethodName := ⟨R_W, "tick", "(LAlertRows;I[J)I"⟩
abbrev cL_reachedPersons : ByteArray := prog_2_method_10_code
abbrev yL_reachedPersons : MethodName := ⟨R_L, "reachedPersons", "()I"⟩
abbrev cA_alarmAt : ByteArray := prog_1_method_10_code
abbrev yA_alarmAt : MethodName := ⟨R_A, "alarmAt", "(II)I"⟩
abbrev cW_alarmAt : ByteArray := method_11_code
abbrev yW_alarmAt : MethodName := ⟨R_W, "alarmAt", "(LAlertRows;II[J)I"⟩
abbrev cA_requireNotBelowZero : ByteArray := prog_1_method_19_code
abbrev yA_requireNotBelowZero : MethodName := ⟨R_A, "requireNotBelowZero", "(I)V"⟩
abbrev cL_comersBefore : ByteArray := prog_2_method_14_code
abbrev yL_comersBefore : MethodName := ⟨R_L, "comersBefore", "(II)I"⟩
abbrev cL_comerAt : ByteArray := prog_2_method_13_code
abbrev yL_comerAt : MethodName := ⟨R_L, "comerAt", "(I)I"⟩
abbrev cA_comes : ByteArray := prog_1_method_11_code
abbrev yA_comes : MethodName := ⟨R_A, "comes", "(II)I"⟩
abbrev cW_comes : ByteArray := method_12_code
abbrev yW_comes : MethodName := ⟨R_W, "comes", "(LAlertRows;II[J)I"⟩
abbrev cA_reached : ByteArray := prog_1_method_12_code
abbrev yA_reached : MethodName := ⟨R_A, "reached", "(II)I"⟩
abbrev cW_reached : ByteArray := method_13_code
abbrev yW_reached : MethodName := ⟨R_W, "reached", "(LAlertRows;II[J)I"⟩
abbrev cA_commonDivisor : ByteArray := prog_1_method_31_code
abbrev yA_commonDivisor : MethodName := ⟨R_A, "commonDivisor", "(II)I"⟩
abbrev cA_share : ByteArray := prog_1_method_13_code
abbrev yA_share : MethodName := ⟨R_A, "share", "(II)I"⟩
abbrev cW_share : ByteArray := method_14_code
abbrev yW_share : MethodName := ⟨R_W, "share", "(LAlertRows;II[J)I"⟩
abbrev cP_neverAnswers : ByteArray := prog_4_method_6_code
abbrev yP_neverAnswers : MethodName := ⟨R_P, "neverAnswers", "()Z"⟩
abbrev cA_never : ByteArray := prog_1_method_14_code
abbrev yA_never : MethodName := ⟨R_A, "never", "(I)I"⟩
abbrev cW_never : ByteArray := method_15_code
abbrev yW_never : MethodName := ⟨R_W, "never", "(LAlertRows;I[J)I"⟩
abbrev cA_openAlarms : ByteArray := prog_1_method_30_code
abbrev yA_openAlarms : MethodName := ⟨R_A, "openAlarms", "()I"⟩
abbrev cA_count : ByteArray := prog_1_method_15_code
abbrev yA_count : MethodName := ⟨R_A, "count", "(I)I"⟩
abbrev cW_count : ByteArray := method_16_code
abbrev yW_count : MethodName := ⟨R_W, "count", "(LAlertRows;I[J)I"⟩
abbrev cM_init : ByteArray := prog_6_method_1_code
abbrev yM_init : MethodName := ⟨R_M, "<init>", "()V"⟩
abbrev cM_thrown : ByteArray := prog_6_method_2_code
abbrev yM_thrown : MethodName := ⟨R_M, "thrown", "()I"⟩
abbrev cM_in : ByteArray := prog_6_method_3_code
abbrev yM_in : MethodName := ⟨R_M, "in", "(III)Z"⟩
abbrev cM_goes : ByteArray := prog_6_method_4_code
abbrev yM_goes : MethodName := ⟨R_M, "goes", "(ZZZ)Z"⟩
abbrev cM_group : ByteArray := prog_6_method_8_code
abbrev yM_group : MethodName := ⟨R_M, "group", "(II)I"⟩
abbrev cM_isGroup : ByteArray := prog_6_method_5_code
abbrev yM_isGroup : MethodName := ⟨R_M, "isGroup", "(I)Z"⟩
abbrev cM_next : ByteArray := prog_6_method_9_code
abbrev yM_next : MethodName := ⟨R_M, "next", "(II)V"⟩
abbrev cM_person : ByteArray := prog_6_method_10_code
abbrev yM_person : MethodName := ⟨R_M, "person", "(I)I"⟩
abbrev cM_isPerson : ByteArray := prog_6_method_6_code
abbrev yM_isPerson : MethodName := ⟨R_M, "isPerson", "(I)Z"⟩
abbrev cM_way : ByteArray := prog_6_method_11_code
abbrev yM_way : MethodName := ⟨R_M, "way", "(IIZ)I"⟩
abbrev cM_is : ByteArray := prog_6_method_12_code
abbrev yM_is : MethodName := ⟨R_M, "is", "(II)V"⟩
abbrev cM_asks : ByteArray := prog_6_method_13_code
abbrev yM_asks : MethodName := ⟨R_M, "asks", "(IZI)Z"⟩
abbrev cM_asksAny : ByteArray := prog_6_method_14_code
abbrev yM_asksAny : MethodName := ⟨R_M, "asksAny", "(IZ)Z"⟩
abbrev cM_begin : ByteArray := prog_6_method_15_code
abbrev yM_begin : MethodName := ⟨R_M, "begin", "(IZI)V"⟩
abbrev cM_alarm : ByteArray := prog_6_method_16_code
abbrev yM_alarm : MethodName := ⟨R_M, "alarm", "(IZ)I"⟩
abbrev cM_isAlarm : ByteArray := prog_6_method_7_code
abbrev yM_isAlarm : MethodName := ⟨R_M, "isAlarm", "(I)Z"⟩
abbrev cM_isReached : ByteArray := prog_6_method_17_code
abbrev yM_isReached : MethodName := ⟨R_M, "isReached", "(II)Z"⟩
abbrev cM_isThere : ByteArray := prog_6_method_18_code
abbrev yM_isThere : MethodName := ⟨R_M, "isThere", "(II)Z"⟩
abbrev cM_answer : ByteArray := prog_6_method_19_code
abbrev yM_answer : MethodName := ⟨R_M, "answer", "(III)I"⟩
abbrev cM_many : ByteArray := prog_6_method_20_code
abbrev yM_many : MethodName := ⟨R_M, "many", "(II)I"⟩
abbrev cM_tick : ByteArray := prog_6_method_21_code
abbrev yM_tick : MethodName := ⟨R_M, "tick", "(I)I"⟩
abbrev cM_alarmAt : ByteArray := prog_6_method_22_code
abbrev yM_alarmAt : MethodName := ⟨R_M, "alarmAt", "(II)I"⟩
abbrev cM_comes : ByteArray := prog_6_method_23_code
abbrev yM_comes : MethodName := ⟨R_M, "comes", "(II)I"⟩
abbrev cM_reached : ByteArray := prog_6_method_24_code
abbrev yM_reached : MethodName := ⟨R_M, "reached", "(II)I"⟩
abbrev cM_share : ByteArray := prog_6_method_25_code
abbrev yM_share : MethodName := ⟨R_M, "share", "(II)I"⟩
abbrev cM_isSilent : ByteArray := prog_6_method_26_code
abbrev yM_isSilent : MethodName := ⟨R_M, "isSilent", "(I)Z"⟩
abbrev cM_never : ByteArray := prog_6_method_27_code
abbrev yM_never : MethodName := ⟨R_M, "never", "(I)I"⟩
abbrev cM_count : ByteArray := prog_6_method_28_code
abbrev yM_count : MethodName := ⟨R_M, "count", "(I)I"⟩
abbrev cW_law : ByteArray := code
end
section
/-! The heap as a map from addresses to cells; the kit's rows seen through it. An array's class is a number (tc gives its class). -/
abbrev zE : Type := (Nat × vp_A) ⊕ (Nat × List Value)
abbrev zM : Type := Nat → Option zE
def z_tr (tc : Nat → ClassId) : zE → va_E
  | .inl a => .inl (tc a.1, a.2)
  | .inr o => .inr o
def z_g (tc : Nat → ClassId) (M : zM) (a : Nat) : va_E := match M a with
  | some e => z_tr tc e
  | none => .inr (0, [])
def zP (D : va_G) (cl : List vw_C) (tc : Nat → ClassId) (A : Nat → Prop) (M : zM) (H : Heap) : Prop :=
  ∃ L : List Nat, (∀ a, a ∈ L ↔ ∃ e, M a = some e) ∧ va_P D cl (va_pl L (z_g tc M)) H ∧ va_D A (va_pl L (z_g tc M))
theorem z_g_some {tc : Nat → ClassId} {M : zM} {a : Nat} {e : zE} (h : M a = some e) : z_g tc M a = z_tr tc e := by simp [z_g, h]
theorem z_open {D : va_G} {cl : List vw_C} {tc : Nat → ClassId} {A : Nat → Prop} {M : zM} {H : Heap} (h : zP D cl tc A M H) {a : Nat} {e : zE} (ha : M a = some e) :
    ∃ (ws : va_W) (k : Nat), va_P D cl ws H ∧ va_D A ws ∧ ws[k]? = some (a, z_tr tc e) ∧ (∀ b e2, M b = some e2 → ∃ k2 : Nat, ws[k2]? = some (b, z_tr tc e2)) ∧
      ∀ (e' : zE) (H' : Heap), va_P D cl (ws.set k (a, z_tr tc e')) H' → va_D A (ws.set k (a, z_tr tc e')) → zP D cl tc A (va_up M a (some e')) H' := by
  obtain ⟨L, hL, hP, hD⟩ := h
  have hin : ∀ b e2, M b = some e2 → ∃ k2 : Nat, (va_pl L (z_g tc M))[k2]? = some (b, z_tr tc e2) := by
    intro b e2 hb
    obtain ⟨k2, hk2⟩ := va_pl_get (X := []) (f := z_g tc M) ((hL b).mpr ⟨e2, hb⟩)
    rw [List.nil_append, z_g_some hb] at hk2
    exact ⟨k2, hk2⟩
  obtain ⟨k, hk⟩ := hin a e ha
  have haL : a ∈ L := (hL a).mpr ⟨e, ha⟩
  refine ⟨va_pl L (z_g tc M), k, hP, hD, hk, hin, fun e' H' hP' hD' => ?_⟩
  have hset : (va_pl L (z_g tc M)).set k (a, z_tr tc e') = va_pl L (va_up (z_g tc M) a (z_tr tc e')) :=
    va_pl_set (A := A) (X := []) (L := L) (f := z_g tc M) (a := a) (k := k) (e := z_tr tc e') hD haL (by rw [List.nil_append, z_g_some ha]; exact hk)
  have hcg : va_pl L (va_up (z_g tc M) a (z_tr tc e')) = va_pl L (z_g tc (va_up M a (some e'))) := va_pl_congr fun b => by
    by_cases hb : b = a
    · subst hb
      simp [z_g, va_up]
    · simp [z_g, va_up, hb]
  rw [hset, hcg] at hP' hD'
  refine ⟨L, fun b => ?_, hP', hD'⟩
  by_cases hb : b = a
  · subst hb
    exact ⟨fun _ => ⟨e', va_up_self _ _ _⟩, fun _ => haL⟩
  · rw [va_up_ne _ _ hb]
    exact hL b
theorem z_new {D : va_G} {cl : List vw_C} {tc : Nat → ClassId} {A : Nat → Prop} {M : zM} {H : Heap} (h : zP D cl tc A M H) :
    ∃ ws : va_W, va_P D cl ws H ∧ va_D A ws ∧ ∀ (q : Nat) (e : zE) (H' : Heap), va_P D cl (ws ++ [(q, z_tr tc e)]) H' → va_D A (ws ++ [(q, z_tr tc e)]) → M q = none ∧ zP D cl tc A (va_up M q (some e)) H' := by
  obtain ⟨L, hL, hP, hD⟩ := h
  refine ⟨va_pl L (z_g tc M), hP, hD, fun q e H' hP' hD' => ?_⟩
  have hq : q ∉ L := va_pl_fresh2 (X := []) hD'
  have hn : M q = none := by
    cases hM : M q with
    | none => rfl
    | some e2 => exact absurd ((hL q).mpr ⟨e2, hM⟩) hq
  have hcg : va_pl (L ++ [q]) (va_up (z_g tc M) q (z_tr tc e)) = va_pl (L ++ [q]) (z_g tc (va_up M q (some e))) := va_pl_congr fun b => by
    by_cases hb : b = q
    · subst hb
      simp [z_g, va_up]
    · simp [z_g, va_up, hb]
  rw [va_pl_push hq, hcg] at hP' hD'
  refine ⟨hn, L ++ [q], fun b => ?_, hP', hD'⟩
  by_cases hb : b = q
  · subst hb
    exact ⟨fun _ => ⟨e, va_up_self _ _ _⟩, fun _ => by simp⟩
  · rw [va_up_ne _ _ hb, List.mem_append, List.mem_singleton]
    exact ⟨fun h => (hL b).mp (h.resolve_right hb), fun h => Or.inl ((hL b).mpr h)⟩
theorem z_kept {D : va_G} {cl : List vw_C} {tc : Nat → ClassId} {A : Nat → Prop} {M : zM} {H H' : Heap} (h : zP D cl tc A M H) (hq : ∀ q : Nat, q < H.size → H'[q]? = H[q]?) : zP D cl tc A M H' := by
  obtain ⟨L, hL, hP, hD⟩ := h
  exact ⟨L, hL, hP.kept (fun k q hk => hq _ (hP k q hk).lt), hD⟩
theorem z_A {D : va_G} {cl : List vw_C} {tc : Nat → ClassId} {A : Nat → Prop} {M : zM} {H : Heap} (h : zP D cl tc A M H) {a : Nat} {e : zE} (ha : M a = some e) : A a := by
  obtain ⟨ws, k, -, hD, hk, -⟩ := z_open h ha
  exact hD.2 k _ hk
theorem z_recv {D : va_G} {cl : List vw_C} {tc : Nat → ClassId} {A : Nat → Prop} {tys : List (ClassId × FieldType)} {M : zM} {s : State} {H : Heap} (hK : va_K D cl tys s) (h : zP D cl tc A M H) {a ci : Nat} {fs : List Value} {q : vw_C} (ha : M a = some (.inr (ci, fs))) (hc : cl[ci]? = some q) :
    ∃ cell : Cell, H[a]? = some cell ∧ cell.vm.isStatics = false ∧ s.vm.findClass q.1 = some cell.cls := by
  obtain ⟨ws, k, hP, -, hk, -⟩ := z_open h ha
  exact va_recv hK hP hc hk
theorem z_tsw {x : Int32} {n : Nat} (hn : n < 2 ^ 31) (h : ∀ k : Nat, k < n → ¬ x = nI k) : x.toInt < 0 ∨ (n : Int) ≤ x.toInt := by
  rcases pk_ix x hn with h1 | h1 | ⟨j, hj, e⟩
  · exact Or.inl (by have := Int32.lt_iff_toInt_lt.mp h1; simpa using this)
  · exact Or.inr (by have := Int32.le_iff_toInt_le.mp h1; rw [nI_toInt hn] at this; exact this)
  · exact absurd e (h j hj)
/-! Instructions over the map. -/
section ZR
variable {p : Program} {l : Launch} {e : Env} {R : Room} {s : State} {m : MethodId} {args : Array Value} {below : List Frame} {meth : Method} {c : Code} {H : Heap} {locs : List Loc} {cells slots : Nat} {Q : State → Prop}
variable {cc : ByteArray} {pc : Nat} {ls : Array Slot} {rest : List Value} {D : va_G} {cl : List vw_C} {tc : Nat → ClassId} {A : Nat → Prop} {a : Nat} {tys : List (ClassId × FieldType)} {M : zM} {H0 : Heap}
theorem z_get (hexec : p.tables.exec = Jvm.exec) (hb : c.code = cc) {own ref C : String} {T : u_T} {N ci index : Nat} {Ts : List Cond} (hts : ∀ w ∈ Ts, w.before args s = true) (hin : ∀ w ∈ u_ws C T N, w ∈ Ts) (hown : s.vm.findClass own = some m.cls) (hK : va_K D cl tys s) (hM : zP D cl tc A M H) {fs : List Value} (he : M a = some (.inr (ci, fs))) (hc : cl[ci]? = some (C, T, N)) (k : Nat) (hk : k < N) (hlink : (Cond.fieldLink own index ref (T k).2.1 (T k).2.2.1).before args s = true) (hsame : ∀ x, s.fieldFound? (T k).1 (T k).2.1 (T k).2.2.1 = some x → s.fieldFound? ref (T k).2.1 (T k).2.2.1 = some x) {v : Value} (hv : fs[k]? = some v) (hdg : decode cc pc = .ok (.getfield index, 3))
    (kk : W p l e R s m args below meth c H locs cells slots Q (F0 m (pc + 3) ls (v :: rest))) : W p l e R s m args below meth c H locs cells slots Q (F0 m pc ls (.ref a :: rest)) := by
  obtain ⟨ws, q0, hP, -, hq, -⟩ := z_open hM he
  exact va_get hexec hb hts hin hown hK hP q0 hq hc k hk hlink hsame hv hdg kk
theorem z_getN (hexec : p.tables.exec = Jvm.exec) (hb : c.code = cc) {own ref C host : String} {T : u_T} {N ci index : Nat} {Ts : List Cond} (hts : ∀ w ∈ Ts, w.before args s = true) (hin : ∀ w ∈ u_ws C T N, w ∈ Ts) (hown : s.vm.findClass own = some m.cls) (hK : va_K D cl tys s) (hM : zP D cl tc A M H) {fs : List Value} (he : M a = some (.inr (ci, fs))) (hc : cl[ci]? = some (C, T, N)) (k : Nat) (hk : k < N) (hlink : (Cond.fieldLinkNest own index ref (T k).2.1 (T k).2.2.1 host).before args s = true) (hsame : ∀ x, s.fieldFound? (T k).1 (T k).2.1 (T k).2.2.1 = some x → s.fieldFound? ref (T k).2.1 (T k).2.2.1 = some x) {v : Value} (hv : fs[k]? = some v) (hdg : decode cc pc = .ok (.getfield index, 3))
    (kk : W p l e R s m args below meth c H locs cells slots Q (F0 m (pc + 3) ls (v :: rest))) : W p l e R s m args below meth c H locs cells slots Q (F0 m pc ls (.ref a :: rest)) := by
  obtain ⟨ws, q0, hP, -, hq, -⟩ := z_open hM he
  exact va_getN hexec hb hts hin hown hK hP q0 hq hc k hk hlink hsame hv hdg kk
theorem z_put (hexec : p.tables.exec = Jvm.exec) (hb : c.code = cc) {own ref C : String} {T : u_T} {N ci index : Nat} {Ts : List Cond} (hts : ∀ w ∈ Ts, w.before args s = true) (hin : ∀ w ∈ u_ws C T N, w ∈ Ts) (ty0 : Nat → FieldType) (hty : ∀ k, k < N → parseFieldDescriptor (T k).2.2.1 = some (ty0 k)) (hnm : ∀ a, a < N → ∀ b, b < N → a ≠ b → (T a).2.1 ≠ (T b).2.1) (hown : s.vm.findClass own = some m.cls) (hK : va_K D cl tys s) (hM : zP D cl tc A M H) (hS : va_S A H0 H locs) {fs : List Value} (he : M a = some (.inr (ci, fs))) (hc : cl[ci]? = some (C, T, N)) (k : Nat) (hk : k < N) (hlink : (Cond.fieldLink own index ref (T k).2.1 (T k).2.2.1).before args s = true) (hsame : ∀ x, s.fieldFound? (T k).1 (T k).2.1 (T k).2.2.1 = some x → s.fieldFound? ref (T k).2.1 (T k).2.2.1 = some x) (hfin : (T k).2.2.2 = false) {ty : FieldType} {v : Value} (hd : parseFieldDescriptor (T k).2.2.1 = some ty) (hn : narrow ty v = v) (hfit : fits ty v = true) (hl : k < fs.length) (hdg : decode cc pc = .ok (.putfield index, 3))
    (kk : ∀ (H1 : Heap) (locs1 : List Loc), zP D cl tc A (va_up M a (some (.inr (ci, fs.set k v)))) H1 → va_S A H0 H1 locs1 → W p l e R s m args below meth c H1 locs1 cells slots Q (F0 m (pc + 3) ls rest)) : W p l e R s m args below meth c H locs cells slots Q (F0 m pc ls (v :: .ref a :: rest)) := by
  obtain ⟨ws, q0, hP, hD, hq, -, hz⟩ := z_open hM he
  exact va_put hexec hb hts hin ty0 hty hnm hown hK hP hD hS q0 hq hc k hk hlink hsame hfin hd hn hfit hl hdg (fun H1 locs1 hP1 hD1 hS1 => kk H1 locs1 (hz (.inr (ci, fs.set k v)) H1 hP1 hD1) hS1)
theorem z_putN (hexec : p.tables.exec = Jvm.exec) (hb : c.code = cc) {own ref C host : String} {T : u_T} {N ci index : Nat} {Ts : List Cond} (hts : ∀ w ∈ Ts, w.before args s = true) (hin : ∀ w ∈ u_ws C T N, w ∈ Ts) (ty0 : Nat → FieldType) (hty : ∀ k, k < N → parseFieldDescriptor (T k).2.2.1 = some (ty0 k)) (hnm : ∀ a, a < N → ∀ b, b < N → a ≠ b → (T a).2.1 ≠ (T b).2.1) (hown : s.vm.findClass own = some m.cls) (hK : va_K D cl tys s) (hM : zP D cl tc A M H) (hS : va_S A H0 H locs) {fs : List Value} (he : M a = some (.inr (ci, fs))) (hc : cl[ci]? = some (C, T, N)) (k : Nat) (hk : k < N) (hlink : (Cond.fieldLinkNest own index ref (T k).2.1 (T k).2.2.1 host).before args s = true) (hsame : ∀ x, s.fieldFound? (T k).1 (T k).2.1 (T k).2.2.1 = some x → s.fieldFound? ref (T k).2.1 (T k).2.2.1 = some x) (hfin : (T k).2.2.2 = false) {ty : FieldType} {v : Value} (hd : parseFieldDescriptor (T k).2.2.1 = some ty) (hn : narrow ty v = v) (hfit : fits ty v = true) (hl : k < fs.length) (hdg : decode cc pc = .ok (.putfield index, 3))
    (kk : ∀ (H1 : Heap) (locs1 : List Loc), zP D cl tc A (va_up M a (some (.inr (ci, fs.set k v)))) H1 → va_S A H0 H1 locs1 → W p l e R s m args below meth c H1 locs1 cells slots Q (F0 m (pc + 3) ls rest)) : W p l e R s m args below meth c H locs cells slots Q (F0 m pc ls (v :: .ref a :: rest)) := by
  obtain ⟨ws, q0, hP, hD, hq, -, hz⟩ := z_open hM he
  exact va_putN hexec hb hts hin ty0 hty hnm hown hK hP hD hS q0 hq hc k hk hlink hsame hfin hd hn hfit hl hdg (fun H1 locs1 hP1 hD1 hS1 => kk H1 locs1 (hz (.inr (ci, fs.set k v)) H1 hP1 hD1) hS1)
theorem z_putF (hexec : p.tables.exec = Jvm.exec) (hb : c.code = cc) {own ref C : String} {T : u_T} {N ci index : Nat} {Ts : List Cond} (hts : ∀ w ∈ Ts, w.before args s = true) (hin : ∀ w ∈ u_ws C T N, w ∈ Ts) (ty0 : Nat → FieldType) (hty : ∀ k, k < N → parseFieldDescriptor (T k).2.2.1 = some (ty0 k)) (hnm : ∀ a, a < N → ∀ b, b < N → a ≠ b → (T a).2.1 ≠ (T b).2.1) (hown : s.vm.findClass own = some m.cls) (hK : va_K D cl tys s) (hM : zP D cl tc A M H) (hS : va_S A H0 H locs) {fs : List Value} (he : M a = some (.inr (ci, fs))) (hc : cl[ci]? = some (C, T, N)) (k : Nat) (hk : k < N) (hlink : (Cond.fieldLink own index ref (T k).2.1 (T k).2.2.1).before args s = true) (hsame : ∀ x, s.fieldFound? (T k).1 (T k).2.1 (T k).2.2.1 = some x → s.fieldFound? ref (T k).2.1 (T k).2.2.1 = some x) (hfin : (T k).2.2.2 = true) (hin2 : meth.name = "<init>") (hdecl : (T k).1 = own) {ty : FieldType} {v : Value} (hd : parseFieldDescriptor (T k).2.2.1 = some ty) (hn : narrow ty v = v) (hfit : fits ty v = true) (hl : k < fs.length) (hdg : decode cc pc = .ok (.putfield index, 3))
    (kk : ∀ (H1 : Heap) (locs1 : List Loc), zP D cl tc A (va_up M a (some (.inr (ci, fs.set k v)))) H1 → va_S A H0 H1 locs1 → W p l e R s m args below meth c H1 locs1 cells slots Q (F0 m (pc + 3) ls rest)) : W p l e R s m args below meth c H locs cells slots Q (F0 m pc ls (v :: .ref a :: rest)) := by
  obtain ⟨ws, q0, hP, hD, hq, -, hz⟩ := z_open hM he
  exact va_putF hexec hb hts hin ty0 hty hnm hown hK hP hD hS q0 hq hc k hk hlink hsame hfin hin2 hdecl hd hn hfit hl hdg (fun H1 locs1 hP1 hD1 hS1 => kk H1 locs1 (hz (.inr (ci, fs.set k v)) H1 hP1 hD1) hS1)
theorem z_alen (hexec : p.tables.exec = Jvm.exec) (hb : c.code = cc) (hK : va_K D cl tys s) (hM : zP D cl tc A M H) (t0 k0 : Nat) {x : vp_A} (ha : M a = some (.inl (k0, x))) {ty : FieldType} (ht : tys[t0]? = some (tc k0, ty)) {v : Int32} (hv : nI x.1 = v) (hdg : decode cc pc = .ok (.arraylength, 1))
    (kk : W p l e R s m args below meth c H locs cells slots Q (F0 m (pc + 1) ls (.int v :: rest))) : W p l e R s m args below meth c H locs cells slots Q (F0 m pc ls (.ref a :: rest)) := by
  obtain ⟨ws, q0, hP, -, hq, -⟩ := z_open hM ha
  exact va_alen hexec hb hK hP q0 t0 hq ht hv hdg kk
theorem z_iald (hexec : p.tables.exec = Jvm.exec) (hb : c.code = cc) (hK : va_K D cl tys s) (hM : zP D cl tc A M H) (t0 k0 : Nat) {n : Nat} {f : Nat → Int32} (ha : M a = some (.inl (k0, n, .inl f))) (ht : tys[t0]? = some (tc k0, .int)) {i : Int32} (hin : vp_in i n) {v : Int32} (hv : f i.toNatClampNeg = v) (hdg : decode cc pc = .ok (.iaload, 1))
    (kk : W p l e R s m args below meth c H locs cells slots Q (F0 m (pc + 1) ls (.int v :: rest))) : W p l e R s m args below meth c H locs cells slots Q (F0 m pc ls (.int i :: .ref a :: rest)) := by
  subst hv
  obtain ⟨ws, q0, hP, -, hq, -⟩ := z_open hM ha
  exact va_iald hexec hb hK hP q0 t0 hq ht hin hdg kk
theorem z_zald (hexec : p.tables.exec = Jvm.exec) (hb : c.code = cc) (hK : va_K D cl tys s) (hM : zP D cl tc A M H) (t0 k0 : Nat) {n : Nat} {f : Nat → Int32} (ha : M a = some (.inl (k0, n, .inl f))) (ht : tys[t0]? = some (tc k0, .boolean)) {i : Int32} (hin : vp_in i n) {v : Int32} (hv : f i.toNatClampNeg = v) (hdg : decode cc pc = .ok (.baload, 1))
    (kk : W p l e R s m args below meth c H locs cells slots Q (F0 m (pc + 1) ls (.int v :: rest))) : W p l e R s m args below meth c H locs cells slots Q (F0 m pc ls (.int i :: .ref a :: rest)) := by
  subst hv
  obtain ⟨ws, q0, hP, -, hq, -⟩ := z_open hM ha
  exact va_zald hexec hb hK hP q0 t0 hq ht hin hdg kk
theorem z_lald (hexec : p.tables.exec = Jvm.exec) (hb : c.code = cc) (hK : va_K D cl tys s) (hM : zP D cl tc A M H) (t0 k0 : Nat) {n : Nat} {f : Nat → Int64} (ha : M a = some (.inl (k0, n, .inr (.inl f)))) (ht : tys[t0]? = some (tc k0, .long)) {i : Int32} (hin : vp_in i n) {v : Int64} (hv : f i.toNatClampNeg = v) (hdg : decode cc pc = .ok (.laload, 1))
    (kk : W p l e R s m args below meth c H locs cells slots Q (F0 m (pc + 1) ls (.long v :: rest))) : W p l e R s m args below meth c H locs cells slots Q (F0 m pc ls (.int i :: .ref a :: rest)) := by
  subst hv
  obtain ⟨ws, q0, hP, -, hq, -⟩ := z_open hM ha
  exact va_lald hexec hb hK hP q0 t0 hq ht hin hdg kk
theorem z_aldq (hexec : p.tables.exec = Jvm.exec) (hb : c.code = cc) (hK : va_K D cl tys s) (hM : zP D cl tc A M H) (t0 k0 : Nat) {C : String} {n : Nat} {f : Nat → Option Nat} (ha : M a = some (.inl (k0, n, .inr (.inr (.inr (.inr f)))))) (ht : tys[t0]? = some (tc k0, .object C)) {i : Int32} (hin : vp_in i n) {v : Option Nat} (hv : f i.toNatClampNeg = v) (hdg : decode cc pc = .ok (.aaload, 1))
    (kk : W p l e R s m args below meth c H locs cells slots Q (F0 m (pc + 1) ls (va_rf v :: rest))) : W p l e R s m args below meth c H locs cells slots Q (F0 m pc ls (.int i :: .ref a :: rest)) := by
  subst hv
  obtain ⟨ws, q0, hP, -, hq, -⟩ := z_open hM ha
  exact va_aldq hexec hb hK hP q0 t0 hq ht hin hdg kk
theorem z_iast (hexec : p.tables.exec = Jvm.exec) (hb : c.code = cc) (hK : va_K D cl tys s) (hM : zP D cl tc A M H) (hS : va_S A H0 H locs) (t0 k0 : Nat) {n : Nat} {f : Nat → Int32} (ha : M a = some (.inl (k0, n, .inl f))) (ht : tys[t0]? = some (tc k0, .int)) {i x : Int32} (hin : vp_in i n) (hdg : decode cc pc = .ok (.iastore, 1))
    (kk : ∀ (H1 : Heap) (locs1 : List Loc), zP D cl tc A (va_up M a (some (.inl (k0, n, .inl (upd f i.toNatClampNeg x))))) H1 → va_S A H0 H1 locs1 → W p l e R s m args below meth c H1 locs1 cells slots Q (F0 m (pc + 1) ls rest)) : W p l e R s m args below meth c H locs cells slots Q (F0 m pc ls (.int x :: .int i :: .ref a :: rest)) := by
  obtain ⟨ws, q0, hP, hD, hq, -, hz⟩ := z_open hM ha
  exact va_iast hexec hb hK hP hD hS q0 t0 hq ht hin hdg (fun H1 locs1 hP1 hD1 hS1 => kk H1 locs1 (hz (.inl (k0, n, .inl (upd f i.toNatClampNeg x))) H1 hP1 hD1) hS1)
theorem z_zast (hexec : p.tables.exec = Jvm.exec) (hb : c.code = cc) (hK : va_K D cl tys s) (hM : zP D cl tc A M H) (hS : va_S A H0 H locs) (t0 k0 : Nat) {n : Nat} {f : Nat → Int32} (ha : M a = some (.inl (k0, n, .inl f))) (ht : tys[t0]? = some (tc k0, .boolean)) {i x : Int32} (hin : vp_in i n) (hdg : decode cc pc = .ok (.bastore, 1))
    (kk : ∀ (H1 : Heap) (locs1 : List Loc), zP D cl tc A (va_up M a (some (.inl (k0, n, .inl (upd f i.toNatClampNeg (vp_nar .boolean x)))))) H1 → va_S A H0 H1 locs1 → W p l e R s m args below meth c H1 locs1 cells slots Q (F0 m (pc + 1) ls rest)) : W p l e R s m args below meth c H locs cells slots Q (F0 m pc ls (.int x :: .int i :: .ref a :: rest)) := by
  obtain ⟨ws, q0, hP, hD, hq, -, hz⟩ := z_open hM ha
  exact va_zast hexec hb hK hP hD hS q0 t0 hq ht hin hdg (fun H1 locs1 hP1 hD1 hS1 => kk H1 locs1 (hz (.inl (k0, n, .inl (upd f i.toNatClampNeg (vp_nar .boolean x)))) H1 hP1 hD1) hS1)
theorem z_last (hexec : p.tables.exec = Jvm.exec) (hb : c.code = cc) (hK : va_K D cl tys s) (hM : zP D cl tc A M H) (hS : va_S A H0 H locs) (t0 k0 : Nat) {n : Nat} {f : Nat → Int64} (ha : M a = some (.inl (k0, n, .inr (.inl f)))) (ht : tys[t0]? = some (tc k0, .long)) {i : Int32} {x : Int64} (hin : vp_in i n) (hdg : decode cc pc = .ok (.lastore, 1))
    (kk : ∀ (H1 : Heap) (locs1 : List Loc), zP D cl tc A (va_up M a (some (.inl (k0, n, .inr (.inl (vp_updL f i.toNatClampNeg x)))))) H1 → va_S A H0 H1 locs1 → W p l e R s m args below meth c H1 locs1 cells slots Q (F0 m (pc + 1) ls rest)) : W p l e R s m args below meth c H locs cells slots Q (F0 m pc ls (.long x :: .int i :: .ref a :: rest)) := by
  obtain ⟨ws, q0, hP, hD, hq, -, hz⟩ := z_open hM ha
  exact va_last hexec hb hK hP hD hS q0 t0 hq ht hin hdg (fun H1 locs1 hP1 hD1 hS1 => kk H1 locs1 (hz (.inl (k0, n, .inr (.inl (vp_updL f i.toNatClampNeg x)))) H1 hP1 hD1) hS1)
theorem z_newO (hexec : p.tables.exec = Jvm.exec) (hb : c.code = cc) {own C : String} {T : u_T} {N ci index : Nat} {Ts : List Cond} (hts : ∀ w ∈ Ts, w.before args s = true) (hin : ∀ w ∈ u_ws C T N, w ∈ Ts) (ty : Nat → FieldType) (hty : ∀ k, k < N → parseFieldDescriptor (T k).2.2.1 = some (ty k)) (hown : s.vm.findClass own = some m.cls) (hcl : (Cond.classLink own index C).before args s = true) (hinst : (Cond.instantiable C N).before args s = true) (hini : (Cond.initialized C).before args s = true)
    (hK : va_K D cl tys s) (hM : zP D cl tc A M H) (hS : va_S A H0 H locs) (hA : ∀ q, H0.size ≤ q → A q) (hc : cl[ci]? = some (C, T, N)) {fs : List Value} (hfs : ∀ j, j < N → defaultValue (ty j) = vp_V fs j) (hcells : cells + 1 ≤ R.cells) (hslots : slots + N ≤ R.slots) (hdg : decode cc pc = .ok (.new index, 3))
    (kk : ∀ (q : Nat) (H1 : Heap), M q = none → zP D cl tc A (va_up M q (some (.inr (ci, fs)))) H1 → va_S A H0 H1 locs → W p l e R s m args below meth c H1 locs (cells + 1) (slots + N) Q (F0 m (pc + 3) ls (.ref q :: rest))) : W p l e R s m args below meth c H locs cells slots Q (F0 m pc ls rest) := by
  obtain ⟨ws, hP, hD, hz⟩ := z_new hM
  refine va_new hexec hb hts hin ty hty hown hcl hinst hini hK hP hD hS hA hc hfs hcells hslots hdg (fun q H1 hP1 hD1 hS1 => ?_)
  obtain ⟨h1, h2⟩ := hz q (.inr (ci, fs)) H1 hP1 hD1
  exact kk q H1 h1 h2 hS1
theorem z_newa (hexec : p.tables.exec = Jvm.exec) (hb : c.code = cc) {atype : ArrayType} (harr : (Cond.arrayClass (newarray.typeOf atype)).before args s = true) {ty : FieldType} (hty : newarray.typeOf atype = ty) (hK : va_K D cl tys s) (hM : zP D cl tc A M H) (hS : va_S A H0 H locs) (hA : ∀ q, H0.size ≤ q → A q) (t0 k0 : Nat) (ht : tys[t0]? = some (tc k0, ty)) (hprim : ∀ cA, va_RA s cA ty → s.vm.findClass ("[" ++ ty.toString) = some cA)
    {n : Int32} {N' : Nat} {a0 : vp_A} (ha : ∀ cA : ClassId, vp_cell cA a0 = arrV cA N' (fun _ => defaultValue ty)) (hn : ¬ n < 0) (hN : n.toNatClampNeg = N') (hbytes : N' * componentBytes ty ≤ 536870912) (hcells : cells + 1 ≤ R.cells) (hslots : slots + N' ≤ R.slots) (hdg : decode cc pc = .ok (.newarray atype, 2))
    (kk : ∀ (q : Nat) (H1 : Heap), M q = none → zP D cl tc A (va_up M q (some (.inl (k0, a0)))) H1 → va_S A H0 H1 locs → W p l e R s m args below meth c H1 locs (cells + 1) (slots + N') Q (F0 m (pc + 2) ls (.ref q :: rest))) : W p l e R s m args below meth c H locs cells slots Q (F0 m pc ls (.int n :: rest)) := by
  obtain ⟨ws, hP, hD, hz⟩ := z_new hM
  refine va_newa hexec hb harr hty hK hP hD hS hA ha hn hN hbytes hcells hslots hdg (fun q cA H1 hK1 hP1 hD1 hS1 => ?_)
  have e1 : cA = tc k0 := Option.some.inj ((hprim _ (hK1.2 tys.length (cA, ty) (by simp)).2).symm.trans (hprim _ (hK.2 t0 _ ht).2))
  subst e1
  obtain ⟨h1, h2⟩ := hz q (.inl (k0, a0)) H1 hP1 hD1
  exact kk q H1 h1 h2 hS1
end ZR
end
section
/-! What every method's walk stands on: the tables' words, the array classes, the statics; contracts over the map. -/
def zTB : List Cond := lw_tbl.filter goodWord
def zNs : Cond → Bool
  | .fieldLinkNest .. => true
  | .methodLinkNest .. => true
  | .castable .. => true
  | .declares .. => true
  | _ => false
def zNW : List Cond := lw_tbl.filter zNs
theorem zTB_good : GoodIn zTB zTB := fun _ h => ⟨h, good_of_word (List.mem_filter.mp h).2⟩
theorem z_good {y : MethodName} {bytes : ByteArray} {maxL : Nat} {ret : Option FieldType} (h : Cond.code y bytes maxL ret ∈ zTB) : GoodIn zTB (.code y bytes maxL ret :: zTB) := fun w hw => zTB_good w ((List.mem_cons.mp hw).elim (fun e => e ▸ h) id)
theorem zNs_warm {w : Cond} (hw : zNs w = true) {s U : State} (hW : s.WarmedH U.vm) (h : va_Nw w s) : va_Nw w U := by
  cases w <;> first | exact va_Nw.warmF hW h | exact va_Nw.warmM hW h | exact va_Nw.warmC hW h | exact va_Nw.warmD hW h | exact absurd hw (by decide) | (simp [zNs] at hw)
theorem zNs_tab {w : Cond} (hw : zNs w = true) : w.onTables = true := by
  cases w <;> first | rfl | (simp [zNs] at hw)
theorem inw_A : ∀ w ∈ u_ws R_A T_A 7, w ∈ zTB := by decide +kernel
theorem inw_L : ∀ w ∈ u_ws R_L T_L 8, w ∈ zTB := by decide +kernel
theorem inw_G : ∀ w ∈ u_ws R_G T_G 5, w ∈ zTB := by decide +kernel
theorem inw_P : ∀ w ∈ u_ws R_P T_P 7, w ∈ zTB := by decide +kernel
theorem inw_M : ∀ w ∈ u_ws R_M T_M 25, w ∈ zTB := by decide +kernel
theorem inw_Y : ∀ w ∈ u_ws R_Y T_Y 3, w ∈ zTB := by decide +kernel
theorem t_0 : (Jvm.Cond.initialized "AlertRowsLaw") ∈ zTB := List.mem_filter.mpr ⟨List.mem_append_right _ (List.mem_append_left _ (List.mem_of_getElem? (i := 0) (by decide +kernel))), by decide +kernel⟩
theorem t_1 : (Jvm.Cond.initialized "AlertRows") ∈ zTB := List.mem_filter.mpr ⟨List.mem_append_right _ (List.mem_append_left _ (List.mem_of_getElem? (i := 1) (by decide +kernel))), by decide +kernel⟩
theorem t_2 : (Jvm.Cond.initialized "java/util/AbstractCollection") ∈ zTB := List.mem_filter.mpr ⟨List.mem_append_right _ (List.mem_append_left _ (List.mem_of_getElem? (i := 2) (by decide +kernel))), by decide +kernel⟩
theorem t_3 : (Jvm.Cond.initialized "java/util/AbstractList") ∈ zTB := List.mem_filter.mpr ⟨List.mem_append_right _ (List.mem_append_left _ (List.mem_of_getElem? (i := 3) (by decide +kernel))), by decide +kernel⟩
theorem t_4 : (Jvm.Cond.initialized "java/util/ArrayList") ∈ zTB := List.mem_filter.mpr ⟨List.mem_append_right _ (List.mem_append_left _ (List.mem_of_getElem? (i := 4) (by decide +kernel))), by decide +kernel⟩
theorem t_5 : (Jvm.Cond.initialized "AlertRowsModel") ∈ zTB := List.mem_filter.mpr ⟨List.mem_append_right _ (List.mem_append_left _ (List.mem_of_getElem? (i := 5) (by decide +kernel))), by decide +kernel⟩
theorem t_6 : (Jvm.Cond.initialized "java/lang/Throwable") ∈ zTB := List.mem_filter.mpr ⟨List.mem_append_right _ (List.mem_append_left _ (List.mem_of_getElem? (i := 6) (by decide +kernel))), by decide +kernel⟩
theorem t_7 : (Jvm.Cond.initialized "java/lang/Exception") ∈ zTB := List.mem_filter.mpr ⟨List.mem_append_right _ (List.mem_append_left _ (List.mem_of_getElem? (i := 7) (by decide +kernel))), by decide +kernel⟩
theorem t_8 : (Jvm.Cond.initialized "java/lang/RuntimeException") ∈ zTB := List.mem_filter.mpr ⟨List.mem_append_right _ (List.mem_append_left _ (List.mem_of_getElem? (i := 8) (by decide +kernel))), by decide +kernel⟩
theorem t_9 : (Jvm.Cond.initialized "java/lang/IndexOutOfBoundsException") ∈ zTB := List.mem_filter.mpr ⟨List.mem_append_right _ (List.mem_append_left _ (List.mem_of_getElem? (i := 9) (by decide +kernel))), by decide +kernel⟩
theorem t_10 : (Jvm.Cond.initialized "java/lang/UnsupportedOperationException") ∈ zTB := List.mem_filter.mpr ⟨List.mem_append_right _ (List.mem_append_left _ (List.mem_of_getElem? (i := 10) (by decide +kernel))), by decide +kernel⟩
theorem t_11 : (Jvm.Cond.initialized "AlertRows$Group") ∈ zTB := List.mem_filter.mpr ⟨List.mem_append_right _ (List.mem_append_left _ (List.mem_of_getElem? (i := 11) (by decide +kernel))), by decide +kernel⟩
theorem t_12 : (Jvm.Cond.initialized "jdk/internal/util/ArraysSupport") ∈ zTB := List.mem_filter.mpr ⟨List.mem_append_right _ (List.mem_append_left _ (List.mem_of_getElem? (i := 12) (by decide +kernel))), by decide +kernel⟩
theorem t_13 : (Jvm.Cond.initialized "java/lang/Math") ∈ zTB := List.mem_filter.mpr ⟨List.mem_append_right _ (List.mem_append_left _ (List.mem_of_getElem? (i := 13) (by decide +kernel))), by decide +kernel⟩
theorem t_14 : (Jvm.Cond.initialized "java/util/Arrays") ∈ zTB := List.mem_filter.mpr ⟨List.mem_append_right _ (List.mem_append_left _ (List.mem_of_getElem? (i := 14) (by decide +kernel))), by decide +kernel⟩
theorem t_15 : (Jvm.Cond.initialized "java/lang/System") ∈ zTB := List.mem_filter.mpr ⟨List.mem_append_right _ (List.mem_append_left _ (List.mem_of_getElem? (i := 15) (by decide +kernel))), by decide +kernel⟩
theorem t_16 : (Jvm.Cond.initialized "java/lang/IllegalArgumentException") ∈ zTB := List.mem_filter.mpr ⟨List.mem_append_right _ (List.mem_append_left _ (List.mem_of_getElem? (i := 16) (by decide +kernel))), by decide +kernel⟩
theorem t_17 : (Jvm.Cond.initialized "java/util/Objects") ∈ zTB := List.mem_filter.mpr ⟨List.mem_append_right _ (List.mem_append_left _ (List.mem_of_getElem? (i := 17) (by decide +kernel))), by decide +kernel⟩
theorem t_18 : (Jvm.Cond.initialized "jdk/internal/util/Preconditions") ∈ zTB := List.mem_filter.mpr ⟨List.mem_append_right _ (List.mem_append_left _ (List.mem_of_getElem? (i := 18) (by decide +kernel))), by decide +kernel⟩
theorem t_19 : (Jvm.Cond.initialized "java/lang/IllegalStateException") ∈ zTB := List.mem_filter.mpr ⟨List.mem_append_right _ (List.mem_append_left _ (List.mem_of_getElem? (i := 19) (by decide +kernel))), by decide +kernel⟩
theorem t_20 : (Jvm.Cond.initialized "AlertRows$Person") ∈ zTB := List.mem_filter.mpr ⟨List.mem_append_right _ (List.mem_append_left _ (List.mem_of_getElem? (i := 20) (by decide +kernel))), by decide +kernel⟩
theorem t_21 : (Jvm.Cond.initialized "AlertRows$Alarm") ∈ zTB := List.mem_filter.mpr ⟨List.mem_append_right _ (List.mem_append_left _ (List.mem_of_getElem? (i := 21) (by decide +kernel))), by decide +kernel⟩
theorem t_22 : (Jvm.Cond.initialized "java/lang/ArithmeticException") ∈ zTB := List.mem_filter.mpr ⟨List.mem_append_right _ (List.mem_append_left _ (List.mem_of_getElem? (i := 22) (by decide +kernel))), by decide +kernel⟩
theorem t_23 : (Jvm.Cond.classLink "AlertRowsLaw" (8 : Nat) "AlertRows") ∈ zTB := List.mem_filter.mpr ⟨List.mem_append_right _ (List.mem_append_left _ (List.mem_of_getElem? (i := 23) (by decide +kernel))), by decide +kernel⟩
theorem t_24 : (Jvm.Cond.instantiable "AlertRows" (7 : Nat)) ∈ zTB := List.mem_filter.mpr ⟨List.mem_append_right _ (List.mem_append_left _ (List.mem_of_getElem? (i := 24) (by decide +kernel))), by decide +kernel⟩
theorem t_25 : (Jvm.Cond.methodLink "AlertRowsLaw" (67 : Nat) ({ cls := "AlertRows", name := "<init>", desc := "()V" } : Jvm.MethodName)) ∈ zTB := List.mem_filter.mpr ⟨List.mem_append_right _ (List.mem_append_left _ (List.mem_of_getElem? (i := 25) (by decide +kernel))), by decide +kernel⟩
theorem t_26 : (Jvm.Cond.instanceMethod ({ cls := "AlertRows", name := "<init>", desc := "()V" } : Jvm.MethodName)) ∈ zTB := List.mem_filter.mpr ⟨List.mem_append_right _ (List.mem_append_left _ (List.mem_of_getElem? (i := 26) (by decide +kernel))), by decide +kernel⟩
theorem t_27 : (Jvm.Cond.code ({ cls := "AlertRows", name := "<init>", desc := "()V" } : Jvm.MethodName) prog_1_method_1_code (1 : Nat) (Option.none : Option Jvm.ClassFile.FieldType)) ∈ zTB := List.mem_filter.mpr ⟨List.mem_append_right _ (List.mem_append_left _ (List.mem_of_getElem? (i := 27) (by decide +kernel))), by decide +kernel⟩
theorem t_28 : (Jvm.Cond.methodLink "AlertRows" (1 : Nat) ({ cls := "java/lang/Object", name := "<init>", desc := "()V" } : Jvm.MethodName)) ∈ zTB := List.mem_filter.mpr ⟨List.mem_append_right _ (List.mem_append_left _ (List.mem_of_getElem? (i := 28) (by decide +kernel))), by decide +kernel⟩
theorem t_29 : (Jvm.Cond.instanceMethod ({ cls := "java/lang/Object", name := "<init>", desc := "()V" } : Jvm.MethodName)) ∈ zTB := List.mem_filter.mpr ⟨List.mem_append_right _ (List.mem_append_left _ (List.mem_of_getElem? (i := 29) (by decide +kernel))), by decide +kernel⟩
theorem t_30 : (Jvm.Cond.code ({ cls := "java/lang/Object", name := "<init>", desc := "()V" } : Jvm.MethodName) object_method_1_code (1 : Nat) (Option.none : Option Jvm.ClassFile.FieldType)) ∈ zTB := List.mem_filter.mpr ⟨List.mem_append_right _ (List.mem_append_left _ (List.mem_of_getElem? (i := 30) (by decide +kernel))), by decide +kernel⟩
theorem t_31 : (Jvm.Cond.classLink "AlertRows" (7 : Nat) "java/util/ArrayList") ∈ zTB := List.mem_filter.mpr ⟨List.mem_append_right _ (List.mem_append_left _ (List.mem_of_getElem? (i := 31) (by decide +kernel))), by decide +kernel⟩
theorem t_32 : (Jvm.Cond.instantiable "java/util/ArrayList" (3 : Nat)) ∈ zTB := List.mem_filter.mpr ⟨List.mem_append_right _ (List.mem_append_left _ (List.mem_of_getElem? (i := 32) (by decide +kernel))), by decide +kernel⟩
theorem t_33 : (Jvm.Cond.methodLink "AlertRows" (9 : Nat) ({ cls := "java/util/ArrayList", name := "<init>", desc := "()V" } : Jvm.MethodName)) ∈ zTB := List.mem_filter.mpr ⟨List.mem_append_right _ (List.mem_append_left _ (List.mem_of_getElem? (i := 33) (by decide +kernel))), by decide +kernel⟩
theorem t_34 : (Jvm.Cond.instanceMethod ({ cls := "java/util/ArrayList", name := "<init>", desc := "()V" } : Jvm.MethodName)) ∈ zTB := List.mem_filter.mpr ⟨List.mem_append_right _ (List.mem_append_left _ (List.mem_of_getElem? (i := 34) (by decide +kernel))), by decide +kernel⟩
theorem t_35 : (Jvm.Cond.code ({ cls := "java/util/ArrayList", name := "<init>", desc := "()V" } : Jvm.MethodName) prog_23_method_2_code (1 : Nat) (Option.none : Option Jvm.ClassFile.FieldType)) ∈ zTB := List.mem_filter.mpr ⟨List.mem_append_right _ (List.mem_append_left _ (List.mem_of_getElem? (i := 35) (by decide +kernel))), by decide +kernel⟩
theorem t_36 : (Jvm.Cond.methodLink "java/util/ArrayList" (1 : Nat) ({ cls := "java/util/AbstractList", name := "<init>", desc := "()V" } : Jvm.MethodName)) ∈ zTB := List.mem_filter.mpr ⟨List.mem_append_right _ (List.mem_append_left _ (List.mem_of_getElem? (i := 36) (by decide +kernel))), by decide +kernel⟩
theorem t_37 : (Jvm.Cond.instanceMethod ({ cls := "java/util/AbstractList", name := "<init>", desc := "()V" } : Jvm.MethodName)) ∈ zTB := List.mem_filter.mpr ⟨List.mem_append_right _ (List.mem_append_left _ (List.mem_of_getElem? (i := 37) (by decide +kernel))), by decide +kernel⟩
theorem t_38 : (Jvm.Cond.code ({ cls := "java/util/AbstractList", name := "<init>", desc := "()V" } : Jvm.MethodName) prog_22_method_1_code (1 : Nat) (Option.none : Option Jvm.ClassFile.FieldType)) ∈ zTB := List.mem_filter.mpr ⟨List.mem_append_right _ (List.mem_append_left _ (List.mem_of_getElem? (i := 38) (by decide +kernel))), by decide +kernel⟩
theorem t_39 : (Jvm.Cond.methodLink "java/util/AbstractList" (1 : Nat) ({ cls := "java/util/AbstractCollection", name := "<init>", desc := "()V" } : Jvm.MethodName)) ∈ zTB := List.mem_filter.mpr ⟨List.mem_append_right _ (List.mem_append_left _ (List.mem_of_getElem? (i := 39) (by decide +kernel))), by decide +kernel⟩
theorem t_40 : (Jvm.Cond.instanceMethod ({ cls := "java/util/AbstractCollection", name := "<init>", desc := "()V" } : Jvm.MethodName)) ∈ zTB := List.mem_filter.mpr ⟨List.mem_append_right _ (List.mem_append_left _ (List.mem_of_getElem? (i := 40) (by decide +kernel))), by decide +kernel⟩
theorem t_41 : (Jvm.Cond.code ({ cls := "java/util/AbstractCollection", name := "<init>", desc := "()V" } : Jvm.MethodName) prog_21_method_1_code (1 : Nat) (Option.none : Option Jvm.ClassFile.FieldType)) ∈ zTB := List.mem_filter.mpr ⟨List.mem_append_right _ (List.mem_append_left _ (List.mem_of_getElem? (i := 41) (by decide +kernel))), by decide +kernel⟩
theorem t_42 : (Jvm.Cond.methodLink "java/util/AbstractCollection" (1 : Nat) ({ cls := "java/lang/Object", name := "<init>", desc := "()V" } : Jvm.MethodName)) ∈ zTB := List.mem_filter.mpr ⟨List.mem_append_right _ (List.mem_append_left _ (List.mem_of_getElem? (i := 42) (by decide +kernel))), by decide +kernel⟩
theorem t_43 : (Jvm.Cond.fieldLink "java/util/ArrayList" (39 : Nat) "java/util/ArrayList" "DEFAULTCAPACITY_EMPTY_ELEMENTDATA" "[Ljava/lang/Object;") ∈ zTB := List.mem_filter.mpr ⟨List.mem_append_right _ (List.mem_append_left _ (List.mem_of_getElem? (i := 43) (by decide +kernel))), by decide +kernel⟩
theorem t_45 : (Jvm.Cond.fieldLink "java/util/ArrayList" (9 : Nat) "java/util/ArrayList" "elementData" "[Ljava/lang/Object;") ∈ zTB := List.mem_filter.mpr ⟨List.mem_append_right _ (List.mem_append_left _ (List.mem_of_getElem? (i := 45) (by decide +kernel))), by decide +kernel⟩
theorem t_46 : (Jvm.Cond.fieldLink "java/util/ArrayList" (48 : Nat) "java/util/ArrayList" "size" "I") ∈ zTB := List.mem_filter.mpr ⟨List.mem_append_right _ (List.mem_append_left _ (List.mem_of_getElem? (i := 46) (by decide +kernel))), by decide +kernel⟩
theorem t_47 : (Jvm.Cond.fieldLink "java/util/AbstractList" (7 : Nat) "java/util/AbstractList" "modCount" "I") ∈ zTB := List.mem_filter.mpr ⟨List.mem_append_right _ (List.mem_append_left _ (List.mem_of_getElem? (i := 47) (by decide +kernel))), by decide +kernel⟩
theorem t_48 : (Jvm.Cond.fieldLink "java/util/ArrayList" (63 : Nat) "java/util/ArrayList" "modCount" "I") ∈ zTB := List.mem_filter.mpr ⟨List.mem_append_right _ (List.mem_append_left _ (List.mem_of_getElem? (i := 48) (by decide +kernel))), by decide +kernel⟩
theorem t_49 : (Jvm.Cond.sameField "java/util/ArrayList" "java/util/AbstractList" "modCount" "I") ∈ zTB := List.mem_filter.mpr ⟨List.mem_append_right _ (List.mem_append_left _ (List.mem_of_getElem? (i := 49) (by decide +kernel))), by decide +kernel⟩
theorem t_57 : (Jvm.Cond.fieldLink "AlertRows" (10 : Nat) "AlertRows" "groups" "Ljava/util/ArrayList;") ∈ zTB := List.mem_filter.mpr ⟨List.mem_append_right _ (List.mem_append_left _ (List.mem_of_getElem? (i := 57) (by decide +kernel))), by decide +kernel⟩
theorem t_58 : (Jvm.Cond.fieldLink "AlertRows" (16 : Nat) "AlertRows" "persons" "Ljava/util/ArrayList;") ∈ zTB := List.mem_filter.mpr ⟨List.mem_append_right _ (List.mem_append_left _ (List.mem_of_getElem? (i := 58) (by decide +kernel))), by decide +kernel⟩
theorem t_59 : (Jvm.Cond.fieldLink "AlertRows" (19 : Nat) "AlertRows" "alarms" "Ljava/util/ArrayList;") ∈ zTB := List.mem_filter.mpr ⟨List.mem_append_right _ (List.mem_append_left _ (List.mem_of_getElem? (i := 59) (by decide +kernel))), by decide +kernel⟩
theorem t_60 : (Jvm.Cond.fieldLink "AlertRows" (119 : Nat) "AlertRows" "second" "I") ∈ zTB := List.mem_filter.mpr ⟨List.mem_append_right _ (List.mem_append_left _ (List.mem_of_getElem? (i := 60) (by decide +kernel))), by decide +kernel⟩
theorem t_61 : (Jvm.Cond.fieldLink "AlertRows" (133 : Nat) "AlertRows" "lateAnswers" "I") ∈ zTB := List.mem_filter.mpr ⟨List.mem_append_right _ (List.mem_append_left _ (List.mem_of_getElem? (i := 61) (by decide +kernel))), by decide +kernel⟩
theorem t_62 : (Jvm.Cond.fieldLink "AlertRows" (126 : Nat) "AlertRows" "earlyAnswers" "I") ∈ zTB := List.mem_filter.mpr ⟨List.mem_append_right _ (List.mem_append_left _ (List.mem_of_getElem? (i := 62) (by decide +kernel))), by decide +kernel⟩
theorem t_63 : (Jvm.Cond.fieldLink "AlertRows" (145 : Nat) "AlertRows" "secondAlarms" "I") ∈ zTB := List.mem_filter.mpr ⟨List.mem_append_right _ (List.mem_append_left _ (List.mem_of_getElem? (i := 63) (by decide +kernel))), by decide +kernel⟩
theorem t_79 : (Jvm.Cond.methodLink "AlertRowsLaw" (71 : Nat) ({ cls := "AlertRowsLaw", name := "group", desc := "(LAlertRows;II[J)I" } : Jvm.MethodName)) ∈ zTB := List.mem_filter.mpr ⟨List.mem_append_right _ (List.mem_append_left _ (List.mem_of_getElem? (i := 79) (by decide +kernel))), by decide +kernel⟩
theorem t_80 : (Jvm.Cond.static ({ cls := "AlertRowsLaw", name := "group", desc := "(LAlertRows;II[J)I" } : Jvm.MethodName)) ∈ zTB := List.mem_filter.mpr ⟨List.mem_append_right _ (List.mem_append_left _ (List.mem_of_getElem? (i := 80) (by decide +kernel))), by decide +kernel⟩
theorem t_81 : (Jvm.Cond.codeWith ({ cls := "AlertRowsLaw", name := "group", desc := "(LAlertRows;II[J)I" } : Jvm.MethodName) method_3_code (5 : Nat) (Option.some Jvm.ClassFile.FieldType.int) [((0 : Nat), (10 : Nat), (13 : Nat), (13 : Nat)), ((0 : Nat), (10 : Nat), (17 : Nat), (15 : Nat))]) ∈ zTB := List.mem_filter.mpr ⟨List.mem_append_right _ (List.mem_append_left _ (List.mem_of_getElem? (i := 81) (by decide +kernel))), by decide +kernel⟩
theorem t_82 : (Jvm.Cond.classLink "AlertRowsLaw" (13 : Nat) "java/lang/IndexOutOfBoundsException") ∈ zTB := List.mem_filter.mpr ⟨List.mem_append_right _ (List.mem_append_left _ (List.mem_of_getElem? (i := 82) (by decide +kernel))), by decide +kernel⟩
theorem t_83 : (Jvm.Cond.classLink "AlertRowsLaw" (15 : Nat) "java/lang/UnsupportedOperationException") ∈ zTB := List.mem_filter.mpr ⟨List.mem_append_right _ (List.mem_append_left _ (List.mem_of_getElem? (i := 83) (by decide +kernel))), by decide +kernel⟩
theorem t_84 : (Jvm.Cond.methodLink "AlertRowsLaw" (7 : Nat) ({ cls := "AlertRows", name := "group", desc := "(II)I" } : Jvm.MethodName)) ∈ zTB := List.mem_filter.mpr ⟨List.mem_append_right _ (List.mem_append_left _ (List.mem_of_getElem? (i := 84) (by decide +kernel))), by decide +kernel⟩
theorem t_85 : (Jvm.Cond.instanceMethod ({ cls := "AlertRows", name := "group", desc := "(II)I" } : Jvm.MethodName)) ∈ zTB := List.mem_filter.mpr ⟨List.mem_append_right _ (List.mem_append_left _ (List.mem_of_getElem? (i := 85) (by decide +kernel))), by decide +kernel⟩
theorem t_86 : (Jvm.Cond.selects "AlertRows" ({ cls := "AlertRows", name := "group", desc := "(II)I" } : Jvm.MethodName) ({ cls := "AlertRows", name := "group", desc := "(II)I" } : Jvm.MethodName)) ∈ zTB := List.mem_filter.mpr ⟨List.mem_append_right _ (List.mem_append_left _ (List.mem_of_getElem? (i := 86) (by decide +kernel))), by decide +kernel⟩
theorem t_87 : (Jvm.Cond.code ({ cls := "AlertRows", name := "group", desc := "(II)I" } : Jvm.MethodName) prog_1_method_2_code (3 : Nat) (Option.some Jvm.ClassFile.FieldType.int)) ∈ zTB := List.mem_filter.mpr ⟨List.mem_append_right _ (List.mem_append_left _ (List.mem_of_getElem? (i := 87) (by decide +kernel))), by decide +kernel⟩
theorem t_88 : (Jvm.Cond.classLink "AlertRows" (22 : Nat) "java/lang/IndexOutOfBoundsException") ∈ zTB := List.mem_filter.mpr ⟨List.mem_append_right _ (List.mem_append_left _ (List.mem_of_getElem? (i := 88) (by decide +kernel))), by decide +kernel⟩
theorem t_89 : (Jvm.Cond.instantiable "java/lang/IndexOutOfBoundsException" (6 : Nat)) ∈ zTB := List.mem_filter.mpr ⟨List.mem_append_right _ (List.mem_append_left _ (List.mem_of_getElem? (i := 89) (by decide +kernel))), by decide +kernel⟩
theorem t_97 : (Jvm.Cond.selects "java/lang/IndexOutOfBoundsException" ({ cls := "java/lang/Throwable", name := "fillInStackTrace", desc := "(I)Ljava/lang/Throwable;" } : Jvm.MethodName) ({ cls := "java/lang/Throwable", name := "fillInStackTrace", desc := "(I)Ljava/lang/Throwable;" } : Jvm.MethodName)) ∈ zTB := List.mem_filter.mpr ⟨List.mem_append_right _ (List.mem_append_left _ (List.mem_of_getElem? (i := 97) (by decide +kernel))), by decide +kernel⟩
theorem t_98 : (Jvm.Cond.selects "java/lang/IndexOutOfBoundsException" ({ cls := "java/lang/Throwable", name := "fillInStackTrace", desc := "()Ljava/lang/Throwable;" } : Jvm.MethodName) ({ cls := "java/lang/Throwable", name := "fillInStackTrace", desc := "()Ljava/lang/Throwable;" } : Jvm.MethodName)) ∈ zTB := List.mem_filter.mpr ⟨List.mem_append_right _ (List.mem_append_left _ (List.mem_of_getElem? (i := 98) (by decide +kernel))), by decide +kernel⟩
theorem t_109 : (Jvm.Cond.fieldLink "java/lang/Throwable" (198 : Nat) "java/lang/Throwable" "backtrace" "Ljava/lang/Object;") ∈ zTB := List.mem_filter.mpr ⟨List.mem_append_right _ (List.mem_append_left _ (List.mem_of_getElem? (i := 109) (by decide +kernel))), by decide +kernel⟩
theorem t_111 : (Jvm.Cond.instanceMethod ({ cls := "java/lang/Throwable", name := "<init>", desc := "()V" } : Jvm.MethodName)) ∈ zTB := List.mem_filter.mpr ⟨List.mem_append_right _ (List.mem_append_left _ (List.mem_of_getElem? (i := 111) (by decide +kernel))), by decide +kernel⟩
theorem t_112 : (Jvm.Cond.code ({ cls := "java/lang/Throwable", name := "<init>", desc := "()V" } : Jvm.MethodName) prog_19_method_1_code (1 : Nat) (Option.none : Option Jvm.ClassFile.FieldType)) ∈ zTB := List.mem_filter.mpr ⟨List.mem_append_right _ (List.mem_append_left _ (List.mem_of_getElem? (i := 112) (by decide +kernel))), by decide +kernel⟩
theorem t_113 : (Jvm.Cond.methodLink "java/lang/Throwable" (1 : Nat) ({ cls := "java/lang/Object", name := "<init>", desc := "()V" } : Jvm.MethodName)) ∈ zTB := List.mem_filter.mpr ⟨List.mem_append_right _ (List.mem_append_left _ (List.mem_of_getElem? (i := 113) (by decide +kernel))), by decide +kernel⟩
theorem t_114 : (Jvm.Cond.fieldLink "java/lang/Throwable" (13 : Nat) "java/lang/Throwable" "UNASSIGNED_STACK" "[Ljava/lang/StackTraceElement;") ∈ zTB := List.mem_filter.mpr ⟨List.mem_append_right _ (List.mem_append_left _ (List.mem_of_getElem? (i := 114) (by decide +kernel))), by decide +kernel⟩
theorem t_116 : (Jvm.Cond.fieldLink "java/lang/Throwable" (20 : Nat) "java/lang/Throwable" "SUPPRESSED_SENTINEL" "Ljava/util/List;") ∈ zTB := List.mem_filter.mpr ⟨List.mem_append_right _ (List.mem_append_left _ (List.mem_of_getElem? (i := 116) (by decide +kernel))), by decide +kernel⟩
theorem t_118 : (Jvm.Cond.methodLink "java/lang/Throwable" (27 : Nat) ({ cls := "java/lang/Throwable", name := "fillInStackTrace", desc := "()Ljava/lang/Throwable;" } : Jvm.MethodName)) ∈ zTB := List.mem_filter.mpr ⟨List.mem_append_right _ (List.mem_append_left _ (List.mem_of_getElem? (i := 118) (by decide +kernel))), by decide +kernel⟩
theorem t_119 : (Jvm.Cond.instanceMethod ({ cls := "java/lang/Throwable", name := "fillInStackTrace", desc := "()Ljava/lang/Throwable;" } : Jvm.MethodName)) ∈ zTB := List.mem_filter.mpr ⟨List.mem_append_right _ (List.mem_append_left _ (List.mem_of_getElem? (i := 119) (by decide +kernel))), by decide +kernel⟩
theorem t_121 : (Jvm.Cond.selects "java/lang/ArithmeticException" ({ cls := "java/lang/Throwable", name := "fillInStackTrace", desc := "()Ljava/lang/Throwable;" } : Jvm.MethodName) ({ cls := "java/lang/Throwable", name := "fillInStackTrace", desc := "()Ljava/lang/Throwable;" } : Jvm.MethodName)) ∈ zTB := List.mem_filter.mpr ⟨List.mem_append_right _ (List.mem_append_left _ (List.mem_of_getElem? (i := 121) (by decide +kernel))), by decide +kernel⟩
theorem t_122 : (Jvm.Cond.selects "java/lang/IllegalArgumentException" ({ cls := "java/lang/Throwable", name := "fillInStackTrace", desc := "()Ljava/lang/Throwable;" } : Jvm.MethodName) ({ cls := "java/lang/Throwable", name := "fillInStackTrace", desc := "()Ljava/lang/Throwable;" } : Jvm.MethodName)) ∈ zTB := List.mem_filter.mpr ⟨List.mem_append_right _ (List.mem_append_left _ (List.mem_of_getElem? (i := 122) (by decide +kernel))), by decide +kernel⟩
theorem t_123 : (Jvm.Cond.selects "java/lang/IllegalStateException" ({ cls := "java/lang/Throwable", name := "fillInStackTrace", desc := "()Ljava/lang/Throwable;" } : Jvm.MethodName) ({ cls := "java/lang/Throwable", name := "fillInStackTrace", desc := "()Ljava/lang/Throwable;" } : Jvm.MethodName)) ∈ zTB := List.mem_filter.mpr ⟨List.mem_append_right _ (List.mem_append_left _ (List.mem_of_getElem? (i := 123) (by decide +kernel))), by decide +kernel⟩
theorem t_124 : (Jvm.Cond.selects "java/lang/UnsupportedOperationException" ({ cls := "java/lang/Throwable", name := "fillInStackTrace", desc := "()Ljava/lang/Throwable;" } : Jvm.MethodName) ({ cls := "java/lang/Throwable", name := "fillInStackTrace", desc := "()Ljava/lang/Throwable;" } : Jvm.MethodName)) ∈ zTB := List.mem_filter.mpr ⟨List.mem_append_right _ (List.mem_append_left _ (List.mem_of_getElem? (i := 124) (by decide +kernel))), by decide +kernel⟩
theorem t_126 : (Jvm.Cond.methodLink "java/lang/Throwable" (202 : Nat) ({ cls := "java/lang/Throwable", name := "fillInStackTrace", desc := "(I)Ljava/lang/Throwable;" } : Jvm.MethodName)) ∈ zTB := List.mem_filter.mpr ⟨List.mem_append_right _ (List.mem_append_left _ (List.mem_of_getElem? (i := 126) (by decide +kernel))), by decide +kernel⟩
theorem t_128 : (Jvm.Cond.instanceMethod ({ cls := "java/lang/Throwable", name := "fillInStackTrace", desc := "(I)Ljava/lang/Throwable;" } : Jvm.MethodName)) ∈ zTB := List.mem_filter.mpr ⟨List.mem_append_right _ (List.mem_append_left _ (List.mem_of_getElem? (i := 128) (by decide +kernel))), by decide +kernel⟩
theorem t_129 : (Jvm.Cond.instantiable "java/lang/Throwable" (6 : Nat)) ∈ zTB := List.mem_filter.mpr ⟨List.mem_append_right _ (List.mem_append_left _ (List.mem_of_getElem? (i := 129) (by decide +kernel))), by decide +kernel⟩
theorem t_130 : (Jvm.Cond.native ({ cls := "java/lang/Throwable", name := "fillInStackTrace", desc := "(I)Ljava/lang/Throwable;" } : Jvm.MethodName)) ∈ zTB := List.mem_filter.mpr ⟨List.mem_append_right _ (List.mem_append_left _ (List.mem_of_getElem? (i := 130) (by decide +kernel))), by decide +kernel⟩
theorem t_132 : (Jvm.Cond.methodLink "AlertRows" (26 : Nat) ({ cls := "java/lang/IndexOutOfBoundsException", name := "<init>", desc := "(Ljava/lang/String;)V" } : Jvm.MethodName)) ∈ zTB := List.mem_filter.mpr ⟨List.mem_append_right _ (List.mem_append_left _ (List.mem_of_getElem? (i := 132) (by decide +kernel))), by decide +kernel⟩
theorem t_133 : (Jvm.Cond.instanceMethod ({ cls := "java/lang/IndexOutOfBoundsException", name := "<init>", desc := "(Ljava/lang/String;)V" } : Jvm.MethodName)) ∈ zTB := List.mem_filter.mpr ⟨List.mem_append_right _ (List.mem_append_left _ (List.mem_of_getElem? (i := 133) (by decide +kernel))), by decide +kernel⟩
theorem t_134 : (Jvm.Cond.code ({ cls := "java/lang/IndexOutOfBoundsException", name := "<init>", desc := "(Ljava/lang/String;)V" } : Jvm.MethodName) prog_13_method_2_code (2 : Nat) (Option.none : Option Jvm.ClassFile.FieldType)) ∈ zTB := List.mem_filter.mpr ⟨List.mem_append_right _ (List.mem_append_left _ (List.mem_of_getElem? (i := 134) (by decide +kernel))), by decide +kernel⟩
theorem t_135 : (Jvm.Cond.methodLink "java/lang/IndexOutOfBoundsException" (7 : Nat) ({ cls := "java/lang/RuntimeException", name := "<init>", desc := "(Ljava/lang/String;)V" } : Jvm.MethodName)) ∈ zTB := List.mem_filter.mpr ⟨List.mem_append_right _ (List.mem_append_left _ (List.mem_of_getElem? (i := 135) (by decide +kernel))), by decide +kernel⟩
theorem t_136 : (Jvm.Cond.instanceMethod ({ cls := "java/lang/RuntimeException", name := "<init>", desc := "(Ljava/lang/String;)V" } : Jvm.MethodName)) ∈ zTB := List.mem_filter.mpr ⟨List.mem_append_right _ (List.mem_append_left _ (List.mem_of_getElem? (i := 136) (by decide +kernel))), by decide +kernel⟩
theorem t_137 : (Jvm.Cond.code ({ cls := "java/lang/RuntimeException", name := "<init>", desc := "(Ljava/lang/String;)V" } : Jvm.MethodName) prog_16_method_2_code (2 : Nat) (Option.none : Option Jvm.ClassFile.FieldType)) ∈ zTB := List.mem_filter.mpr ⟨List.mem_append_right _ (List.mem_append_left _ (List.mem_of_getElem? (i := 137) (by decide +kernel))), by decide +kernel⟩
theorem t_138 : (Jvm.Cond.methodLink "java/lang/RuntimeException" (7 : Nat) ({ cls := "java/lang/Exception", name := "<init>", desc := "(Ljava/lang/String;)V" } : Jvm.MethodName)) ∈ zTB := List.mem_filter.mpr ⟨List.mem_append_right _ (List.mem_append_left _ (List.mem_of_getElem? (i := 138) (by decide +kernel))), by decide +kernel⟩
theorem t_139 : (Jvm.Cond.instanceMethod ({ cls := "java/lang/Exception", name := "<init>", desc := "(Ljava/lang/String;)V" } : Jvm.MethodName)) ∈ zTB := List.mem_filter.mpr ⟨List.mem_append_right _ (List.mem_append_left _ (List.mem_of_getElem? (i := 139) (by decide +kernel))), by decide +kernel⟩
theorem t_140 : (Jvm.Cond.code ({ cls := "java/lang/Exception", name := "<init>", desc := "(Ljava/lang/String;)V" } : Jvm.MethodName) prog_10_method_2_code (2 : Nat) (Option.none : Option Jvm.ClassFile.FieldType)) ∈ zTB := List.mem_filter.mpr ⟨List.mem_append_right _ (List.mem_append_left _ (List.mem_of_getElem? (i := 140) (by decide +kernel))), by decide +kernel⟩
theorem t_141 : (Jvm.Cond.methodLink "java/lang/Exception" (7 : Nat) ({ cls := "java/lang/Throwable", name := "<init>", desc := "(Ljava/lang/String;)V" } : Jvm.MethodName)) ∈ zTB := List.mem_filter.mpr ⟨List.mem_append_right _ (List.mem_append_left _ (List.mem_of_getElem? (i := 141) (by decide +kernel))), by decide +kernel⟩
theorem t_142 : (Jvm.Cond.instanceMethod ({ cls := "java/lang/Throwable", name := "<init>", desc := "(Ljava/lang/String;)V" } : Jvm.MethodName)) ∈ zTB := List.mem_filter.mpr ⟨List.mem_append_right _ (List.mem_append_left _ (List.mem_of_getElem? (i := 142) (by decide +kernel))), by decide +kernel⟩
theorem t_143 : (Jvm.Cond.code ({ cls := "java/lang/Throwable", name := "<init>", desc := "(Ljava/lang/String;)V" } : Jvm.MethodName) prog_19_method_2_code (2 : Nat) (Option.none : Option Jvm.ClassFile.FieldType)) ∈ zTB := List.mem_filter.mpr ⟨List.mem_append_right _ (List.mem_append_left _ (List.mem_of_getElem? (i := 143) (by decide +kernel))), by decide +kernel⟩
theorem t_145 : (Jvm.Cond.fieldLink "java/lang/Throwable" (31 : Nat) "java/lang/Throwable" "detailMessage" "Ljava/lang/String;") ∈ zTB := List.mem_filter.mpr ⟨List.mem_append_right _ (List.mem_append_left _ (List.mem_of_getElem? (i := 145) (by decide +kernel))), by decide +kernel⟩
theorem t_146 : (Jvm.Cond.fieldLink "java/lang/Throwable" (7 : Nat) "java/lang/Throwable" "cause" "Ljava/lang/Throwable;") ∈ zTB := List.mem_filter.mpr ⟨List.mem_append_right _ (List.mem_append_left _ (List.mem_of_getElem? (i := 146) (by decide +kernel))), by decide +kernel⟩
theorem t_147 : (Jvm.Cond.fieldLink "java/lang/Throwable" (17 : Nat) "java/lang/Throwable" "stackTrace" "[Ljava/lang/StackTraceElement;") ∈ zTB := List.mem_filter.mpr ⟨List.mem_append_right _ (List.mem_append_left _ (List.mem_of_getElem? (i := 147) (by decide +kernel))), by decide +kernel⟩
theorem t_148 : (Jvm.Cond.fieldLink "java/lang/Throwable" (24 : Nat) "java/lang/Throwable" "suppressedExceptions" "Ljava/util/List;") ∈ zTB := List.mem_filter.mpr ⟨List.mem_append_right _ (List.mem_append_left _ (List.mem_of_getElem? (i := 148) (by decide +kernel))), by decide +kernel⟩
theorem t_157 : (Jvm.Cond.arrayClass Jvm.ClassFile.FieldType.byte) ∈ zTB := List.mem_filter.mpr ⟨List.mem_append_right _ (List.mem_append_left _ (List.mem_of_getElem? (i := 157) (by decide +kernel))), by decide +kernel⟩
theorem t_159 : (Jvm.Cond.methodLink "AlertRows" (31 : Nat) ({ cls := "java/util/ArrayList", name := "size", desc := "()I" } : Jvm.MethodName)) ∈ zTB := List.mem_filter.mpr ⟨List.mem_append_right _ (List.mem_append_left _ (List.mem_of_getElem? (i := 159) (by decide +kernel))), by decide +kernel⟩
theorem t_160 : (Jvm.Cond.instanceMethod ({ cls := "java/util/ArrayList", name := "size", desc := "()I" } : Jvm.MethodName)) ∈ zTB := List.mem_filter.mpr ⟨List.mem_append_right _ (List.mem_append_left _ (List.mem_of_getElem? (i := 160) (by decide +kernel))), by decide +kernel⟩
theorem t_161 : (Jvm.Cond.selects "java/util/ArrayList" ({ cls := "java/util/ArrayList", name := "size", desc := "()I" } : Jvm.MethodName) ({ cls := "java/util/ArrayList", name := "size", desc := "()I" } : Jvm.MethodName)) ∈ zTB := List.mem_filter.mpr ⟨List.mem_append_right _ (List.mem_append_left _ (List.mem_of_getElem? (i := 161) (by decide +kernel))), by decide +kernel⟩
theorem t_162 : (Jvm.Cond.code ({ cls := "java/util/ArrayList", name := "size", desc := "()I" } : Jvm.MethodName) prog_23_method_8_code (1 : Nat) (Option.some Jvm.ClassFile.FieldType.int)) ∈ zTB := List.mem_filter.mpr ⟨List.mem_append_right _ (List.mem_append_left _ (List.mem_of_getElem? (i := 162) (by decide +kernel))), by decide +kernel⟩
theorem t_163 : (Jvm.Cond.classLink "AlertRows" (35 : Nat) "java/lang/UnsupportedOperationException") ∈ zTB := List.mem_filter.mpr ⟨List.mem_append_right _ (List.mem_append_left _ (List.mem_of_getElem? (i := 163) (by decide +kernel))), by decide +kernel⟩
theorem t_164 : (Jvm.Cond.instantiable "java/lang/UnsupportedOperationException" (6 : Nat)) ∈ zTB := List.mem_filter.mpr ⟨List.mem_append_right _ (List.mem_append_left _ (List.mem_of_getElem? (i := 164) (by decide +kernel))), by decide +kernel⟩
theorem t_166 : (Jvm.Cond.selects "java/lang/UnsupportedOperationException" ({ cls := "java/lang/Throwable", name := "fillInStackTrace", desc := "(I)Ljava/lang/Throwable;" } : Jvm.MethodName) ({ cls := "java/lang/Throwable", name := "fillInStackTrace", desc := "(I)Ljava/lang/Throwable;" } : Jvm.MethodName)) ∈ zTB := List.mem_filter.mpr ⟨List.mem_append_right _ (List.mem_append_left _ (List.mem_of_getElem? (i := 166) (by decide +kernel))), by decide +kernel⟩
theorem t_173 : (Jvm.Cond.methodLink "AlertRows" (39 : Nat) ({ cls := "java/lang/UnsupportedOperationException", name := "<init>", desc := "(Ljava/lang/String;)V" } : Jvm.MethodName)) ∈ zTB := List.mem_filter.mpr ⟨List.mem_append_right _ (List.mem_append_left _ (List.mem_of_getElem? (i := 173) (by decide +kernel))), by decide +kernel⟩
theorem t_174 : (Jvm.Cond.instanceMethod ({ cls := "java/lang/UnsupportedOperationException", name := "<init>", desc := "(Ljava/lang/String;)V" } : Jvm.MethodName)) ∈ zTB := List.mem_filter.mpr ⟨List.mem_append_right _ (List.mem_append_left _ (List.mem_of_getElem? (i := 174) (by decide +kernel))), by decide +kernel⟩
theorem t_175 : (Jvm.Cond.code ({ cls := "java/lang/UnsupportedOperationException", name := "<init>", desc := "(Ljava/lang/String;)V" } : Jvm.MethodName) prog_20_method_2_code (2 : Nat) (Option.none : Option Jvm.ClassFile.FieldType)) ∈ zTB := List.mem_filter.mpr ⟨List.mem_append_right _ (List.mem_append_left _ (List.mem_of_getElem? (i := 175) (by decide +kernel))), by decide +kernel⟩
theorem t_176 : (Jvm.Cond.methodLink "java/lang/UnsupportedOperationException" (7 : Nat) ({ cls := "java/lang/RuntimeException", name := "<init>", desc := "(Ljava/lang/String;)V" } : Jvm.MethodName)) ∈ zTB := List.mem_filter.mpr ⟨List.mem_append_right _ (List.mem_append_left _ (List.mem_of_getElem? (i := 176) (by decide +kernel))), by decide +kernel⟩
theorem t_179 : (Jvm.Cond.classLink "AlertRows" (40 : Nat) "AlertRows$Group") ∈ zTB := List.mem_filter.mpr ⟨List.mem_append_right _ (List.mem_append_left _ (List.mem_of_getElem? (i := 179) (by decide +kernel))), by decide +kernel⟩
theorem t_180 : (Jvm.Cond.instantiable "AlertRows$Group" (5 : Nat)) ∈ zTB := List.mem_filter.mpr ⟨List.mem_append_right _ (List.mem_append_left _ (List.mem_of_getElem? (i := 180) (by decide +kernel))), by decide +kernel⟩
theorem t_181 : (Jvm.Cond.methodLink "AlertRows" (42 : Nat) ({ cls := "AlertRows$Group", name := "<init>", desc := "(II)V" } : Jvm.MethodName)) ∈ zTB := List.mem_filter.mpr ⟨List.mem_append_right _ (List.mem_append_left _ (List.mem_of_getElem? (i := 181) (by decide +kernel))), by decide +kernel⟩
theorem t_182 : (Jvm.Cond.instanceMethod ({ cls := "AlertRows$Group", name := "<init>", desc := "(II)V" } : Jvm.MethodName)) ∈ zTB := List.mem_filter.mpr ⟨List.mem_append_right _ (List.mem_append_left _ (List.mem_of_getElem? (i := 182) (by decide +kernel))), by decide +kernel⟩
theorem t_183 : (Jvm.Cond.code ({ cls := "AlertRows$Group", name := "<init>", desc := "(II)V" } : Jvm.MethodName) prog_3_method_1_code (3 : Nat) (Option.none : Option Jvm.ClassFile.FieldType)) ∈ zTB := List.mem_filter.mpr ⟨List.mem_append_right _ (List.mem_append_left _ (List.mem_of_getElem? (i := 183) (by decide +kernel))), by decide +kernel⟩
theorem t_184 : (Jvm.Cond.methodLink "AlertRows$Group" (3 : Nat) ({ cls := "java/lang/Object", name := "<init>", desc := "()V" } : Jvm.MethodName)) ∈ zTB := List.mem_filter.mpr ⟨List.mem_append_right _ (List.mem_append_left _ (List.mem_of_getElem? (i := 184) (by decide +kernel))), by decide +kernel⟩
theorem t_185 : (Jvm.Cond.fieldLink "AlertRows$Group" (9 : Nat) "AlertRows$Group" "least" "I") ∈ zTB := List.mem_filter.mpr ⟨List.mem_append_right _ (List.mem_append_left _ (List.mem_of_getElem? (i := 185) (by decide +kernel))), by decide +kernel⟩
theorem t_187 : (Jvm.Cond.fieldLink "AlertRows$Group" (15 : Nat) "AlertRows$Group" "time" "I") ∈ zTB := List.mem_filter.mpr ⟨List.mem_append_right _ (List.mem_append_left _ (List.mem_of_getElem? (i := 187) (by decide +kernel))), by decide +kernel⟩
theorem t_189 : (Jvm.Cond.fieldLink "AlertRows$Group" (18 : Nat) "AlertRows$Group" "following" "I") ∈ zTB := List.mem_filter.mpr ⟨List.mem_append_right _ (List.mem_append_left _ (List.mem_of_getElem? (i := 189) (by decide +kernel))), by decide +kernel⟩
theorem t_204 : (Jvm.Cond.methodLink "AlertRows" (45 : Nat) ({ cls := "java/util/ArrayList", name := "add", desc := "(Ljava/lang/Object;)Z" } : Jvm.MethodName)) ∈ zTB := List.mem_filter.mpr ⟨List.mem_append_right _ (List.mem_append_left _ (List.mem_of_getElem? (i := 204) (by decide +kernel))), by decide +kernel⟩
theorem t_205 : (Jvm.Cond.instanceMethod ({ cls := "java/util/ArrayList", name := "add", desc := "(Ljava/lang/Object;)Z" } : Jvm.MethodName)) ∈ zTB := List.mem_filter.mpr ⟨List.mem_append_right _ (List.mem_append_left _ (List.mem_of_getElem? (i := 205) (by decide +kernel))), by decide +kernel⟩
theorem t_206 : (Jvm.Cond.selects "java/util/ArrayList" ({ cls := "java/util/ArrayList", name := "add", desc := "(Ljava/lang/Object;)Z" } : Jvm.MethodName) ({ cls := "java/util/ArrayList", name := "add", desc := "(Ljava/lang/Object;)Z" } : Jvm.MethodName)) ∈ zTB := List.mem_filter.mpr ⟨List.mem_append_right _ (List.mem_append_left _ (List.mem_of_getElem? (i := 206) (by decide +kernel))), by decide +kernel⟩
theorem t_207 : (Jvm.Cond.code ({ cls := "java/util/ArrayList", name := "add", desc := "(Ljava/lang/Object;)Z" } : Jvm.MethodName) prog_23_method_25_code (2 : Nat) (Option.some Jvm.ClassFile.FieldType.boolean)) ∈ zTB := List.mem_filter.mpr ⟨List.mem_append_right _ (List.mem_append_left _ (List.mem_of_getElem? (i := 207) (by decide +kernel))), by decide +kernel⟩
theorem t_208 : (Jvm.Cond.methodLink "java/util/ArrayList" (131 : Nat) ({ cls := "java/util/ArrayList", name := "add", desc := "(Ljava/lang/Object;[Ljava/lang/Object;I)V" } : Jvm.MethodName)) ∈ zTB := List.mem_filter.mpr ⟨List.mem_append_right _ (List.mem_append_left _ (List.mem_of_getElem? (i := 208) (by decide +kernel))), by decide +kernel⟩
theorem t_210 : (Jvm.Cond.instanceMethod ({ cls := "java/util/ArrayList", name := "add", desc := "(Ljava/lang/Object;[Ljava/lang/Object;I)V" } : Jvm.MethodName)) ∈ zTB := List.mem_filter.mpr ⟨List.mem_append_right _ (List.mem_append_left _ (List.mem_of_getElem? (i := 210) (by decide +kernel))), by decide +kernel⟩
theorem t_211 : (Jvm.Cond.code ({ cls := "java/util/ArrayList", name := "add", desc := "(Ljava/lang/Object;[Ljava/lang/Object;I)V" } : Jvm.MethodName) prog_23_method_24_code (4 : Nat) (Option.none : Option Jvm.ClassFile.FieldType)) ∈ zTB := List.mem_filter.mpr ⟨List.mem_append_right _ (List.mem_append_left _ (List.mem_of_getElem? (i := 211) (by decide +kernel))), by decide +kernel⟩
theorem t_212 : (Jvm.Cond.methodLink "java/util/ArrayList" (129 : Nat) ({ cls := "java/util/ArrayList", name := "grow", desc := "()[Ljava/lang/Object;" } : Jvm.MethodName)) ∈ zTB := List.mem_filter.mpr ⟨List.mem_append_right _ (List.mem_append_left _ (List.mem_of_getElem? (i := 212) (by decide +kernel))), by decide +kernel⟩
theorem t_214 : (Jvm.Cond.instanceMethod ({ cls := "java/util/ArrayList", name := "grow", desc := "()[Ljava/lang/Object;" } : Jvm.MethodName)) ∈ zTB := List.mem_filter.mpr ⟨List.mem_append_right _ (List.mem_append_left _ (List.mem_of_getElem? (i := 214) (by decide +kernel))), by decide +kernel⟩
theorem t_215 : (Jvm.Cond.code ({ cls := "java/util/ArrayList", name := "grow", desc := "()[Ljava/lang/Object;" } : Jvm.MethodName) prog_23_method_7_code (1 : Nat) (Option.some (Jvm.ClassFile.FieldType.array (Jvm.ClassFile.FieldType.object "java/lang/Object")))) ∈ zTB := List.mem_filter.mpr ⟨List.mem_append_right _ (List.mem_append_left _ (List.mem_of_getElem? (i := 215) (by decide +kernel))), by decide +kernel⟩
theorem t_216 : (Jvm.Cond.methodLink "java/util/ArrayList" (69 : Nat) ({ cls := "java/util/ArrayList", name := "grow", desc := "(I)[Ljava/lang/Object;" } : Jvm.MethodName)) ∈ zTB := List.mem_filter.mpr ⟨List.mem_append_right _ (List.mem_append_left _ (List.mem_of_getElem? (i := 216) (by decide +kernel))), by decide +kernel⟩
theorem t_218 : (Jvm.Cond.instanceMethod ({ cls := "java/util/ArrayList", name := "grow", desc := "(I)[Ljava/lang/Object;" } : Jvm.MethodName)) ∈ zTB := List.mem_filter.mpr ⟨List.mem_append_right _ (List.mem_append_left _ (List.mem_of_getElem? (i := 218) (by decide +kernel))), by decide +kernel⟩
theorem t_219 : (Jvm.Cond.code ({ cls := "java/util/ArrayList", name := "grow", desc := "(I)[Ljava/lang/Object;" } : Jvm.MethodName) prog_23_method_6_code (4 : Nat) (Option.some (Jvm.ClassFile.FieldType.array (Jvm.ClassFile.FieldType.object "java/lang/Object")))) ∈ zTB := List.mem_filter.mpr ⟨List.mem_append_right _ (List.mem_append_left _ (List.mem_of_getElem? (i := 219) (by decide +kernel))), by decide +kernel⟩
theorem t_220 : (Jvm.Cond.methodLink "java/util/ArrayList" (73 : Nat) ({ cls := "jdk/internal/util/ArraysSupport", name := "newLength", desc := "(III)I" } : Jvm.MethodName)) ∈ zTB := List.mem_filter.mpr ⟨List.mem_append_right _ (List.mem_append_left _ (List.mem_of_getElem? (i := 220) (by decide +kernel))), by decide +kernel⟩
theorem t_221 : (Jvm.Cond.static ({ cls := "jdk/internal/util/ArraysSupport", name := "newLength", desc := "(III)I" } : Jvm.MethodName)) ∈ zTB := List.mem_filter.mpr ⟨List.mem_append_right _ (List.mem_append_left _ (List.mem_of_getElem? (i := 221) (by decide +kernel))), by decide +kernel⟩
theorem t_222 : (Jvm.Cond.code ({ cls := "jdk/internal/util/ArraysSupport", name := "newLength", desc := "(III)I" } : Jvm.MethodName) prog_30_method_27_code (4 : Nat) (Option.some Jvm.ClassFile.FieldType.int)) ∈ zTB := List.mem_filter.mpr ⟨List.mem_append_right _ (List.mem_append_left _ (List.mem_of_getElem? (i := 222) (by decide +kernel))), by decide +kernel⟩
theorem t_223 : (Jvm.Cond.methodLink "jdk/internal/util/ArraysSupport" (194 : Nat) ({ cls := "java/lang/Math", name := "max", desc := "(II)I" } : Jvm.MethodName)) ∈ zTB := List.mem_filter.mpr ⟨List.mem_append_right _ (List.mem_append_left _ (List.mem_of_getElem? (i := 223) (by decide +kernel))), by decide +kernel⟩
theorem t_224 : (Jvm.Cond.static ({ cls := "java/lang/Math", name := "max", desc := "(II)I" } : Jvm.MethodName)) ∈ zTB := List.mem_filter.mpr ⟨List.mem_append_right _ (List.mem_append_left _ (List.mem_of_getElem? (i := 224) (by decide +kernel))), by decide +kernel⟩
theorem t_225 : (Jvm.Cond.code ({ cls := "java/lang/Math", name := "max", desc := "(II)I" } : Jvm.MethodName) prog_15_method_65_code (2 : Nat) (Option.some Jvm.ClassFile.FieldType.int)) ∈ zTB := List.mem_filter.mpr ⟨List.mem_append_right _ (List.mem_append_left _ (List.mem_of_getElem? (i := 225) (by decide +kernel))), by decide +kernel⟩
theorem t_226 : (Jvm.Cond.constant "jdk/internal/util/ArraysSupport" (200 : Nat) (2147483639 : Int32)) ∈ zTB := List.mem_filter.mpr ⟨List.mem_append_right _ (List.mem_append_left _ (List.mem_of_getElem? (i := 226) (by decide +kernel))), by decide +kernel⟩
theorem t_227 : (Jvm.Cond.methodLink "jdk/internal/util/ArraysSupport" (201 : Nat) ({ cls := "jdk/internal/util/ArraysSupport", name := "hugeLength", desc := "(II)I" } : Jvm.MethodName)) ∈ zTB := List.mem_filter.mpr ⟨List.mem_append_right _ (List.mem_append_left _ (List.mem_of_getElem? (i := 227) (by decide +kernel))), by decide +kernel⟩
theorem t_228 : (Jvm.Cond.static ({ cls := "jdk/internal/util/ArraysSupport", name := "hugeLength", desc := "(II)I" } : Jvm.MethodName)) ∈ zTB := List.mem_filter.mpr ⟨List.mem_append_right _ (List.mem_append_left _ (List.mem_of_getElem? (i := 228) (by decide +kernel))), by decide +kernel⟩
theorem t_229 : (Jvm.Cond.code ({ cls := "jdk/internal/util/ArraysSupport", name := "hugeLength", desc := "(II)I" } : Jvm.MethodName) prog_30_method_28_code (3 : Nat) (Option.some Jvm.ClassFile.FieldType.int)) ∈ zTB := List.mem_filter.mpr ⟨List.mem_append_right _ (List.mem_append_left _ (List.mem_of_getElem? (i := 229) (by decide +kernel))), by decide +kernel⟩
theorem t_230 : (Jvm.Cond.methodLink "java/util/ArrayList" (66 : Nat) ({ cls := "java/util/Arrays", name := "copyOf", desc := "([Ljava/lang/Object;I)[Ljava/lang/Object;" } : Jvm.MethodName)) ∈ zTB := List.mem_filter.mpr ⟨List.mem_append_right _ (List.mem_append_left _ (List.mem_of_getElem? (i := 230) (by decide +kernel))), by decide +kernel⟩
theorem t_231 : (Jvm.Cond.static ({ cls := "java/util/Arrays", name := "copyOf", desc := "([Ljava/lang/Object;I)[Ljava/lang/Object;" } : Jvm.MethodName)) ∈ zTB := List.mem_filter.mpr ⟨List.mem_append_right _ (List.mem_append_left _ (List.mem_of_getElem? (i := 231) (by decide +kernel))), by decide +kernel⟩
theorem t_232 : (Jvm.Cond.code ({ cls := "java/util/Arrays", name := "copyOf", desc := "([Ljava/lang/Object;I)[Ljava/lang/Object;" } : Jvm.MethodName) prog_24_method_119_code (2 : Nat) (Option.some (Jvm.ClassFile.FieldType.array (Jvm.ClassFile.FieldType.object "java/lang/Object")))) ∈ zTB := List.mem_filter.mpr ⟨List.mem_append_right _ (List.mem_append_left _ (List.mem_of_getElem? (i := 232) (by decide +kernel))), by decide +kernel⟩
theorem t_233 : (Jvm.Cond.methodLink "java/util/Arrays" (86 : Nat) ({ cls := "java/lang/Object", name := "getClass", desc := "()Ljava/lang/Class;" } : Jvm.MethodName)) ∈ zTB := List.mem_filter.mpr ⟨List.mem_append_right _ (List.mem_append_left _ (List.mem_of_getElem? (i := 233) (by decide +kernel))), by decide +kernel⟩
theorem t_234 : (Jvm.Cond.instanceMethod ({ cls := "java/lang/Object", name := "getClass", desc := "()Ljava/lang/Class;" } : Jvm.MethodName)) ∈ zTB := List.mem_filter.mpr ⟨List.mem_append_right _ (List.mem_append_left _ (List.mem_of_getElem? (i := 234) (by decide +kernel))), by decide +kernel⟩
theorem t_236 : (Jvm.Cond.selects "AlertRows" ({ cls := "java/lang/Object", name := "getClass", desc := "()Ljava/lang/Class;" } : Jvm.MethodName) ({ cls := "java/lang/Object", name := "getClass", desc := "()Ljava/lang/Class;" } : Jvm.MethodName)) ∈ zTB := List.mem_filter.mpr ⟨List.mem_append_right _ (List.mem_append_left _ (List.mem_of_getElem? (i := 236) (by decide +kernel))), by decide +kernel⟩
theorem t_237 : (Jvm.Cond.selects "AlertRows$Alarm" ({ cls := "java/lang/Object", name := "getClass", desc := "()Ljava/lang/Class;" } : Jvm.MethodName) ({ cls := "java/lang/Object", name := "getClass", desc := "()Ljava/lang/Class;" } : Jvm.MethodName)) ∈ zTB := List.mem_filter.mpr ⟨List.mem_append_right _ (List.mem_append_left _ (List.mem_of_getElem? (i := 237) (by decide +kernel))), by decide +kernel⟩
theorem t_238 : (Jvm.Cond.selects "AlertRows$Group" ({ cls := "java/lang/Object", name := "getClass", desc := "()Ljava/lang/Class;" } : Jvm.MethodName) ({ cls := "java/lang/Object", name := "getClass", desc := "()Ljava/lang/Class;" } : Jvm.MethodName)) ∈ zTB := List.mem_filter.mpr ⟨List.mem_append_right _ (List.mem_append_left _ (List.mem_of_getElem? (i := 238) (by decide +kernel))), by decide +kernel⟩
theorem t_239 : (Jvm.Cond.selects "AlertRows$Person" ({ cls := "java/lang/Object", name := "getClass", desc := "()Ljava/lang/Class;" } : Jvm.MethodName) ({ cls := "java/lang/Object", name := "getClass", desc := "()Ljava/lang/Class;" } : Jvm.MethodName)) ∈ zTB := List.mem_filter.mpr ⟨List.mem_append_right _ (List.mem_append_left _ (List.mem_of_getElem? (i := 239) (by decide +kernel))), by decide +kernel⟩
theorem t_240 : (Jvm.Cond.selects "AlertRowsModel" ({ cls := "java/lang/Object", name := "getClass", desc := "()Ljava/lang/Class;" } : Jvm.MethodName) ({ cls := "java/lang/Object", name := "getClass", desc := "()Ljava/lang/Class;" } : Jvm.MethodName)) ∈ zTB := List.mem_filter.mpr ⟨List.mem_append_right _ (List.mem_append_right _ (List.mem_append_left _ (List.mem_of_getElem? (i := 0) (by decide +kernel)))), by decide +kernel⟩
theorem t_241 : (Jvm.Cond.selects "java/lang/ArithmeticException" ({ cls := "java/lang/Object", name := "getClass", desc := "()Ljava/lang/Class;" } : Jvm.MethodName) ({ cls := "java/lang/Object", name := "getClass", desc := "()Ljava/lang/Class;" } : Jvm.MethodName)) ∈ zTB := List.mem_filter.mpr ⟨List.mem_append_right _ (List.mem_append_right _ (List.mem_append_left _ (List.mem_of_getElem? (i := 1) (by decide +kernel)))), by decide +kernel⟩
theorem t_242 : (Jvm.Cond.selects "java/lang/IllegalArgumentException" ({ cls := "java/lang/Object", name := "getClass", desc := "()Ljava/lang/Class;" } : Jvm.MethodName) ({ cls := "java/lang/Object", name := "getClass", desc := "()Ljava/lang/Class;" } : Jvm.MethodName)) ∈ zTB := List.mem_filter.mpr ⟨List.mem_append_right _ (List.mem_append_right _ (List.mem_append_left _ (List.mem_of_getElem? (i := 2) (by decide +kernel)))), by decide +kernel⟩
theorem t_243 : (Jvm.Cond.selects "java/lang/IllegalStateException" ({ cls := "java/lang/Object", name := "getClass", desc := "()Ljava/lang/Class;" } : Jvm.MethodName) ({ cls := "java/lang/Object", name := "getClass", desc := "()Ljava/lang/Class;" } : Jvm.MethodName)) ∈ zTB := List.mem_filter.mpr ⟨List.mem_append_right _ (List.mem_append_right _ (List.mem_append_left _ (List.mem_of_getElem? (i := 3) (by decide +kernel)))), by decide +kernel⟩
theorem t_244 : (Jvm.Cond.selects "java/lang/IndexOutOfBoundsException" ({ cls := "java/lang/Object", name := "getClass", desc := "()Ljava/lang/Class;" } : Jvm.MethodName) ({ cls := "java/lang/Object", name := "getClass", desc := "()Ljava/lang/Class;" } : Jvm.MethodName)) ∈ zTB := List.mem_filter.mpr ⟨List.mem_append_right _ (List.mem_append_right _ (List.mem_append_left _ (List.mem_of_getElem? (i := 4) (by decide +kernel)))), by decide +kernel⟩
theorem t_245 : (Jvm.Cond.selects "java/lang/UnsupportedOperationException" ({ cls := "java/lang/Object", name := "getClass", desc := "()Ljava/lang/Class;" } : Jvm.MethodName) ({ cls := "java/lang/Object", name := "getClass", desc := "()Ljava/lang/Class;" } : Jvm.MethodName)) ∈ zTB := List.mem_filter.mpr ⟨List.mem_append_right _ (List.mem_append_right _ (List.mem_append_left _ (List.mem_of_getElem? (i := 5) (by decide +kernel)))), by decide +kernel⟩
theorem t_246 : (Jvm.Cond.selects "java/util/ArrayList" ({ cls := "java/lang/Object", name := "getClass", desc := "()Ljava/lang/Class;" } : Jvm.MethodName) ({ cls := "java/lang/Object", name := "getClass", desc := "()Ljava/lang/Class;" } : Jvm.MethodName)) ∈ zTB := List.mem_filter.mpr ⟨List.mem_append_right _ (List.mem_append_right _ (List.mem_append_left _ (List.mem_of_getElem? (i := 6) (by decide +kernel)))), by decide +kernel⟩
theorem t_247 : (Jvm.Cond.native ({ cls := "java/lang/Object", name := "getClass", desc := "()Ljava/lang/Class;" } : Jvm.MethodName)) ∈ zTB := List.mem_filter.mpr ⟨List.mem_append_right _ (List.mem_append_right _ (List.mem_append_left _ (List.mem_of_getElem? (i := 7) (by decide +kernel)))), by decide +kernel⟩
theorem t_248 : (Jvm.Cond.methodLink "java/util/Arrays" (300 : Nat) ({ cls := "java/util/Arrays", name := "copyOf", desc := "([Ljava/lang/Object;ILjava/lang/Class;)[Ljava/lang/Object;" } : Jvm.MethodName)) ∈ zTB := List.mem_filter.mpr ⟨List.mem_append_right _ (List.mem_append_right _ (List.mem_append_left _ (List.mem_of_getElem? (i := 8) (by decide +kernel)))), by decide +kernel⟩
theorem t_249 : (Jvm.Cond.static ({ cls := "java/util/Arrays", name := "copyOf", desc := "([Ljava/lang/Object;ILjava/lang/Class;)[Ljava/lang/Object;" } : Jvm.MethodName)) ∈ zTB := List.mem_filter.mpr ⟨List.mem_append_right _ (List.mem_append_right _ (List.mem_append_left _ (List.mem_of_getElem? (i := 9) (by decide +kernel)))), by decide +kernel⟩
theorem t_250 : (Jvm.Cond.code ({ cls := "java/util/Arrays", name := "copyOf", desc := "([Ljava/lang/Object;ILjava/lang/Class;)[Ljava/lang/Object;" } : Jvm.MethodName) prog_24_method_120_code (4 : Nat) (Option.some (Jvm.ClassFile.FieldType.array (Jvm.ClassFile.FieldType.object "java/lang/Object")))) ∈ zTB := List.mem_filter.mpr ⟨List.mem_append_right _ (List.mem_append_right _ (List.mem_append_left _ (List.mem_of_getElem? (i := 10) (by decide +kernel)))), by decide +kernel⟩
theorem t_251 : (Jvm.Cond.classLink "java/util/Arrays" (110 : Nat) "[Ljava/lang/Object;") ∈ zTB := List.mem_filter.mpr ⟨List.mem_append_right _ (List.mem_append_right _ (List.mem_append_left _ (List.mem_of_getElem? (i := 11) (by decide +kernel)))), by decide +kernel⟩
theorem t_253 : (Jvm.Cond.classLink "java/util/Arrays" (2 : Nat) "java/lang/Object") ∈ zTB := List.mem_filter.mpr ⟨List.mem_append_right _ (List.mem_append_right _ (List.mem_append_left _ (List.mem_of_getElem? (i := 13) (by decide +kernel)))), by decide +kernel⟩
theorem t_254 : (Jvm.Cond.methodLink "java/util/Arrays" (304 : Nat) ({ cls := "java/lang/Math", name := "min", desc := "(II)I" } : Jvm.MethodName)) ∈ zTB := List.mem_filter.mpr ⟨List.mem_append_right _ (List.mem_append_right _ (List.mem_append_left _ (List.mem_of_getElem? (i := 14) (by decide +kernel)))), by decide +kernel⟩
theorem t_255 : (Jvm.Cond.static ({ cls := "java/lang/Math", name := "min", desc := "(II)I" } : Jvm.MethodName)) ∈ zTB := List.mem_filter.mpr ⟨List.mem_append_right _ (List.mem_append_right _ (List.mem_append_left _ (List.mem_of_getElem? (i := 15) (by decide +kernel)))), by decide +kernel⟩
theorem t_256 : (Jvm.Cond.code ({ cls := "java/lang/Math", name := "min", desc := "(II)I" } : Jvm.MethodName) prog_15_method_69_code (2 : Nat) (Option.some Jvm.ClassFile.FieldType.int)) ∈ zTB := List.mem_filter.mpr ⟨List.mem_append_right _ (List.mem_append_right _ (List.mem_append_left _ (List.mem_of_getElem? (i := 16) (by decide +kernel)))), by decide +kernel⟩
theorem t_257 : (Jvm.Cond.methodLink "java/util/Arrays" (150 : Nat) ({ cls := "java/lang/System", name := "arraycopy", desc := "(Ljava/lang/Object;ILjava/lang/Object;II)V" } : Jvm.MethodName)) ∈ zTB := List.mem_filter.mpr ⟨List.mem_append_right _ (List.mem_append_right _ (List.mem_append_left _ (List.mem_of_getElem? (i := 17) (by decide +kernel)))), by decide +kernel⟩
theorem t_258 : (Jvm.Cond.static ({ cls := "java/lang/System", name := "arraycopy", desc := "(Ljava/lang/Object;ILjava/lang/Object;II)V" } : Jvm.MethodName)) ∈ zTB := List.mem_filter.mpr ⟨List.mem_append_right _ (List.mem_append_right _ (List.mem_append_left _ (List.mem_of_getElem? (i := 18) (by decide +kernel)))), by decide +kernel⟩
theorem t_259 : (Jvm.Cond.native ({ cls := "java/lang/System", name := "arraycopy", desc := "(Ljava/lang/Object;ILjava/lang/Object;II)V" } : Jvm.MethodName)) ∈ zTB := List.mem_filter.mpr ⟨List.mem_append_right _ (List.mem_append_right _ (List.mem_append_left _ (List.mem_of_getElem? (i := 19) (by decide +kernel)))), by decide +kernel⟩
theorem t_260 : (Jvm.Cond.methodLink "java/util/ArrayList" (79 : Nat) ({ cls := "java/lang/Math", name := "max", desc := "(II)I" } : Jvm.MethodName)) ∈ zTB := List.mem_filter.mpr ⟨List.mem_append_right _ (List.mem_append_right _ (List.mem_append_left _ (List.mem_of_getElem? (i := 20) (by decide +kernel)))), by decide +kernel⟩
theorem t_261 : (Jvm.Cond.classLink "java/util/ArrayList" (7 : Nat) "java/lang/Object") ∈ zTB := List.mem_filter.mpr ⟨List.mem_append_right _ (List.mem_append_right _ (List.mem_append_left _ (List.mem_of_getElem? (i := 21) (by decide +kernel)))), by decide +kernel⟩
theorem t_262 : (Jvm.Cond.methodLink "AlertRowsLaw" (81 : Nat) ({ cls := "AlertRowsLaw", name := "next", desc := "(LAlertRows;II)I" } : Jvm.MethodName)) ∈ zTB := List.mem_filter.mpr ⟨List.mem_append_right _ (List.mem_append_right _ (List.mem_append_left _ (List.mem_of_getElem? (i := 22) (by decide +kernel)))), by decide +kernel⟩
theorem t_263 : (Jvm.Cond.static ({ cls := "AlertRowsLaw", name := "next", desc := "(LAlertRows;II)I" } : Jvm.MethodName)) ∈ zTB := List.mem_filter.mpr ⟨List.mem_append_right _ (List.mem_append_right _ (List.mem_append_left _ (List.mem_of_getElem? (i := 23) (by decide +kernel)))), by decide +kernel⟩
theorem t_264 : (Jvm.Cond.codeWith ({ cls := "AlertRowsLaw", name := "next", desc := "(LAlertRows;II)I" } : Jvm.MethodName) method_4_code (4 : Nat) (Option.some Jvm.ClassFile.FieldType.int) [((0 : Nat), (6 : Nat), (9 : Nat), (21 : Nat)), ((0 : Nat), (6 : Nat), (12 : Nat), (23 : Nat))]) ∈ zTB := List.mem_filter.mpr ⟨List.mem_append_right _ (List.mem_append_right _ (List.mem_append_left _ (List.mem_of_getElem? (i := 24) (by decide +kernel)))), by decide +kernel⟩
theorem t_265 : (Jvm.Cond.classLink "AlertRowsLaw" (21 : Nat) "java/lang/IllegalArgumentException") ∈ zTB := List.mem_filter.mpr ⟨List.mem_append_right _ (List.mem_append_right _ (List.mem_append_left _ (List.mem_of_getElem? (i := 25) (by decide +kernel)))), by decide +kernel⟩
theorem t_266 : (Jvm.Cond.classLink "AlertRowsLaw" (23 : Nat) "java/lang/IllegalStateException") ∈ zTB := List.mem_filter.mpr ⟨List.mem_append_right _ (List.mem_append_right _ (List.mem_append_left _ (List.mem_of_getElem? (i := 26) (by decide +kernel)))), by decide +kernel⟩
theorem t_267 : (Jvm.Cond.methodLink "AlertRowsLaw" (17 : Nat) ({ cls := "AlertRows", name := "next", desc := "(II)V" } : Jvm.MethodName)) ∈ zTB := List.mem_filter.mpr ⟨List.mem_append_right _ (List.mem_append_right _ (List.mem_append_left _ (List.mem_of_getElem? (i := 27) (by decide +kernel)))), by decide +kernel⟩
theorem t_268 : (Jvm.Cond.instanceMethod ({ cls := "AlertRows", name := "next", desc := "(II)V" } : Jvm.MethodName)) ∈ zTB := List.mem_filter.mpr ⟨List.mem_append_right _ (List.mem_append_right _ (List.mem_append_left _ (List.mem_of_getElem? (i := 28) (by decide +kernel)))), by decide +kernel⟩
theorem t_269 : (Jvm.Cond.selects "AlertRows" ({ cls := "AlertRows", name := "next", desc := "(II)V" } : Jvm.MethodName) ({ cls := "AlertRows", name := "next", desc := "(II)V" } : Jvm.MethodName)) ∈ zTB := List.mem_filter.mpr ⟨List.mem_append_right _ (List.mem_append_right _ (List.mem_append_left _ (List.mem_of_getElem? (i := 29) (by decide +kernel)))), by decide +kernel⟩
theorem t_270 : (Jvm.Cond.code ({ cls := "AlertRows", name := "next", desc := "(II)V" } : Jvm.MethodName) prog_1_method_3_code (4 : Nat) (Option.none : Option Jvm.ClassFile.FieldType)) ∈ zTB := List.mem_filter.mpr ⟨List.mem_append_right _ (List.mem_append_right _ (List.mem_append_left _ (List.mem_of_getElem? (i := 30) (by decide +kernel)))), by decide +kernel⟩
theorem t_271 : (Jvm.Cond.methodLink "AlertRows" (49 : Nat) ({ cls := "AlertRows", name := "groupOf", desc := "(I)LAlertRows$Group;" } : Jvm.MethodName)) ∈ zTB := List.mem_filter.mpr ⟨List.mem_append_right _ (List.mem_append_right _ (List.mem_append_left _ (List.mem_of_getElem? (i := 31) (by decide +kernel)))), by decide +kernel⟩
theorem t_273 : (Jvm.Cond.instanceMethod ({ cls := "AlertRows", name := "groupOf", desc := "(I)LAlertRows$Group;" } : Jvm.MethodName)) ∈ zTB := List.mem_filter.mpr ⟨List.mem_append_right _ (List.mem_append_right _ (List.mem_append_left _ (List.mem_of_getElem? (i := 33) (by decide +kernel)))), by decide +kernel⟩
theorem t_274 : (Jvm.Cond.code ({ cls := "AlertRows", name := "groupOf", desc := "(I)LAlertRows$Group;" } : Jvm.MethodName) prog_1_method_20_code (2 : Nat) (Option.some (Jvm.ClassFile.FieldType.object "AlertRows$Group"))) ∈ zTB := List.mem_filter.mpr ⟨List.mem_append_right _ (List.mem_append_right _ (List.mem_append_left _ (List.mem_of_getElem? (i := 34) (by decide +kernel)))), by decide +kernel⟩
theorem t_275 : (Jvm.Cond.methodLink "AlertRows" (53 : Nat) ({ cls := "AlertRows", name := "requireGroup", desc := "(I)V" } : Jvm.MethodName)) ∈ zTB := List.mem_filter.mpr ⟨List.mem_append_right _ (List.mem_append_right _ (List.mem_append_left _ (List.mem_of_getElem? (i := 35) (by decide +kernel)))), by decide +kernel⟩
theorem t_277 : (Jvm.Cond.instanceMethod ({ cls := "AlertRows", name := "requireGroup", desc := "(I)V" } : Jvm.MethodName)) ∈ zTB := List.mem_filter.mpr ⟨List.mem_append_right _ (List.mem_append_right _ (List.mem_append_left _ (List.mem_of_getElem? (i := 37) (by decide +kernel)))), by decide +kernel⟩
theorem t_278 : (Jvm.Cond.code ({ cls := "AlertRows", name := "requireGroup", desc := "(I)V" } : Jvm.MethodName) prog_1_method_16_code (2 : Nat) (Option.none : Option Jvm.ClassFile.FieldType)) ∈ zTB := List.mem_filter.mpr ⟨List.mem_append_right _ (List.mem_append_right _ (List.mem_append_left _ (List.mem_of_getElem? (i := 38) (by decide +kernel)))), by decide +kernel⟩
theorem t_279 : (Jvm.Cond.classLink "AlertRows" (173 : Nat) "java/lang/IllegalArgumentException") ∈ zTB := List.mem_filter.mpr ⟨List.mem_append_right _ (List.mem_append_right _ (List.mem_append_left _ (List.mem_of_getElem? (i := 39) (by decide +kernel)))), by decide +kernel⟩
theorem t_280 : (Jvm.Cond.instantiable "java/lang/IllegalArgumentException" (6 : Nat)) ∈ zTB := List.mem_filter.mpr ⟨List.mem_append_right _ (List.mem_append_right _ (List.mem_append_left _ (List.mem_of_getElem? (i := 40) (by decide +kernel)))), by decide +kernel⟩
theorem t_282 : (Jvm.Cond.selects "java/lang/IllegalArgumentException" ({ cls := "java/lang/Throwable", name := "fillInStackTrace", desc := "(I)Ljava/lang/Throwable;" } : Jvm.MethodName) ({ cls := "java/lang/Throwable", name := "fillInStackTrace", desc := "(I)Ljava/lang/Throwable;" } : Jvm.MethodName)) ∈ zTB := List.mem_filter.mpr ⟨List.mem_append_right _ (List.mem_append_right _ (List.mem_append_left _ (List.mem_of_getElem? (i := 42) (by decide +kernel)))), by decide +kernel⟩
theorem t_289 : (Jvm.Cond.methodLink "AlertRows" (177 : Nat) ({ cls := "java/lang/IllegalArgumentException", name := "<init>", desc := "(Ljava/lang/String;)V" } : Jvm.MethodName)) ∈ zTB := List.mem_filter.mpr ⟨List.mem_append_right _ (List.mem_append_right _ (List.mem_append_left _ (List.mem_of_getElem? (i := 49) (by decide +kernel)))), by decide +kernel⟩
theorem t_290 : (Jvm.Cond.instanceMethod ({ cls := "java/lang/IllegalArgumentException", name := "<init>", desc := "(Ljava/lang/String;)V" } : Jvm.MethodName)) ∈ zTB := List.mem_filter.mpr ⟨List.mem_append_right _ (List.mem_append_right _ (List.mem_append_left _ (List.mem_of_getElem? (i := 50) (by decide +kernel)))), by decide +kernel⟩
theorem t_291 : (Jvm.Cond.code ({ cls := "java/lang/IllegalArgumentException", name := "<init>", desc := "(Ljava/lang/String;)V" } : Jvm.MethodName) prog_11_method_2_code (2 : Nat) (Option.none : Option Jvm.ClassFile.FieldType)) ∈ zTB := List.mem_filter.mpr ⟨List.mem_append_right _ (List.mem_append_right _ (List.mem_append_left _ (List.mem_of_getElem? (i := 51) (by decide +kernel)))), by decide +kernel⟩
theorem t_292 : (Jvm.Cond.methodLink "java/lang/IllegalArgumentException" (7 : Nat) ({ cls := "java/lang/RuntimeException", name := "<init>", desc := "(Ljava/lang/String;)V" } : Jvm.MethodName)) ∈ zTB := List.mem_filter.mpr ⟨List.mem_append_right _ (List.mem_append_right _ (List.mem_append_left _ (List.mem_of_getElem? (i := 52) (by decide +kernel)))), by decide +kernel⟩
theorem t_295 : (Jvm.Cond.methodLink "AlertRows" (203 : Nat) ({ cls := "java/util/ArrayList", name := "get", desc := "(I)Ljava/lang/Object;" } : Jvm.MethodName)) ∈ zTB := List.mem_filter.mpr ⟨List.mem_append_right _ (List.mem_append_right _ (List.mem_append_left _ (List.mem_of_getElem? (i := 55) (by decide +kernel)))), by decide +kernel⟩
theorem t_296 : (Jvm.Cond.instanceMethod ({ cls := "java/util/ArrayList", name := "get", desc := "(I)Ljava/lang/Object;" } : Jvm.MethodName)) ∈ zTB := List.mem_filter.mpr ⟨List.mem_append_right _ (List.mem_append_right _ (List.mem_append_left _ (List.mem_of_getElem? (i := 56) (by decide +kernel)))), by decide +kernel⟩
theorem t_297 : (Jvm.Cond.selects "java/util/ArrayList" ({ cls := "java/util/ArrayList", name := "get", desc := "(I)Ljava/lang/Object;" } : Jvm.MethodName) ({ cls := "java/util/ArrayList", name := "get", desc := "(I)Ljava/lang/Object;" } : Jvm.MethodName)) ∈ zTB := List.mem_filter.mpr ⟨List.mem_append_right _ (List.mem_append_right _ (List.mem_append_left _ (List.mem_of_getElem? (i := 57) (by decide +kernel)))), by decide +kernel⟩
theorem t_298 : (Jvm.Cond.code ({ cls := "java/util/ArrayList", name := "get", desc := "(I)Ljava/lang/Object;" } : Jvm.MethodName) prog_23_method_20_code (2 : Nat) (Option.some (Jvm.ClassFile.FieldType.object "java/lang/Object"))) ∈ zTB := List.mem_filter.mpr ⟨List.mem_append_right _ (List.mem_append_right _ (List.mem_append_left _ (List.mem_of_getElem? (i := 58) (by decide +kernel)))), by decide +kernel⟩
theorem t_299 : (Jvm.Cond.methodLink "java/util/ArrayList" (118 : Nat) ({ cls := "java/util/Objects", name := "checkIndex", desc := "(II)I" } : Jvm.MethodName)) ∈ zTB := List.mem_filter.mpr ⟨List.mem_append_right _ (List.mem_append_right _ (List.mem_append_left _ (List.mem_of_getElem? (i := 59) (by decide +kernel)))), by decide +kernel⟩
theorem t_300 : (Jvm.Cond.static ({ cls := "java/util/Objects", name := "checkIndex", desc := "(II)I" } : Jvm.MethodName)) ∈ zTB := List.mem_filter.mpr ⟨List.mem_append_right _ (List.mem_append_right _ (List.mem_append_left _ (List.mem_of_getElem? (i := 60) (by decide +kernel)))), by decide +kernel⟩
theorem t_301 : (Jvm.Cond.code ({ cls := "java/util/Objects", name := "checkIndex", desc := "(II)I" } : Jvm.MethodName) prog_27_method_17_code (2 : Nat) (Option.some Jvm.ClassFile.FieldType.int)) ∈ zTB := List.mem_filter.mpr ⟨List.mem_append_right _ (List.mem_append_right _ (List.mem_append_left _ (List.mem_of_getElem? (i := 61) (by decide +kernel)))), by decide +kernel⟩
theorem t_302 : (Jvm.Cond.methodLink "java/util/Objects" (105 : Nat) ({ cls := "jdk/internal/util/Preconditions", name := "checkIndex", desc := "(IILjava/util/function/BiFunction;)I" } : Jvm.MethodName)) ∈ zTB := List.mem_filter.mpr ⟨List.mem_append_right _ (List.mem_append_right _ (List.mem_append_left _ (List.mem_of_getElem? (i := 62) (by decide +kernel)))), by decide +kernel⟩
theorem t_303 : (Jvm.Cond.static ({ cls := "jdk/internal/util/Preconditions", name := "checkIndex", desc := "(IILjava/util/function/BiFunction;)I" } : Jvm.MethodName)) ∈ zTB := List.mem_filter.mpr ⟨List.mem_append_right _ (List.mem_append_right _ (List.mem_append_left _ (List.mem_of_getElem? (i := 63) (by decide +kernel)))), by decide +kernel⟩
theorem t_304 : (Jvm.Cond.code ({ cls := "jdk/internal/util/Preconditions", name := "checkIndex", desc := "(IILjava/util/function/BiFunction;)I" } : Jvm.MethodName) prog_31_method_11_code (3 : Nat) (Option.some Jvm.ClassFile.FieldType.int)) ∈ zTB := List.mem_filter.mpr ⟨List.mem_append_right _ (List.mem_append_right _ (List.mem_append_left _ (List.mem_of_getElem? (i := 64) (by decide +kernel)))), by decide +kernel⟩
theorem t_305 : (Jvm.Cond.methodLink "java/util/ArrayList" (123 : Nat) ({ cls := "java/util/ArrayList", name := "elementData", desc := "(I)Ljava/lang/Object;" } : Jvm.MethodName)) ∈ zTB := List.mem_filter.mpr ⟨List.mem_append_right _ (List.mem_append_right _ (List.mem_append_left _ (List.mem_of_getElem? (i := 65) (by decide +kernel)))), by decide +kernel⟩
theorem t_306 : (Jvm.Cond.instanceMethod ({ cls := "java/util/ArrayList", name := "elementData", desc := "(I)Ljava/lang/Object;" } : Jvm.MethodName)) ∈ zTB := List.mem_filter.mpr ⟨List.mem_append_right _ (List.mem_append_right _ (List.mem_append_left _ (List.mem_of_getElem? (i := 66) (by decide +kernel)))), by decide +kernel⟩
theorem t_307 : (Jvm.Cond.selects "java/util/ArrayList" ({ cls := "java/util/ArrayList", name := "elementData", desc := "(I)Ljava/lang/Object;" } : Jvm.MethodName) ({ cls := "java/util/ArrayList", name := "elementData", desc := "(I)Ljava/lang/Object;" } : Jvm.MethodName)) ∈ zTB := List.mem_filter.mpr ⟨List.mem_append_right _ (List.mem_append_right _ (List.mem_append_left _ (List.mem_of_getElem? (i := 67) (by decide +kernel)))), by decide +kernel⟩
theorem t_308 : (Jvm.Cond.code ({ cls := "java/util/ArrayList", name := "elementData", desc := "(I)Ljava/lang/Object;" } : Jvm.MethodName) prog_23_method_18_code (2 : Nat) (Option.some (Jvm.ClassFile.FieldType.object "java/lang/Object"))) ∈ zTB := List.mem_filter.mpr ⟨List.mem_append_right _ (List.mem_append_right _ (List.mem_append_left _ (List.mem_of_getElem? (i := 68) (by decide +kernel)))), by decide +kernel⟩
theorem t_309 : (Jvm.Cond.classLink "AlertRows" (57 : Nat) "java/lang/IllegalStateException") ∈ zTB := List.mem_filter.mpr ⟨List.mem_append_right _ (List.mem_append_right _ (List.mem_append_left _ (List.mem_of_getElem? (i := 69) (by decide +kernel)))), by decide +kernel⟩
theorem t_310 : (Jvm.Cond.instantiable "java/lang/IllegalStateException" (6 : Nat)) ∈ zTB := List.mem_filter.mpr ⟨List.mem_append_right _ (List.mem_append_right _ (List.mem_append_left _ (List.mem_of_getElem? (i := 70) (by decide +kernel)))), by decide +kernel⟩
theorem t_312 : (Jvm.Cond.selects "java/lang/IllegalStateException" ({ cls := "java/lang/Throwable", name := "fillInStackTrace", desc := "(I)Ljava/lang/Throwable;" } : Jvm.MethodName) ({ cls := "java/lang/Throwable", name := "fillInStackTrace", desc := "(I)Ljava/lang/Throwable;" } : Jvm.MethodName)) ∈ zTB := List.mem_filter.mpr ⟨List.mem_append_right _ (List.mem_append_right _ (List.mem_append_left _ (List.mem_of_getElem? (i := 72) (by decide +kernel)))), by decide +kernel⟩
theorem t_319 : (Jvm.Cond.methodLink "AlertRows" (61 : Nat) ({ cls := "java/lang/IllegalStateException", name := "<init>", desc := "(Ljava/lang/String;)V" } : Jvm.MethodName)) ∈ zTB := List.mem_filter.mpr ⟨List.mem_append_right _ (List.mem_append_right _ (List.mem_append_left _ (List.mem_of_getElem? (i := 79) (by decide +kernel)))), by decide +kernel⟩
theorem t_320 : (Jvm.Cond.instanceMethod ({ cls := "java/lang/IllegalStateException", name := "<init>", desc := "(Ljava/lang/String;)V" } : Jvm.MethodName)) ∈ zTB := List.mem_filter.mpr ⟨List.mem_append_right _ (List.mem_append_right _ (List.mem_append_left _ (List.mem_of_getElem? (i := 80) (by decide +kernel)))), by decide +kernel⟩
theorem t_321 : (Jvm.Cond.code ({ cls := "java/lang/IllegalStateException", name := "<init>", desc := "(Ljava/lang/String;)V" } : Jvm.MethodName) prog_12_method_2_code (2 : Nat) (Option.none : Option Jvm.ClassFile.FieldType)) ∈ zTB := List.mem_filter.mpr ⟨List.mem_append_right _ (List.mem_append_right _ (List.mem_append_left _ (List.mem_of_getElem? (i := 81) (by decide +kernel)))), by decide +kernel⟩
theorem t_322 : (Jvm.Cond.methodLink "java/lang/IllegalStateException" (7 : Nat) ({ cls := "java/lang/RuntimeException", name := "<init>", desc := "(Ljava/lang/String;)V" } : Jvm.MethodName)) ∈ zTB := List.mem_filter.mpr ⟨List.mem_append_right _ (List.mem_append_right _ (List.mem_append_left _ (List.mem_of_getElem? (i := 82) (by decide +kernel)))), by decide +kernel⟩
theorem t_325 : (Jvm.Cond.methodLink "AlertRowsLaw" (85 : Nat) ({ cls := "AlertRowsLaw", name := "person", desc := "(LAlertRows;I[J)I" } : Jvm.MethodName)) ∈ zTB := List.mem_filter.mpr ⟨List.mem_append_right _ (List.mem_append_right _ (List.mem_append_left _ (List.mem_of_getElem? (i := 85) (by decide +kernel)))), by decide +kernel⟩
theorem t_326 : (Jvm.Cond.static ({ cls := "AlertRowsLaw", name := "person", desc := "(LAlertRows;I[J)I" } : Jvm.MethodName)) ∈ zTB := List.mem_filter.mpr ⟨List.mem_append_right _ (List.mem_append_right _ (List.mem_append_left _ (List.mem_of_getElem? (i := 86) (by decide +kernel)))), by decide +kernel⟩
theorem t_327 : (Jvm.Cond.codeWith ({ cls := "AlertRowsLaw", name := "person", desc := "(LAlertRows;I[J)I" } : Jvm.MethodName) method_5_code (4 : Nat) (Option.some Jvm.ClassFile.FieldType.int) [((0 : Nat), (9 : Nat), (12 : Nat), (21 : Nat)), ((0 : Nat), (9 : Nat), (15 : Nat), (15 : Nat))]) ∈ zTB := List.mem_filter.mpr ⟨List.mem_append_right _ (List.mem_append_right _ (List.mem_append_left _ (List.mem_of_getElem? (i := 87) (by decide +kernel)))), by decide +kernel⟩
theorem t_328 : (Jvm.Cond.methodLink "AlertRowsLaw" (25 : Nat) ({ cls := "AlertRows", name := "person", desc := "(I)I" } : Jvm.MethodName)) ∈ zTB := List.mem_filter.mpr ⟨List.mem_append_right _ (List.mem_append_right _ (List.mem_append_left _ (List.mem_of_getElem? (i := 88) (by decide +kernel)))), by decide +kernel⟩
theorem t_329 : (Jvm.Cond.instanceMethod ({ cls := "AlertRows", name := "person", desc := "(I)I" } : Jvm.MethodName)) ∈ zTB := List.mem_filter.mpr ⟨List.mem_append_right _ (List.mem_append_right _ (List.mem_append_left _ (List.mem_of_getElem? (i := 89) (by decide +kernel)))), by decide +kernel⟩
theorem t_330 : (Jvm.Cond.selects "AlertRows" ({ cls := "AlertRows", name := "person", desc := "(I)I" } : Jvm.MethodName) ({ cls := "AlertRows", name := "person", desc := "(I)I" } : Jvm.MethodName)) ∈ zTB := List.mem_filter.mpr ⟨List.mem_append_right _ (List.mem_append_right _ (List.mem_append_left _ (List.mem_of_getElem? (i := 90) (by decide +kernel)))), by decide +kernel⟩
theorem t_331 : (Jvm.Cond.code ({ cls := "AlertRows", name := "person", desc := "(I)I" } : Jvm.MethodName) prog_1_method_4_code (2 : Nat) (Option.some Jvm.ClassFile.FieldType.int)) ∈ zTB := List.mem_filter.mpr ⟨List.mem_append_right _ (List.mem_append_right _ (List.mem_append_left _ (List.mem_of_getElem? (i := 91) (by decide +kernel)))), by decide +kernel⟩
theorem t_333 : (Jvm.Cond.classLink "AlertRows" (68 : Nat) "AlertRows$Person") ∈ zTB := List.mem_filter.mpr ⟨List.mem_append_right _ (List.mem_append_right _ (List.mem_append_left _ (List.mem_of_getElem? (i := 93) (by decide +kernel)))), by decide +kernel⟩
theorem t_334 : (Jvm.Cond.instantiable "AlertRows$Person" (7 : Nat)) ∈ zTB := List.mem_filter.mpr ⟨List.mem_append_right _ (List.mem_append_right _ (List.mem_append_left _ (List.mem_of_getElem? (i := 94) (by decide +kernel)))), by decide +kernel⟩
theorem t_335 : (Jvm.Cond.methodLink "AlertRows" (70 : Nat) ({ cls := "AlertRows$Person", name := "<init>", desc := "(I)V" } : Jvm.MethodName)) ∈ zTB := List.mem_filter.mpr ⟨List.mem_append_right _ (List.mem_append_right _ (List.mem_append_left _ (List.mem_of_getElem? (i := 95) (by decide +kernel)))), by decide +kernel⟩
theorem t_336 : (Jvm.Cond.instanceMethod ({ cls := "AlertRows$Person", name := "<init>", desc := "(I)V" } : Jvm.MethodName)) ∈ zTB := List.mem_filter.mpr ⟨List.mem_append_right _ (List.mem_append_right _ (List.mem_append_left _ (List.mem_of_getElem? (i := 96) (by decide +kernel)))), by decide +kernel⟩
theorem t_337 : (Jvm.Cond.code ({ cls := "AlertRows$Person", name := "<init>", desc := "(I)V" } : Jvm.MethodName) prog_4_method_1_code (2 : Nat) (Option.none : Option Jvm.ClassFile.FieldType)) ∈ zTB := List.mem_filter.mpr ⟨List.mem_append_right _ (List.mem_append_right _ (List.mem_append_left _ (List.mem_of_getElem? (i := 97) (by decide +kernel)))), by decide +kernel⟩
theorem t_338 : (Jvm.Cond.methodLink "AlertRows$Person" (3 : Nat) ({ cls := "java/lang/Object", name := "<init>", desc := "()V" } : Jvm.MethodName)) ∈ zTB := List.mem_filter.mpr ⟨List.mem_append_right _ (List.mem_append_right _ (List.mem_append_left _ (List.mem_of_getElem? (i := 98) (by decide +kernel)))), by decide +kernel⟩
theorem t_339 : (Jvm.Cond.fieldLink "AlertRows$Person" (9 : Nat) "AlertRows$Person" "crew" "I") ∈ zTB := List.mem_filter.mpr ⟨List.mem_append_right _ (List.mem_append_right _ (List.mem_append_left _ (List.mem_of_getElem? (i := 99) (by decide +kernel)))), by decide +kernel⟩
theorem t_340 : (Jvm.Cond.fieldLink "AlertRows$Person" (15 : Nat) "AlertRows$Person" "kinds" "[I") ∈ zTB := List.mem_filter.mpr ⟨List.mem_append_right _ (List.mem_append_right _ (List.mem_append_left _ (List.mem_of_getElem? (i := 100) (by decide +kernel)))), by decide +kernel⟩
theorem t_341 : (Jvm.Cond.fieldLink "AlertRows$Person" (19 : Nat) "AlertRows$Person" "working" "[Z") ∈ zTB := List.mem_filter.mpr ⟨List.mem_append_right _ (List.mem_append_right _ (List.mem_append_left _ (List.mem_of_getElem? (i := 101) (by decide +kernel)))), by decide +kernel⟩
theorem t_342 : (Jvm.Cond.fieldLink "AlertRows$Person" (26 : Nat) "AlertRows$Person" "ways" "I") ∈ zTB := List.mem_filter.mpr ⟨List.mem_append_right _ (List.mem_append_right _ (List.mem_append_left _ (List.mem_of_getElem? (i := 102) (by decide +kernel)))), by decide +kernel⟩
theorem t_344 : (Jvm.Cond.fieldLink "AlertRows$Person" (23 : Nat) "AlertRows$Person" "state" "I") ∈ zTB := List.mem_filter.mpr ⟨List.mem_append_right _ (List.mem_append_right _ (List.mem_append_left _ (List.mem_of_getElem? (i := 104) (by decide +kernel)))), by decide +kernel⟩
theorem t_346 : (Jvm.Cond.fieldLink "AlertRows$Person" (29 : Nat) "AlertRows$Person" "closedAlarms" "I") ∈ zTB := List.mem_filter.mpr ⟨List.mem_append_right _ (List.mem_append_right _ (List.mem_append_left _ (List.mem_of_getElem? (i := 106) (by decide +kernel)))), by decide +kernel⟩
theorem t_347 : (Jvm.Cond.fieldLink "AlertRows$Person" (32 : Nat) "AlertRows$Person" "closedAnswers" "I") ∈ zTB := List.mem_filter.mpr ⟨List.mem_append_right _ (List.mem_append_right _ (List.mem_append_left _ (List.mem_of_getElem? (i := 107) (by decide +kernel)))), by decide +kernel⟩
theorem t_363 : (Jvm.Cond.arrayClass Jvm.ClassFile.FieldType.int) ∈ zTB := List.mem_filter.mpr ⟨List.mem_append_right _ (List.mem_append_right _ (List.mem_append_left _ (List.mem_of_getElem? (i := 123) (by decide +kernel)))), by decide +kernel⟩
theorem t_364 : (Jvm.Cond.arrayClass Jvm.ClassFile.FieldType.boolean) ∈ zTB := List.mem_filter.mpr ⟨List.mem_append_right _ (List.mem_append_right _ (List.mem_append_left _ (List.mem_of_getElem? (i := 124) (by decide +kernel)))), by decide +kernel⟩
theorem t_365 : (Jvm.Cond.methodLink "AlertRowsLaw" (89 : Nat) ({ cls := "AlertRowsLaw", name := "way", desc := "(LAlertRows;IIZ[J)I" } : Jvm.MethodName)) ∈ zTB := List.mem_filter.mpr ⟨List.mem_append_right _ (List.mem_append_right _ (List.mem_append_left _ (List.mem_of_getElem? (i := 125) (by decide +kernel)))), by decide +kernel⟩
theorem t_366 : (Jvm.Cond.static ({ cls := "AlertRowsLaw", name := "way", desc := "(LAlertRows;IIZ[J)I" } : Jvm.MethodName)) ∈ zTB := List.mem_filter.mpr ⟨List.mem_append_right _ (List.mem_append_right _ (List.mem_append_left _ (List.mem_of_getElem? (i := 126) (by decide +kernel)))), by decide +kernel⟩
theorem t_367 : (Jvm.Cond.codeWith ({ cls := "AlertRowsLaw", name := "way", desc := "(LAlertRows;IIZ[J)I" } : Jvm.MethodName) method_6_code (6 : Nat) (Option.some Jvm.ClassFile.FieldType.int) [((0 : Nat), (12 : Nat), (15 : Nat), (21 : Nat)), ((0 : Nat), (12 : Nat), (19 : Nat), (13 : Nat))]) ∈ zTB := List.mem_filter.mpr ⟨List.mem_append_right _ (List.mem_append_right _ (List.mem_append_left _ (List.mem_of_getElem? (i := 127) (by decide +kernel)))), by decide +kernel⟩
theorem t_368 : (Jvm.Cond.methodLink "AlertRowsLaw" (29 : Nat) ({ cls := "AlertRows", name := "way", desc := "(IIZ)I" } : Jvm.MethodName)) ∈ zTB := List.mem_filter.mpr ⟨List.mem_append_right _ (List.mem_append_right _ (List.mem_append_left _ (List.mem_of_getElem? (i := 128) (by decide +kernel)))), by decide +kernel⟩
theorem t_369 : (Jvm.Cond.instanceMethod ({ cls := "AlertRows", name := "way", desc := "(IIZ)I" } : Jvm.MethodName)) ∈ zTB := List.mem_filter.mpr ⟨List.mem_append_right _ (List.mem_append_right _ (List.mem_append_left _ (List.mem_of_getElem? (i := 129) (by decide +kernel)))), by decide +kernel⟩
theorem t_370 : (Jvm.Cond.selects "AlertRows" ({ cls := "AlertRows", name := "way", desc := "(IIZ)I" } : Jvm.MethodName) ({ cls := "AlertRows", name := "way", desc := "(IIZ)I" } : Jvm.MethodName)) ∈ zTB := List.mem_filter.mpr ⟨List.mem_append_right _ (List.mem_append_right _ (List.mem_append_left _ (List.mem_of_getElem? (i := 130) (by decide +kernel)))), by decide +kernel⟩
theorem t_371 : (Jvm.Cond.code ({ cls := "AlertRows", name := "way", desc := "(IIZ)I" } : Jvm.MethodName) prog_1_method_5_code (5 : Nat) (Option.some Jvm.ClassFile.FieldType.int)) ∈ zTB := List.mem_filter.mpr ⟨List.mem_append_right _ (List.mem_append_right _ (List.mem_append_left _ (List.mem_of_getElem? (i := 131) (by decide +kernel)))), by decide +kernel⟩
theorem t_372 : (Jvm.Cond.methodLink "AlertRows" (72 : Nat) ({ cls := "AlertRows", name := "personOf", desc := "(I)LAlertRows$Person;" } : Jvm.MethodName)) ∈ zTB := List.mem_filter.mpr ⟨List.mem_append_right _ (List.mem_append_right _ (List.mem_append_left _ (List.mem_of_getElem? (i := 132) (by decide +kernel)))), by decide +kernel⟩
theorem t_374 : (Jvm.Cond.instanceMethod ({ cls := "AlertRows", name := "personOf", desc := "(I)LAlertRows$Person;" } : Jvm.MethodName)) ∈ zTB := List.mem_filter.mpr ⟨List.mem_append_right _ (List.mem_append_right _ (List.mem_append_left _ (List.mem_of_getElem? (i := 134) (by decide +kernel)))), by decide +kernel⟩
theorem t_375 : (Jvm.Cond.code ({ cls := "AlertRows", name := "personOf", desc := "(I)LAlertRows$Person;" } : Jvm.MethodName) prog_1_method_21_code (2 : Nat) (Option.some (Jvm.ClassFile.FieldType.object "AlertRows$Person"))) ∈ zTB := List.mem_filter.mpr ⟨List.mem_append_right _ (List.mem_append_right _ (List.mem_append_left _ (List.mem_of_getElem? (i := 135) (by decide +kernel)))), by decide +kernel⟩
theorem t_376 : (Jvm.Cond.methodLink "AlertRows" (106 : Nat) ({ cls := "AlertRows", name := "requirePerson", desc := "(I)V" } : Jvm.MethodName)) ∈ zTB := List.mem_filter.mpr ⟨List.mem_append_right _ (List.mem_append_right _ (List.mem_append_left _ (List.mem_of_getElem? (i := 136) (by decide +kernel)))), by decide +kernel⟩
theorem t_378 : (Jvm.Cond.instanceMethod ({ cls := "AlertRows", name := "requirePerson", desc := "(I)V" } : Jvm.MethodName)) ∈ zTB := List.mem_filter.mpr ⟨List.mem_append_right _ (List.mem_append_right _ (List.mem_append_left _ (List.mem_of_getElem? (i := 138) (by decide +kernel)))), by decide +kernel⟩
theorem t_379 : (Jvm.Cond.code ({ cls := "AlertRows", name := "requirePerson", desc := "(I)V" } : Jvm.MethodName) prog_1_method_17_code (2 : Nat) (Option.none : Option Jvm.ClassFile.FieldType)) ∈ zTB := List.mem_filter.mpr ⟨List.mem_append_right _ (List.mem_append_right _ (List.mem_append_left _ (List.mem_of_getElem? (i := 139) (by decide +kernel)))), by decide +kernel⟩
theorem t_382 : (Jvm.Cond.methodLink "AlertRows" (78 : Nat) ({ cls := "AlertRows$Person", name := "setWay", desc := "(IZ)V" } : Jvm.MethodName)) ∈ zTB := List.mem_filter.mpr ⟨List.mem_append_right _ (List.mem_append_right _ (List.mem_append_left _ (List.mem_of_getElem? (i := 142) (by decide +kernel)))), by decide +kernel⟩
theorem t_383 : (Jvm.Cond.instanceMethod ({ cls := "AlertRows$Person", name := "setWay", desc := "(IZ)V" } : Jvm.MethodName)) ∈ zTB := List.mem_filter.mpr ⟨List.mem_append_right _ (List.mem_append_right _ (List.mem_append_left _ (List.mem_of_getElem? (i := 143) (by decide +kernel)))), by decide +kernel⟩
theorem t_384 : (Jvm.Cond.selects "AlertRows$Person" ({ cls := "AlertRows$Person", name := "setWay", desc := "(IZ)V" } : Jvm.MethodName) ({ cls := "AlertRows$Person", name := "setWay", desc := "(IZ)V" } : Jvm.MethodName)) ∈ zTB := List.mem_filter.mpr ⟨List.mem_append_right _ (List.mem_append_right _ (List.mem_append_left _ (List.mem_of_getElem? (i := 144) (by decide +kernel)))), by decide +kernel⟩
theorem t_385 : (Jvm.Cond.code ({ cls := "AlertRows$Person", name := "setWay", desc := "(IZ)V" } : Jvm.MethodName) prog_4_method_2_code (4 : Nat) (Option.none : Option Jvm.ClassFile.FieldType)) ∈ zTB := List.mem_filter.mpr ⟨List.mem_append_right _ (List.mem_append_right _ (List.mem_append_left _ (List.mem_of_getElem? (i := 145) (by decide +kernel)))), by decide +kernel⟩
theorem t_386 : (Jvm.Cond.methodLink "AlertRowsLaw" (93 : Nat) ({ cls := "AlertRowsLaw", name := "is", desc := "(LAlertRows;II)I" } : Jvm.MethodName)) ∈ zTB := List.mem_filter.mpr ⟨List.mem_append_right _ (List.mem_append_right _ (List.mem_append_left _ (List.mem_of_getElem? (i := 146) (by decide +kernel)))), by decide +kernel⟩
theorem t_387 : (Jvm.Cond.static ({ cls := "AlertRowsLaw", name := "is", desc := "(LAlertRows;II)I" } : Jvm.MethodName)) ∈ zTB := List.mem_filter.mpr ⟨List.mem_append_right _ (List.mem_append_right _ (List.mem_append_left _ (List.mem_of_getElem? (i := 147) (by decide +kernel)))), by decide +kernel⟩
theorem t_388 : (Jvm.Cond.codeWith ({ cls := "AlertRowsLaw", name := "is", desc := "(LAlertRows;II)I" } : Jvm.MethodName) method_7_code (4 : Nat) (Option.some Jvm.ClassFile.FieldType.int) [((0 : Nat), (6 : Nat), (9 : Nat), (21 : Nat)), ((0 : Nat), (6 : Nat), (12 : Nat), (13 : Nat))]) ∈ zTB := List.mem_filter.mpr ⟨List.mem_append_right _ (List.mem_append_right _ (List.mem_append_left _ (List.mem_of_getElem? (i := 148) (by decide +kernel)))), by decide +kernel⟩
theorem t_389 : (Jvm.Cond.methodLink "AlertRowsLaw" (33 : Nat) ({ cls := "AlertRows", name := "is", desc := "(II)V" } : Jvm.MethodName)) ∈ zTB := List.mem_filter.mpr ⟨List.mem_append_right _ (List.mem_append_right _ (List.mem_append_left _ (List.mem_of_getElem? (i := 149) (by decide +kernel)))), by decide +kernel⟩
theorem t_390 : (Jvm.Cond.instanceMethod ({ cls := "AlertRows", name := "is", desc := "(II)V" } : Jvm.MethodName)) ∈ zTB := List.mem_filter.mpr ⟨List.mem_append_right _ (List.mem_append_right _ (List.mem_append_left _ (List.mem_of_getElem? (i := 150) (by decide +kernel)))), by decide +kernel⟩
theorem t_391 : (Jvm.Cond.selects "AlertRows" ({ cls := "AlertRows", name := "is", desc := "(II)V" } : Jvm.MethodName) ({ cls := "AlertRows", name := "is", desc := "(II)V" } : Jvm.MethodName)) ∈ zTB := List.mem_filter.mpr ⟨List.mem_append_right _ (List.mem_append_right _ (List.mem_append_left _ (List.mem_of_getElem? (i := 151) (by decide +kernel)))), by decide +kernel⟩
theorem t_392 : (Jvm.Cond.code ({ cls := "AlertRows", name := "is", desc := "(II)V" } : Jvm.MethodName) prog_1_method_6_code (4 : Nat) (Option.none : Option Jvm.ClassFile.FieldType)) ∈ zTB := List.mem_filter.mpr ⟨List.mem_append_right _ (List.mem_append_right _ (List.mem_append_left _ (List.mem_of_getElem? (i := 152) (by decide +kernel)))), by decide +kernel⟩
theorem t_394 : (Jvm.Cond.methodLink "AlertRowsLaw" (96 : Nat) ({ cls := "AlertRowsLaw", name := "alarm", desc := "(LAlertRows;IZ[J)I" } : Jvm.MethodName)) ∈ zTB := List.mem_filter.mpr ⟨List.mem_append_right _ (List.mem_append_right _ (List.mem_append_left _ (List.mem_of_getElem? (i := 154) (by decide +kernel)))), by decide +kernel⟩
theorem t_395 : (Jvm.Cond.static ({ cls := "AlertRowsLaw", name := "alarm", desc := "(LAlertRows;IZ[J)I" } : Jvm.MethodName)) ∈ zTB := List.mem_filter.mpr ⟨List.mem_append_right _ (List.mem_append_right _ (List.mem_append_left _ (List.mem_of_getElem? (i := 155) (by decide +kernel)))), by decide +kernel⟩
theorem t_396 : (Jvm.Cond.codeWith ({ cls := "AlertRowsLaw", name := "alarm", desc := "(LAlertRows;IZ[J)I" } : Jvm.MethodName) method_8_code (5 : Nat) (Option.some Jvm.ClassFile.FieldType.int) [((0 : Nat), (10 : Nat), (13 : Nat), (21 : Nat)), ((0 : Nat), (10 : Nat), (17 : Nat), (23 : Nat)), ((0 : Nat), (10 : Nat), (21 : Nat), (15 : Nat))]) ∈ zTB := List.mem_filter.mpr ⟨List.mem_append_right _ (List.mem_append_right _ (List.mem_append_left _ (List.mem_of_getElem? (i := 156) (by decide +kernel)))), by decide +kernel⟩
theorem t_397 : (Jvm.Cond.methodLink "AlertRowsLaw" (36 : Nat) ({ cls := "AlertRows", name := "alarm", desc := "(IZ)I" } : Jvm.MethodName)) ∈ zTB := List.mem_filter.mpr ⟨List.mem_append_right _ (List.mem_append_right _ (List.mem_append_left _ (List.mem_of_getElem? (i := 157) (by decide +kernel)))), by decide +kernel⟩
theorem t_398 : (Jvm.Cond.instanceMethod ({ cls := "AlertRows", name := "alarm", desc := "(IZ)I" } : Jvm.MethodName)) ∈ zTB := List.mem_filter.mpr ⟨List.mem_append_right _ (List.mem_append_right _ (List.mem_append_left _ (List.mem_of_getElem? (i := 158) (by decide +kernel)))), by decide +kernel⟩
theorem t_399 : (Jvm.Cond.selects "AlertRows" ({ cls := "AlertRows", name := "alarm", desc := "(IZ)I" } : Jvm.MethodName) ({ cls := "AlertRows", name := "alarm", desc := "(IZ)I" } : Jvm.MethodName)) ∈ zTB := List.mem_filter.mpr ⟨List.mem_append_right _ (List.mem_append_right _ (List.mem_append_left _ (List.mem_of_getElem? (i := 159) (by decide +kernel)))), by decide +kernel⟩
theorem t_400 : (Jvm.Cond.code ({ cls := "AlertRows", name := "alarm", desc := "(IZ)I" } : Jvm.MethodName) prog_1_method_7_code (3 : Nat) (Option.some Jvm.ClassFile.FieldType.int)) ∈ zTB := List.mem_filter.mpr ⟨List.mem_append_right _ (List.mem_append_right _ (List.mem_append_left _ (List.mem_of_getElem? (i := 160) (by decide +kernel)))), by decide +kernel⟩
theorem t_401 : (Jvm.Cond.methodLink "AlertRows" (90 : Nat) ({ cls := "AlertRows", name := "wouldAskSomebody", desc := "(IZ)Z" } : Jvm.MethodName)) ∈ zTB := List.mem_filter.mpr ⟨List.mem_append_right _ (List.mem_append_right _ (List.mem_append_left _ (List.mem_of_getElem? (i := 161) (by decide +kernel)))), by decide +kernel⟩
theorem t_403 : (Jvm.Cond.instanceMethod ({ cls := "AlertRows", name := "wouldAskSomebody", desc := "(IZ)Z" } : Jvm.MethodName)) ∈ zTB := List.mem_filter.mpr ⟨List.mem_append_right _ (List.mem_append_right _ (List.mem_append_left _ (List.mem_of_getElem? (i := 163) (by decide +kernel)))), by decide +kernel⟩
theorem t_404 : (Jvm.Cond.code ({ cls := "AlertRows", name := "wouldAskSomebody", desc := "(IZ)Z" } : Jvm.MethodName) prog_1_method_23_code (4 : Nat) (Option.some Jvm.ClassFile.FieldType.boolean)) ∈ zTB := List.mem_filter.mpr ⟨List.mem_append_right _ (List.mem_append_right _ (List.mem_append_left _ (List.mem_of_getElem? (i := 164) (by decide +kernel)))), by decide +kernel⟩
theorem t_405 : (Jvm.Cond.methodLink "AlertRows" (227 : Nat) ({ cls := "AlertRows$Person", name := "wouldBeAsked", desc := "(IZ)Z" } : Jvm.MethodName)) ∈ zTB := List.mem_filter.mpr ⟨List.mem_append_right _ (List.mem_append_right _ (List.mem_append_left _ (List.mem_of_getElem? (i := 165) (by decide +kernel)))), by decide +kernel⟩
theorem t_406 : (Jvm.Cond.instanceMethod ({ cls := "AlertRows$Person", name := "wouldBeAsked", desc := "(IZ)Z" } : Jvm.MethodName)) ∈ zTB := List.mem_filter.mpr ⟨List.mem_append_right _ (List.mem_append_right _ (List.mem_append_left _ (List.mem_of_getElem? (i := 166) (by decide +kernel)))), by decide +kernel⟩
theorem t_407 : (Jvm.Cond.selects "AlertRows$Person" ({ cls := "AlertRows$Person", name := "wouldBeAsked", desc := "(IZ)Z" } : Jvm.MethodName) ({ cls := "AlertRows$Person", name := "wouldBeAsked", desc := "(IZ)Z" } : Jvm.MethodName)) ∈ zTB := List.mem_filter.mpr ⟨List.mem_append_right _ (List.mem_append_right _ (List.mem_append_left _ (List.mem_of_getElem? (i := 167) (by decide +kernel)))), by decide +kernel⟩
theorem t_408 : (Jvm.Cond.code ({ cls := "AlertRows$Person", name := "wouldBeAsked", desc := "(IZ)Z" } : Jvm.MethodName) prog_4_method_3_code (3 : Nat) (Option.some Jvm.ClassFile.FieldType.boolean)) ∈ zTB := List.mem_filter.mpr ⟨List.mem_append_right _ (List.mem_append_right _ (List.mem_append_left _ (List.mem_of_getElem? (i := 168) (by decide +kernel)))), by decide +kernel⟩
theorem t_411 : (Jvm.Cond.methodLink "AlertRows" (98 : Nat) ({ cls := "AlertRows", name := "raise", desc := "(IZI)V" } : Jvm.MethodName)) ∈ zTB := List.mem_filter.mpr ⟨List.mem_append_right _ (List.mem_append_right _ (List.mem_append_left _ (List.mem_of_getElem? (i := 171) (by decide +kernel)))), by decide +kernel⟩
theorem t_413 : (Jvm.Cond.instanceMethod ({ cls := "AlertRows", name := "raise", desc := "(IZI)V" } : Jvm.MethodName)) ∈ zTB := List.mem_filter.mpr ⟨List.mem_append_right _ (List.mem_append_right _ (List.mem_append_left _ (List.mem_of_getElem? (i := 173) (by decide +kernel)))), by decide +kernel⟩
theorem t_414 : (Jvm.Cond.code ({ cls := "AlertRows", name := "raise", desc := "(IZI)V" } : Jvm.MethodName) prog_1_method_24_code (7 : Nat) (Option.none : Option Jvm.ClassFile.FieldType)) ∈ zTB := List.mem_filter.mpr ⟨List.mem_append_right _ (List.mem_append_right _ (List.mem_append_left _ (List.mem_of_getElem? (i := 174) (by decide +kernel)))), by decide +kernel⟩
theorem t_415 : (Jvm.Cond.classLink "AlertRows" (112 : Nat) "AlertRows$Alarm") ∈ zTB := List.mem_filter.mpr ⟨List.mem_append_right _ (List.mem_append_right _ (List.mem_append_left _ (List.mem_of_getElem? (i := 175) (by decide +kernel)))), by decide +kernel⟩
theorem t_416 : (Jvm.Cond.instantiable "AlertRows$Alarm" (8 : Nat)) ∈ zTB := List.mem_filter.mpr ⟨List.mem_append_right _ (List.mem_append_right _ (List.mem_append_left _ (List.mem_of_getElem? (i := 176) (by decide +kernel)))), by decide +kernel⟩
theorem t_417 : (Jvm.Cond.methodLink "AlertRows" (233 : Nat) ({ cls := "AlertRows$Alarm", name := "<init>", desc := "(IZIII)V" } : Jvm.MethodName)) ∈ zTB := List.mem_filter.mpr ⟨List.mem_append_right _ (List.mem_append_right _ (List.mem_append_left _ (List.mem_of_getElem? (i := 177) (by decide +kernel)))), by decide +kernel⟩
theorem t_418 : (Jvm.Cond.instanceMethod ({ cls := "AlertRows$Alarm", name := "<init>", desc := "(IZIII)V" } : Jvm.MethodName)) ∈ zTB := List.mem_filter.mpr ⟨List.mem_append_right _ (List.mem_append_right _ (List.mem_append_left _ (List.mem_of_getElem? (i := 178) (by decide +kernel)))), by decide +kernel⟩
theorem t_419 : (Jvm.Cond.code ({ cls := "AlertRows$Alarm", name := "<init>", desc := "(IZIII)V" } : Jvm.MethodName) prog_2_method_1_code (6 : Nat) (Option.none : Option Jvm.ClassFile.FieldType)) ∈ zTB := List.mem_filter.mpr ⟨List.mem_append_right _ (List.mem_append_right _ (List.mem_append_left _ (List.mem_of_getElem? (i := 179) (by decide +kernel)))), by decide +kernel⟩
theorem t_420 : (Jvm.Cond.methodLink "AlertRows$Alarm" (3 : Nat) ({ cls := "java/lang/Object", name := "<init>", desc := "()V" } : Jvm.MethodName)) ∈ zTB := List.mem_filter.mpr ⟨List.mem_append_right _ (List.mem_append_right _ (List.mem_append_left _ (List.mem_of_getElem? (i := 180) (by decide +kernel)))), by decide +kernel⟩
theorem t_421 : (Jvm.Cond.methodLink "AlertRows$Alarm" (38 : Nat) ({ cls := "java/util/Arrays", name := "fill", desc := "([II)V" } : Jvm.MethodName)) ∈ zTB := List.mem_filter.mpr ⟨List.mem_append_right _ (List.mem_append_right _ (List.mem_append_left _ (List.mem_of_getElem? (i := 181) (by decide +kernel)))), by decide +kernel⟩
theorem t_422 : (Jvm.Cond.static ({ cls := "java/util/Arrays", name := "fill", desc := "([II)V" } : Jvm.MethodName)) ∈ zTB := List.mem_filter.mpr ⟨List.mem_append_right _ (List.mem_append_right _ (List.mem_append_left _ (List.mem_of_getElem? (i := 182) (by decide +kernel)))), by decide +kernel⟩
theorem t_423 : (Jvm.Cond.code ({ cls := "java/util/Arrays", name := "fill", desc := "([II)V" } : Jvm.MethodName) prog_24_method_103_code (4 : Nat) (Option.none : Option Jvm.ClassFile.FieldType)) ∈ zTB := List.mem_filter.mpr ⟨List.mem_append_right _ (List.mem_append_right _ (List.mem_append_left _ (List.mem_of_getElem? (i := 183) (by decide +kernel)))), by decide +kernel⟩
theorem t_424 : (Jvm.Cond.fieldLink "AlertRows$Alarm" (9 : Nat) "AlertRows$Alarm" "crew" "I") ∈ zTB := List.mem_filter.mpr ⟨List.mem_append_right _ (List.mem_append_right _ (List.mem_append_left _ (List.mem_of_getElem? (i := 184) (by decide +kernel)))), by decide +kernel⟩
theorem t_426 : (Jvm.Cond.fieldLink "AlertRows$Alarm" (15 : Nat) "AlertRows$Alarm" "test" "Z") ∈ zTB := List.mem_filter.mpr ⟨List.mem_append_right _ (List.mem_append_right _ (List.mem_append_left _ (List.mem_of_getElem? (i := 186) (by decide +kernel)))), by decide +kernel⟩
theorem t_428 : (Jvm.Cond.fieldLink "AlertRows$Alarm" (19 : Nat) "AlertRows$Alarm" "begin" "I") ∈ zTB := List.mem_filter.mpr ⟨List.mem_append_right _ (List.mem_append_right _ (List.mem_append_left _ (List.mem_of_getElem? (i := 188) (by decide +kernel)))), by decide +kernel⟩
theorem t_430 : (Jvm.Cond.fieldLink "AlertRows$Alarm" (22 : Nat) "AlertRows$Alarm" "end" "I") ∈ zTB := List.mem_filter.mpr ⟨List.mem_append_right _ (List.mem_append_right _ (List.mem_append_left _ (List.mem_of_getElem? (i := 190) (by decide +kernel)))), by decide +kernel⟩
theorem t_432 : (Jvm.Cond.fieldLink "AlertRows$Alarm" (25 : Nat) "AlertRows$Alarm" "raiser" "I") ∈ zTB := List.mem_filter.mpr ⟨List.mem_append_right _ (List.mem_append_right _ (List.mem_append_left _ (List.mem_of_getElem? (i := 192) (by decide +kernel)))), by decide +kernel⟩
theorem t_434 : (Jvm.Cond.fieldLink "AlertRows$Alarm" (31 : Nat) "AlertRows$Alarm" "reach" "[I") ∈ zTB := List.mem_filter.mpr ⟨List.mem_append_right _ (List.mem_append_right _ (List.mem_append_left _ (List.mem_of_getElem? (i := 194) (by decide +kernel)))), by decide +kernel⟩
theorem t_435 : (Jvm.Cond.fieldLink "AlertRows$Alarm" (35 : Nat) "AlertRows$Alarm" "said" "[I") ∈ zTB := List.mem_filter.mpr ⟨List.mem_append_right _ (List.mem_append_right _ (List.mem_append_left _ (List.mem_of_getElem? (i := 195) (by decide +kernel)))), by decide +kernel⟩
theorem t_436 : (Jvm.Cond.fieldLink "AlertRows$Alarm" (28 : Nat) "AlertRows$Alarm" "state" "I") ∈ zTB := List.mem_filter.mpr ⟨List.mem_append_right _ (List.mem_append_right _ (List.mem_append_left _ (List.mem_of_getElem? (i := 196) (by decide +kernel)))), by decide +kernel⟩
theorem t_455 : (Jvm.Cond.methodLink "AlertRows" (236 : Nat) ({ cls := "AlertRows$Person", name := "reachNow", desc := "()I" } : Jvm.MethodName)) ∈ zTB := List.mem_filter.mpr ⟨List.mem_append_right _ (List.mem_append_right _ (List.mem_append_left _ (List.mem_of_getElem? (i := 215) (by decide +kernel)))), by decide +kernel⟩
theorem t_456 : (Jvm.Cond.instanceMethod ({ cls := "AlertRows$Person", name := "reachNow", desc := "()I" } : Jvm.MethodName)) ∈ zTB := List.mem_filter.mpr ⟨List.mem_append_right _ (List.mem_append_right _ (List.mem_append_left _ (List.mem_of_getElem? (i := 216) (by decide +kernel)))), by decide +kernel⟩
theorem t_457 : (Jvm.Cond.selects "AlertRows$Person" ({ cls := "AlertRows$Person", name := "reachNow", desc := "()I" } : Jvm.MethodName) ({ cls := "AlertRows$Person", name := "reachNow", desc := "()I" } : Jvm.MethodName)) ∈ zTB := List.mem_filter.mpr ⟨List.mem_append_right _ (List.mem_append_right _ (List.mem_append_left _ (List.mem_of_getElem? (i := 217) (by decide +kernel)))), by decide +kernel⟩
theorem t_458 : (Jvm.Cond.code ({ cls := "AlertRows$Person", name := "reachNow", desc := "()I" } : Jvm.MethodName) prog_4_method_4_code (2 : Nat) (Option.some Jvm.ClassFile.FieldType.int)) ∈ zTB := List.mem_filter.mpr ⟨List.mem_append_right _ (List.mem_append_right _ (List.mem_append_left _ (List.mem_of_getElem? (i := 218) (by decide +kernel)))), by decide +kernel⟩
theorem t_459 : (Jvm.Cond.methodLink "AlertRows" (239 : Nat) ({ cls := "AlertRows$Alarm", name := "ask", desc := "(II)V" } : Jvm.MethodName)) ∈ zTB := List.mem_filter.mpr ⟨List.mem_append_right _ (List.mem_append_right _ (List.mem_append_left _ (List.mem_of_getElem? (i := 219) (by decide +kernel)))), by decide +kernel⟩
theorem t_460 : (Jvm.Cond.instanceMethod ({ cls := "AlertRows$Alarm", name := "ask", desc := "(II)V" } : Jvm.MethodName)) ∈ zTB := List.mem_filter.mpr ⟨List.mem_append_right _ (List.mem_append_right _ (List.mem_append_left _ (List.mem_of_getElem? (i := 220) (by decide +kernel)))), by decide +kernel⟩
theorem t_461 : (Jvm.Cond.selects "AlertRows$Alarm" ({ cls := "AlertRows$Alarm", name := "ask", desc := "(II)V" } : Jvm.MethodName) ({ cls := "AlertRows$Alarm", name := "ask", desc := "(II)V" } : Jvm.MethodName)) ∈ zTB := List.mem_filter.mpr ⟨List.mem_append_right _ (List.mem_append_right _ (List.mem_append_left _ (List.mem_of_getElem? (i := 221) (by decide +kernel)))), by decide +kernel⟩
theorem t_462 : (Jvm.Cond.code ({ cls := "AlertRows$Alarm", name := "ask", desc := "(II)V" } : Jvm.MethodName) prog_2_method_2_code (3 : Nat) (Option.none : Option Jvm.ClassFile.FieldType)) ∈ zTB := List.mem_filter.mpr ⟨List.mem_append_right _ (List.mem_append_right _ (List.mem_append_left _ (List.mem_of_getElem? (i := 222) (by decide +kernel)))), by decide +kernel⟩
theorem t_463 : (Jvm.Cond.methodLink "AlertRowsLaw" (100 : Nat) ({ cls := "AlertRowsLaw", name := "answer", desc := "(LAlertRows;III[J)I" } : Jvm.MethodName)) ∈ zTB := List.mem_filter.mpr ⟨List.mem_append_right _ (List.mem_append_right _ (List.mem_append_left _ (List.mem_of_getElem? (i := 223) (by decide +kernel)))), by decide +kernel⟩
theorem t_464 : (Jvm.Cond.static ({ cls := "AlertRowsLaw", name := "answer", desc := "(LAlertRows;III[J)I" } : Jvm.MethodName)) ∈ zTB := List.mem_filter.mpr ⟨List.mem_append_right _ (List.mem_append_right _ (List.mem_append_left _ (List.mem_of_getElem? (i := 224) (by decide +kernel)))), by decide +kernel⟩
theorem t_465 : (Jvm.Cond.codeWith ({ cls := "AlertRowsLaw", name := "answer", desc := "(LAlertRows;III[J)I" } : Jvm.MethodName) method_9_code (6 : Nat) (Option.some Jvm.ClassFile.FieldType.int) [((0 : Nat), (12 : Nat), (15 : Nat), (21 : Nat)), ((0 : Nat), (12 : Nat), (19 : Nat), (13 : Nat)), ((0 : Nat), (12 : Nat), (23 : Nat), (23 : Nat))]) ∈ zTB := List.mem_filter.mpr ⟨List.mem_append_right _ (List.mem_append_right _ (List.mem_append_left _ (List.mem_of_getElem? (i := 225) (by decide +kernel)))), by decide +kernel⟩
theorem t_466 : (Jvm.Cond.methodLink "AlertRowsLaw" (40 : Nat) ({ cls := "AlertRows", name := "answer", desc := "(III)I" } : Jvm.MethodName)) ∈ zTB := List.mem_filter.mpr ⟨List.mem_append_right _ (List.mem_append_right _ (List.mem_append_left _ (List.mem_of_getElem? (i := 226) (by decide +kernel)))), by decide +kernel⟩
theorem t_467 : (Jvm.Cond.instanceMethod ({ cls := "AlertRows", name := "answer", desc := "(III)I" } : Jvm.MethodName)) ∈ zTB := List.mem_filter.mpr ⟨List.mem_append_right _ (List.mem_append_right _ (List.mem_append_left _ (List.mem_of_getElem? (i := 227) (by decide +kernel)))), by decide +kernel⟩
theorem t_468 : (Jvm.Cond.selects "AlertRows" ({ cls := "AlertRows", name := "answer", desc := "(III)I" } : Jvm.MethodName) ({ cls := "AlertRows", name := "answer", desc := "(III)I" } : Jvm.MethodName)) ∈ zTB := List.mem_filter.mpr ⟨List.mem_append_right _ (List.mem_append_right _ (List.mem_append_left _ (List.mem_of_getElem? (i := 228) (by decide +kernel)))), by decide +kernel⟩
theorem t_469 : (Jvm.Cond.code ({ cls := "AlertRows", name := "answer", desc := "(III)I" } : Jvm.MethodName) prog_1_method_8_code (5 : Nat) (Option.some Jvm.ClassFile.FieldType.int)) ∈ zTB := List.mem_filter.mpr ⟨List.mem_append_right _ (List.mem_append_right _ (List.mem_append_left _ (List.mem_of_getElem? (i := 229) (by decide +kernel)))), by decide +kernel⟩
theorem t_470 : (Jvm.Cond.methodLink "AlertRows" (102 : Nat) ({ cls := "AlertRows", name := "alarmOf", desc := "(I)LAlertRows$Alarm;" } : Jvm.MethodName)) ∈ zTB := List.mem_filter.mpr ⟨List.mem_append_right _ (List.mem_append_right _ (List.mem_append_left _ (List.mem_of_getElem? (i := 230) (by decide +kernel)))), by decide +kernel⟩
theorem t_472 : (Jvm.Cond.instanceMethod ({ cls := "AlertRows", name := "alarmOf", desc := "(I)LAlertRows$Alarm;" } : Jvm.MethodName)) ∈ zTB := List.mem_filter.mpr ⟨List.mem_append_right _ (List.mem_append_right _ (List.mem_append_left _ (List.mem_of_getElem? (i := 232) (by decide +kernel)))), by decide +kernel⟩
theorem t_473 : (Jvm.Cond.code ({ cls := "AlertRows", name := "alarmOf", desc := "(I)LAlertRows$Alarm;" } : Jvm.MethodName) prog_1_method_22_code (2 : Nat) (Option.some (Jvm.ClassFile.FieldType.object "AlertRows$Alarm"))) ∈ zTB := List.mem_filter.mpr ⟨List.mem_append_right _ (List.mem_append_right _ (List.mem_append_left _ (List.mem_of_getElem? (i := 233) (by decide +kernel)))), by decide +kernel⟩
theorem t_474 : (Jvm.Cond.methodLink "AlertRows" (224 : Nat) ({ cls := "AlertRows", name := "requireAlarm", desc := "(I)V" } : Jvm.MethodName)) ∈ zTB := List.mem_filter.mpr ⟨List.mem_append_right _ (List.mem_append_right _ (List.mem_append_left _ (List.mem_of_getElem? (i := 234) (by decide +kernel)))), by decide +kernel⟩
theorem t_476 : (Jvm.Cond.instanceMethod ({ cls := "AlertRows", name := "requireAlarm", desc := "(I)V" } : Jvm.MethodName)) ∈ zTB := List.mem_filter.mpr ⟨List.mem_append_right _ (List.mem_append_right _ (List.mem_append_left _ (List.mem_of_getElem? (i := 236) (by decide +kernel)))), by decide +kernel⟩
theorem t_477 : (Jvm.Cond.code ({ cls := "AlertRows", name := "requireAlarm", desc := "(I)V" } : Jvm.MethodName) prog_1_method_18_code (2 : Nat) (Option.none : Option Jvm.ClassFile.FieldType)) ∈ zTB := List.mem_filter.mpr ⟨List.mem_append_right _ (List.mem_append_right _ (List.mem_append_left _ (List.mem_of_getElem? (i := 237) (by decide +kernel)))), by decide +kernel⟩
theorem t_480 : (Jvm.Cond.methodLink "AlertRows" (111 : Nat) ({ cls := "AlertRows$Alarm", name := "hasReached", desc := "(I)Z" } : Jvm.MethodName)) ∈ zTB := List.mem_filter.mpr ⟨List.mem_append_right _ (List.mem_append_right _ (List.mem_append_right _ (List.mem_append_left _ (List.mem_of_getElem? (i := 0) (by decide +kernel))))), by decide +kernel⟩
theorem t_481 : (Jvm.Cond.instanceMethod ({ cls := "AlertRows$Alarm", name := "hasReached", desc := "(I)Z" } : Jvm.MethodName)) ∈ zTB := List.mem_filter.mpr ⟨List.mem_append_right _ (List.mem_append_right _ (List.mem_append_right _ (List.mem_append_left _ (List.mem_of_getElem? (i := 1) (by decide +kernel))))), by decide +kernel⟩
theorem t_482 : (Jvm.Cond.selects "AlertRows$Alarm" ({ cls := "AlertRows$Alarm", name := "hasReached", desc := "(I)Z" } : Jvm.MethodName) ({ cls := "AlertRows$Alarm", name := "hasReached", desc := "(I)Z" } : Jvm.MethodName)) ∈ zTB := List.mem_filter.mpr ⟨List.mem_append_right _ (List.mem_append_right _ (List.mem_append_right _ (List.mem_append_left _ (List.mem_of_getElem? (i := 2) (by decide +kernel))))), by decide +kernel⟩
theorem t_483 : (Jvm.Cond.code ({ cls := "AlertRows$Alarm", name := "hasReached", desc := "(I)Z" } : Jvm.MethodName) prog_2_method_6_code (2 : Nat) (Option.some Jvm.ClassFile.FieldType.boolean)) ∈ zTB := List.mem_filter.mpr ⟨List.mem_append_right _ (List.mem_append_right _ (List.mem_append_right _ (List.mem_append_left _ (List.mem_of_getElem? (i := 3) (by decide +kernel))))), by decide +kernel⟩
theorem t_484 : (Jvm.Cond.methodLink "AlertRows$Alarm" (44 : Nat) ({ cls := "AlertRows$Alarm", name := "reachOf", desc := "(I)I" } : Jvm.MethodName)) ∈ zTB := List.mem_filter.mpr ⟨List.mem_append_right _ (List.mem_append_right _ (List.mem_append_right _ (List.mem_append_left _ (List.mem_of_getElem? (i := 4) (by decide +kernel))))), by decide +kernel⟩
theorem t_485 : (Jvm.Cond.instanceMethod ({ cls := "AlertRows$Alarm", name := "reachOf", desc := "(I)I" } : Jvm.MethodName)) ∈ zTB := List.mem_filter.mpr ⟨List.mem_append_right _ (List.mem_append_right _ (List.mem_append_right _ (List.mem_append_left _ (List.mem_of_getElem? (i := 5) (by decide +kernel))))), by decide +kernel⟩
theorem t_486 : (Jvm.Cond.selects "AlertRows$Alarm" ({ cls := "AlertRows$Alarm", name := "reachOf", desc := "(I)I" } : Jvm.MethodName) ({ cls := "AlertRows$Alarm", name := "reachOf", desc := "(I)I" } : Jvm.MethodName)) ∈ zTB := List.mem_filter.mpr ⟨List.mem_append_right _ (List.mem_append_right _ (List.mem_append_right _ (List.mem_append_left _ (List.mem_of_getElem? (i := 6) (by decide +kernel))))), by decide +kernel⟩
theorem t_487 : (Jvm.Cond.code ({ cls := "AlertRows$Alarm", name := "reachOf", desc := "(I)I" } : Jvm.MethodName) prog_2_method_4_code (2 : Nat) (Option.some Jvm.ClassFile.FieldType.int)) ∈ zTB := List.mem_filter.mpr ⟨List.mem_append_right _ (List.mem_append_right _ (List.mem_append_right _ (List.mem_append_left _ (List.mem_of_getElem? (i := 7) (by decide +kernel))))), by decide +kernel⟩
theorem t_489 : (Jvm.Cond.methodLink "AlertRows" (122 : Nat) ({ cls := "AlertRows$Alarm", name := "hasReachedBy", desc := "(II)Z" } : Jvm.MethodName)) ∈ zTB := List.mem_filter.mpr ⟨List.mem_append_right _ (List.mem_append_right _ (List.mem_append_right _ (List.mem_append_left _ (List.mem_of_getElem? (i := 9) (by decide +kernel))))), by decide +kernel⟩
theorem t_490 : (Jvm.Cond.instanceMethod ({ cls := "AlertRows$Alarm", name := "hasReachedBy", desc := "(II)Z" } : Jvm.MethodName)) ∈ zTB := List.mem_filter.mpr ⟨List.mem_append_right _ (List.mem_append_right _ (List.mem_append_right _ (List.mem_append_left _ (List.mem_of_getElem? (i := 10) (by decide +kernel))))), by decide +kernel⟩
theorem t_491 : (Jvm.Cond.selects "AlertRows$Alarm" ({ cls := "AlertRows$Alarm", name := "hasReachedBy", desc := "(II)Z" } : Jvm.MethodName) ({ cls := "AlertRows$Alarm", name := "hasReachedBy", desc := "(II)Z" } : Jvm.MethodName)) ∈ zTB := List.mem_filter.mpr ⟨List.mem_append_right _ (List.mem_append_right _ (List.mem_append_right _ (List.mem_append_left _ (List.mem_of_getElem? (i := 11) (by decide +kernel))))), by decide +kernel⟩
theorem t_492 : (Jvm.Cond.code ({ cls := "AlertRows$Alarm", name := "hasReachedBy", desc := "(II)Z" } : Jvm.MethodName) prog_2_method_7_code (3 : Nat) (Option.some Jvm.ClassFile.FieldType.boolean)) ∈ zTB := List.mem_filter.mpr ⟨List.mem_append_right _ (List.mem_append_right _ (List.mem_append_right _ (List.mem_append_left _ (List.mem_of_getElem? (i := 12) (by decide +kernel))))), by decide +kernel⟩
theorem t_493 : (Jvm.Cond.methodLink "AlertRows$Alarm" (48 : Nat) ({ cls := "AlertRows$Alarm", name := "hasReached", desc := "(I)Z" } : Jvm.MethodName)) ∈ zTB := List.mem_filter.mpr ⟨List.mem_append_right _ (List.mem_append_right _ (List.mem_append_right _ (List.mem_append_left _ (List.mem_of_getElem? (i := 13) (by decide +kernel))))), by decide +kernel⟩
theorem t_494 : (Jvm.Cond.methodLink "AlertRows" (130 : Nat) ({ cls := "AlertRows$Alarm", name := "note", desc := "(II)V" } : Jvm.MethodName)) ∈ zTB := List.mem_filter.mpr ⟨List.mem_append_right _ (List.mem_append_right _ (List.mem_append_right _ (List.mem_append_left _ (List.mem_of_getElem? (i := 14) (by decide +kernel))))), by decide +kernel⟩
theorem t_495 : (Jvm.Cond.instanceMethod ({ cls := "AlertRows$Alarm", name := "note", desc := "(II)V" } : Jvm.MethodName)) ∈ zTB := List.mem_filter.mpr ⟨List.mem_append_right _ (List.mem_append_right _ (List.mem_append_right _ (List.mem_append_left _ (List.mem_of_getElem? (i := 15) (by decide +kernel))))), by decide +kernel⟩
theorem t_496 : (Jvm.Cond.selects "AlertRows$Alarm" ({ cls := "AlertRows$Alarm", name := "note", desc := "(II)V" } : Jvm.MethodName) ({ cls := "AlertRows$Alarm", name := "note", desc := "(II)V" } : Jvm.MethodName)) ∈ zTB := List.mem_filter.mpr ⟨List.mem_append_right _ (List.mem_append_right _ (List.mem_append_right _ (List.mem_append_left _ (List.mem_of_getElem? (i := 16) (by decide +kernel))))), by decide +kernel⟩
theorem t_497 : (Jvm.Cond.code ({ cls := "AlertRows$Alarm", name := "note", desc := "(II)V" } : Jvm.MethodName) prog_2_method_3_code (3 : Nat) (Option.none : Option Jvm.ClassFile.FieldType)) ∈ zTB := List.mem_filter.mpr ⟨List.mem_append_right _ (List.mem_append_right _ (List.mem_append_right _ (List.mem_append_left _ (List.mem_of_getElem? (i := 17) (by decide +kernel))))), by decide +kernel⟩
theorem t_498 : (Jvm.Cond.methodLink "AlertRows" (136 : Nat) ({ cls := "AlertRows", name := "noteLate", desc := "(II)I" } : Jvm.MethodName)) ∈ zTB := List.mem_filter.mpr ⟨List.mem_append_right _ (List.mem_append_right _ (List.mem_append_right _ (List.mem_append_left _ (List.mem_of_getElem? (i := 18) (by decide +kernel))))), by decide +kernel⟩
theorem t_500 : (Jvm.Cond.instanceMethod ({ cls := "AlertRows", name := "noteLate", desc := "(II)I" } : Jvm.MethodName)) ∈ zTB := List.mem_filter.mpr ⟨List.mem_append_right _ (List.mem_append_right _ (List.mem_append_right _ (List.mem_append_left _ (List.mem_of_getElem? (i := 20) (by decide +kernel))))), by decide +kernel⟩
theorem t_501 : (Jvm.Cond.code ({ cls := "AlertRows", name := "noteLate", desc := "(II)I" } : Jvm.MethodName) prog_1_method_25_code (5 : Nat) (Option.some Jvm.ClassFile.FieldType.int)) ∈ zTB := List.mem_filter.mpr ⟨List.mem_append_right _ (List.mem_append_right _ (List.mem_append_right _ (List.mem_append_left _ (List.mem_of_getElem? (i := 21) (by decide +kernel))))), by decide +kernel⟩
theorem t_502 : (Jvm.Cond.methodLink "AlertRows" (242 : Nat) ({ cls := "AlertRows$Alarm", name := "hasAsked", desc := "(I)Z" } : Jvm.MethodName)) ∈ zTB := List.mem_filter.mpr ⟨List.mem_append_right _ (List.mem_append_right _ (List.mem_append_right _ (List.mem_append_left _ (List.mem_of_getElem? (i := 22) (by decide +kernel))))), by decide +kernel⟩
theorem t_503 : (Jvm.Cond.instanceMethod ({ cls := "AlertRows$Alarm", name := "hasAsked", desc := "(I)Z" } : Jvm.MethodName)) ∈ zTB := List.mem_filter.mpr ⟨List.mem_append_right _ (List.mem_append_right _ (List.mem_append_right _ (List.mem_append_left _ (List.mem_of_getElem? (i := 23) (by decide +kernel))))), by decide +kernel⟩
theorem t_504 : (Jvm.Cond.selects "AlertRows$Alarm" ({ cls := "AlertRows$Alarm", name := "hasAsked", desc := "(I)Z" } : Jvm.MethodName) ({ cls := "AlertRows$Alarm", name := "hasAsked", desc := "(I)Z" } : Jvm.MethodName)) ∈ zTB := List.mem_filter.mpr ⟨List.mem_append_right _ (List.mem_append_right _ (List.mem_append_right _ (List.mem_append_left _ (List.mem_of_getElem? (i := 24) (by decide +kernel))))), by decide +kernel⟩
theorem t_505 : (Jvm.Cond.code ({ cls := "AlertRows$Alarm", name := "hasAsked", desc := "(I)Z" } : Jvm.MethodName) prog_2_method_5_code (2 : Nat) (Option.some Jvm.ClassFile.FieldType.boolean)) ∈ zTB := List.mem_filter.mpr ⟨List.mem_append_right _ (List.mem_append_right _ (List.mem_append_right _ (List.mem_append_left _ (List.mem_of_getElem? (i := 25) (by decide +kernel))))), by decide +kernel⟩
theorem t_506 : (Jvm.Cond.methodLink "AlertRowsLaw" (104 : Nat) ({ cls := "AlertRowsLaw", name := "tick", desc := "(LAlertRows;I[J)I" } : Jvm.MethodName)) ∈ zTB := List.mem_filter.mpr ⟨List.mem_append_right _ (List.mem_append_right _ (List.mem_append_right _ (List.mem_append_left _ (List.mem_of_getElem? (i := 26) (by decide +kernel))))), by decide +kernel⟩
theorem t_507 : (Jvm.Cond.static ({ cls := "AlertRowsLaw", name := "tick", desc := "(LAlertRows;I[J)I" } : Jvm.MethodName)) ∈ zTB := List.mem_filter.mpr ⟨List.mem_append_right _ (List.mem_append_right _ (List.mem_append_right _ (List.mem_append_left _ (List.mem_of_getElem? (i := 27) (by decide +kernel))))), by decide +kernel⟩
theorem t_508 : (Jvm.Cond.codeWith ({ cls := "AlertRowsLaw", name := "tick", desc := "(LAlertRows;I[J)I" } : Jvm.MethodName) method_10_code (4 : Nat) (Option.some Jvm.ClassFile.FieldType.int) [((0 : Nat), (9 : Nat), (12 : Nat), (13 : Nat))]) ∈ zTB := List.mem_filter.mpr ⟨List.mem_append_right _ (List.mem_append_right _ (List.mem_append_right _ (List.mem_append_left _ (List.mem_of_getElem? (i := 28) (by decide +kernel))))), by decide +kernel⟩
theorem t_509 : (Jvm.Cond.methodLink "AlertRowsLaw" (44 : Nat) ({ cls := "AlertRows", name := "tick", desc := "(I)I" } : Jvm.MethodName)) ∈ zTB := List.mem_filter.mpr ⟨List.mem_append_right _ (List.mem_append_right _ (List.mem_append_right _ (List.mem_append_left _ (List.mem_of_getElem? (i := 29) (by decide +kernel))))), by decide +kernel⟩
theorem t_510 : (Jvm.Cond.instanceMethod ({ cls := "AlertRows", name := "tick", desc := "(I)I" } : Jvm.MethodName)) ∈ zTB := List.mem_filter.mpr ⟨List.mem_append_right _ (List.mem_append_right _ (List.mem_append_right _ (List.mem_append_left _ (List.mem_of_getElem? (i := 30) (by decide +kernel))))), by decide +kernel⟩
theorem t_511 : (Jvm.Cond.selects "AlertRows" ({ cls := "AlertRows", name := "tick", desc := "(I)I" } : Jvm.MethodName) ({ cls := "AlertRows", name := "tick", desc := "(I)I" } : Jvm.MethodName)) ∈ zTB := List.mem_filter.mpr ⟨List.mem_append_right _ (List.mem_append_right _ (List.mem_append_right _ (List.mem_append_left _ (List.mem_of_getElem? (i := 31) (by decide +kernel))))), by decide +kernel⟩
theorem t_512 : (Jvm.Cond.code ({ cls := "AlertRows", name := "tick", desc := "(I)I" } : Jvm.MethodName) prog_1_method_9_code (6 : Nat) (Option.some Jvm.ClassFile.FieldType.int)) ∈ zTB := List.mem_filter.mpr ⟨List.mem_append_right _ (List.mem_append_right _ (List.mem_append_right _ (List.mem_append_left _ (List.mem_of_getElem? (i := 32) (by decide +kernel))))), by decide +kernel⟩
theorem t_514 : (Jvm.Cond.constant "AlertRows" (142 : Nat) (999999 : Int32)) ∈ zTB := List.mem_filter.mpr ⟨List.mem_append_right _ (List.mem_append_right _ (List.mem_append_right _ (List.mem_append_left _ (List.mem_of_getElem? (i := 34) (by decide +kernel))))), by decide +kernel⟩
theorem t_516 : (Jvm.Cond.methodLink "AlertRows" (148 : Nat) ({ cls := "AlertRows", name := "firstDue", desc := "(I)I" } : Jvm.MethodName)) ∈ zTB := List.mem_filter.mpr ⟨List.mem_append_right _ (List.mem_append_right _ (List.mem_append_right _ (List.mem_append_left _ (List.mem_of_getElem? (i := 36) (by decide +kernel))))), by decide +kernel⟩
theorem t_518 : (Jvm.Cond.instanceMethod ({ cls := "AlertRows", name := "firstDue", desc := "(I)I" } : Jvm.MethodName)) ∈ zTB := List.mem_filter.mpr ⟨List.mem_append_right _ (List.mem_append_right _ (List.mem_append_right _ (List.mem_append_left _ (List.mem_of_getElem? (i := 38) (by decide +kernel))))), by decide +kernel⟩
theorem t_519 : (Jvm.Cond.code ({ cls := "AlertRows", name := "firstDue", desc := "(I)I" } : Jvm.MethodName) prog_1_method_26_code (6 : Nat) (Option.some Jvm.ClassFile.FieldType.int)) ∈ zTB := List.mem_filter.mpr ⟨List.mem_append_right _ (List.mem_append_right _ (List.mem_append_right _ (List.mem_append_left _ (List.mem_of_getElem? (i := 39) (by decide +kernel))))), by decide +kernel⟩
theorem t_520 : (Jvm.Cond.methodLink "AlertRows" (152 : Nat) ({ cls := "AlertRows", name := "closeAlarm", desc := "(I)V" } : Jvm.MethodName)) ∈ zTB := List.mem_filter.mpr ⟨List.mem_append_right _ (List.mem_append_right _ (List.mem_append_right _ (List.mem_append_left _ (List.mem_of_getElem? (i := 40) (by decide +kernel))))), by decide +kernel⟩
theorem t_522 : (Jvm.Cond.instanceMethod ({ cls := "AlertRows", name := "closeAlarm", desc := "(I)V" } : Jvm.MethodName)) ∈ zTB := List.mem_filter.mpr ⟨List.mem_append_right _ (List.mem_append_right _ (List.mem_append_right _ (List.mem_append_left _ (List.mem_of_getElem? (i := 42) (by decide +kernel))))), by decide +kernel⟩
theorem t_523 : (Jvm.Cond.code ({ cls := "AlertRows", name := "closeAlarm", desc := "(I)V" } : Jvm.MethodName) prog_1_method_27_code (4 : Nat) (Option.none : Option Jvm.ClassFile.FieldType)) ∈ zTB := List.mem_filter.mpr ⟨List.mem_append_right _ (List.mem_append_right _ (List.mem_append_right _ (List.mem_append_left _ (List.mem_of_getElem? (i := 43) (by decide +kernel))))), by decide +kernel⟩
theorem t_524 : (Jvm.Cond.methodLink "AlertRows" (164 : Nat) ({ cls := "AlertRows$Alarm", name := "comingPersons", desc := "()I" } : Jvm.MethodName)) ∈ zTB := List.mem_filter.mpr ⟨List.mem_append_right _ (List.mem_append_right _ (List.mem_append_right _ (List.mem_append_left _ (List.mem_of_getElem? (i := 44) (by decide +kernel))))), by decide +kernel⟩
theorem t_525 : (Jvm.Cond.instanceMethod ({ cls := "AlertRows$Alarm", name := "comingPersons", desc := "()I" } : Jvm.MethodName)) ∈ zTB := List.mem_filter.mpr ⟨List.mem_append_right _ (List.mem_append_right _ (List.mem_append_right _ (List.mem_append_left _ (List.mem_of_getElem? (i := 45) (by decide +kernel))))), by decide +kernel⟩
theorem t_526 : (Jvm.Cond.selects "AlertRows$Alarm" ({ cls := "AlertRows$Alarm", name := "comingPersons", desc := "()I" } : Jvm.MethodName) ({ cls := "AlertRows$Alarm", name := "comingPersons", desc := "()I" } : Jvm.MethodName)) ∈ zTB := List.mem_filter.mpr ⟨List.mem_append_right _ (List.mem_append_right _ (List.mem_append_right _ (List.mem_append_left _ (List.mem_of_getElem? (i := 46) (by decide +kernel))))), by decide +kernel⟩
theorem t_527 : (Jvm.Cond.code ({ cls := "AlertRows$Alarm", name := "comingPersons", desc := "()I" } : Jvm.MethodName) prog_2_method_12_code (1 : Nat) (Option.some Jvm.ClassFile.FieldType.int)) ∈ zTB := List.mem_filter.mpr ⟨List.mem_append_right _ (List.mem_append_right _ (List.mem_append_right _ (List.mem_append_left _ (List.mem_of_getElem? (i := 47) (by decide +kernel))))), by decide +kernel⟩
theorem t_528 : (Jvm.Cond.methodLink "AlertRows$Alarm" (52 : Nat) ({ cls := "AlertRows$Alarm", name := "countFrom", desc := "([II)I" } : Jvm.MethodName)) ∈ zTB := List.mem_filter.mpr ⟨List.mem_append_right _ (List.mem_append_right _ (List.mem_append_right _ (List.mem_append_left _ (List.mem_of_getElem? (i := 48) (by decide +kernel))))), by decide +kernel⟩
theorem t_529 : (Jvm.Cond.static ({ cls := "AlertRows$Alarm", name := "countFrom", desc := "([II)I" } : Jvm.MethodName)) ∈ zTB := List.mem_filter.mpr ⟨List.mem_append_right _ (List.mem_append_right _ (List.mem_append_right _ (List.mem_append_left _ (List.mem_of_getElem? (i := 49) (by decide +kernel))))), by decide +kernel⟩
theorem t_530 : (Jvm.Cond.code ({ cls := "AlertRows$Alarm", name := "countFrom", desc := "([II)I" } : Jvm.MethodName) prog_2_method_15_code (7 : Nat) (Option.some Jvm.ClassFile.FieldType.int)) ∈ zTB := List.mem_filter.mpr ⟨List.mem_append_right _ (List.mem_append_right _ (List.mem_append_right _ (List.mem_append_left _ (List.mem_of_getElem? (i := 50) (by decide +kernel))))), by decide +kernel⟩
theorem t_531 : (Jvm.Cond.methodLink "AlertRows" (254 : Nat) ({ cls := "AlertRows", name := "addUp", desc := "(LAlertRows$Alarm;LAlertRows$Group;)V" } : Jvm.MethodName)) ∈ zTB := List.mem_filter.mpr ⟨List.mem_append_right _ (List.mem_append_right _ (List.mem_append_right _ (List.mem_append_left _ (List.mem_of_getElem? (i := 51) (by decide +kernel))))), by decide +kernel⟩
theorem t_533 : (Jvm.Cond.instanceMethod ({ cls := "AlertRows", name := "addUp", desc := "(LAlertRows$Alarm;LAlertRows$Group;)V" } : Jvm.MethodName)) ∈ zTB := List.mem_filter.mpr ⟨List.mem_append_right _ (List.mem_append_right _ (List.mem_append_right _ (List.mem_append_left _ (List.mem_of_getElem? (i := 53) (by decide +kernel))))), by decide +kernel⟩
theorem t_534 : (Jvm.Cond.code ({ cls := "AlertRows", name := "addUp", desc := "(LAlertRows$Alarm;LAlertRows$Group;)V" } : Jvm.MethodName) prog_1_method_28_code (4 : Nat) (Option.none : Option Jvm.ClassFile.FieldType)) ∈ zTB := List.mem_filter.mpr ⟨List.mem_append_right _ (List.mem_append_right _ (List.mem_append_right _ (List.mem_append_left _ (List.mem_of_getElem? (i := 54) (by decide +kernel))))), by decide +kernel⟩
theorem t_535 : (Jvm.Cond.methodLink "AlertRows" (155 : Nat) ({ cls := "AlertRows$Alarm", name := "askedPersons", desc := "()I" } : Jvm.MethodName)) ∈ zTB := List.mem_filter.mpr ⟨List.mem_append_right _ (List.mem_append_right _ (List.mem_append_right _ (List.mem_append_left _ (List.mem_of_getElem? (i := 55) (by decide +kernel))))), by decide +kernel⟩
theorem t_536 : (Jvm.Cond.instanceMethod ({ cls := "AlertRows$Alarm", name := "askedPersons", desc := "()I" } : Jvm.MethodName)) ∈ zTB := List.mem_filter.mpr ⟨List.mem_append_right _ (List.mem_append_right _ (List.mem_append_right _ (List.mem_append_left _ (List.mem_of_getElem? (i := 56) (by decide +kernel))))), by decide +kernel⟩
theorem t_537 : (Jvm.Cond.selects "AlertRows$Alarm" ({ cls := "AlertRows$Alarm", name := "askedPersons", desc := "()I" } : Jvm.MethodName) ({ cls := "AlertRows$Alarm", name := "askedPersons", desc := "()I" } : Jvm.MethodName)) ∈ zTB := List.mem_filter.mpr ⟨List.mem_append_right _ (List.mem_append_right _ (List.mem_append_right _ (List.mem_append_left _ (List.mem_of_getElem? (i := 57) (by decide +kernel))))), by decide +kernel⟩
theorem t_538 : (Jvm.Cond.code ({ cls := "AlertRows$Alarm", name := "askedPersons", desc := "()I" } : Jvm.MethodName) prog_2_method_9_code (1 : Nat) (Option.some Jvm.ClassFile.FieldType.int)) ∈ zTB := List.mem_filter.mpr ⟨List.mem_append_right _ (List.mem_append_right _ (List.mem_append_right _ (List.mem_append_left _ (List.mem_of_getElem? (i := 58) (by decide +kernel))))), by decide +kernel⟩
theorem t_539 : (Jvm.Cond.methodLink "AlertRows" (161 : Nat) ({ cls := "AlertRows$Alarm", name := "answeredPersons", desc := "()I" } : Jvm.MethodName)) ∈ zTB := List.mem_filter.mpr ⟨List.mem_append_right _ (List.mem_append_right _ (List.mem_append_right _ (List.mem_append_left _ (List.mem_of_getElem? (i := 59) (by decide +kernel))))), by decide +kernel⟩
theorem t_540 : (Jvm.Cond.instanceMethod ({ cls := "AlertRows$Alarm", name := "answeredPersons", desc := "()I" } : Jvm.MethodName)) ∈ zTB := List.mem_filter.mpr ⟨List.mem_append_right _ (List.mem_append_right _ (List.mem_append_right _ (List.mem_append_left _ (List.mem_of_getElem? (i := 60) (by decide +kernel))))), by decide +kernel⟩
theorem t_541 : (Jvm.Cond.selects "AlertRows$Alarm" ({ cls := "AlertRows$Alarm", name := "answeredPersons", desc := "()I" } : Jvm.MethodName) ({ cls := "AlertRows$Alarm", name := "answeredPersons", desc := "()I" } : Jvm.MethodName)) ∈ zTB := List.mem_filter.mpr ⟨List.mem_append_right _ (List.mem_append_right _ (List.mem_append_right _ (List.mem_append_left _ (List.mem_of_getElem? (i := 61) (by decide +kernel))))), by decide +kernel⟩
theorem t_542 : (Jvm.Cond.code ({ cls := "AlertRows$Alarm", name := "answeredPersons", desc := "()I" } : Jvm.MethodName) prog_2_method_11_code (1 : Nat) (Option.some Jvm.ClassFile.FieldType.int)) ∈ zTB := List.mem_filter.mpr ⟨List.mem_append_right _ (List.mem_append_right _ (List.mem_append_right _ (List.mem_append_left _ (List.mem_of_getElem? (i := 62) (by decide +kernel))))), by decide +kernel⟩
theorem t_543 : (Jvm.Cond.methodLink "AlertRows" (265 : Nat) ({ cls := "AlertRows$Alarm", name := "hasAnswer", desc := "(I)Z" } : Jvm.MethodName)) ∈ zTB := List.mem_filter.mpr ⟨List.mem_append_right _ (List.mem_append_right _ (List.mem_append_right _ (List.mem_append_left _ (List.mem_of_getElem? (i := 63) (by decide +kernel))))), by decide +kernel⟩
theorem t_544 : (Jvm.Cond.instanceMethod ({ cls := "AlertRows$Alarm", name := "hasAnswer", desc := "(I)Z" } : Jvm.MethodName)) ∈ zTB := List.mem_filter.mpr ⟨List.mem_append_right _ (List.mem_append_right _ (List.mem_append_right _ (List.mem_append_left _ (List.mem_of_getElem? (i := 64) (by decide +kernel))))), by decide +kernel⟩
theorem t_545 : (Jvm.Cond.selects "AlertRows$Alarm" ({ cls := "AlertRows$Alarm", name := "hasAnswer", desc := "(I)Z" } : Jvm.MethodName) ({ cls := "AlertRows$Alarm", name := "hasAnswer", desc := "(I)Z" } : Jvm.MethodName)) ∈ zTB := List.mem_filter.mpr ⟨List.mem_append_right _ (List.mem_append_right _ (List.mem_append_right _ (List.mem_append_left _ (List.mem_of_getElem? (i := 65) (by decide +kernel))))), by decide +kernel⟩
theorem t_546 : (Jvm.Cond.code ({ cls := "AlertRows$Alarm", name := "hasAnswer", desc := "(I)Z" } : Jvm.MethodName) prog_2_method_8_code (2 : Nat) (Option.some Jvm.ClassFile.FieldType.boolean)) ∈ zTB := List.mem_filter.mpr ⟨List.mem_append_right _ (List.mem_append_right _ (List.mem_append_right _ (List.mem_append_left _ (List.mem_of_getElem? (i := 66) (by decide +kernel))))), by decide +kernel⟩
theorem t_547 : (Jvm.Cond.methodLink "AlertRows" (268 : Nat) ({ cls := "AlertRows$Person", name := "addClosed", desc := "(Z)V" } : Jvm.MethodName)) ∈ zTB := List.mem_filter.mpr ⟨List.mem_append_right _ (List.mem_append_right _ (List.mem_append_right _ (List.mem_append_left _ (List.mem_of_getElem? (i := 67) (by decide +kernel))))), by decide +kernel⟩
theorem t_548 : (Jvm.Cond.instanceMethod ({ cls := "AlertRows$Person", name := "addClosed", desc := "(Z)V" } : Jvm.MethodName)) ∈ zTB := List.mem_filter.mpr ⟨List.mem_append_right _ (List.mem_append_right _ (List.mem_append_right _ (List.mem_append_left _ (List.mem_of_getElem? (i := 68) (by decide +kernel))))), by decide +kernel⟩
theorem t_549 : (Jvm.Cond.selects "AlertRows$Person" ({ cls := "AlertRows$Person", name := "addClosed", desc := "(Z)V" } : Jvm.MethodName) ({ cls := "AlertRows$Person", name := "addClosed", desc := "(Z)V" } : Jvm.MethodName)) ∈ zTB := List.mem_filter.mpr ⟨List.mem_append_right _ (List.mem_append_right _ (List.mem_append_right _ (List.mem_append_left _ (List.mem_of_getElem? (i := 69) (by decide +kernel))))), by decide +kernel⟩
theorem t_550 : (Jvm.Cond.code ({ cls := "AlertRows$Person", name := "addClosed", desc := "(Z)V" } : Jvm.MethodName) prog_4_method_5_code (2 : Nat) (Option.none : Option Jvm.ClassFile.FieldType)) ∈ zTB := List.mem_filter.mpr ⟨List.mem_append_right _ (List.mem_append_right _ (List.mem_append_right _ (List.mem_append_left _ (List.mem_of_getElem? (i := 70) (by decide +kernel))))), by decide +kernel⟩
theorem t_551 : (Jvm.Cond.methodLink "AlertRows" (262 : Nat) ({ cls := "AlertRows", name := "raiseSecond", desc := "(II)V" } : Jvm.MethodName)) ∈ zTB := List.mem_filter.mpr ⟨List.mem_append_right _ (List.mem_append_right _ (List.mem_append_right _ (List.mem_append_left _ (List.mem_of_getElem? (i := 71) (by decide +kernel))))), by decide +kernel⟩
theorem t_553 : (Jvm.Cond.instanceMethod ({ cls := "AlertRows", name := "raiseSecond", desc := "(II)V" } : Jvm.MethodName)) ∈ zTB := List.mem_filter.mpr ⟨List.mem_append_right _ (List.mem_append_right _ (List.mem_append_right _ (List.mem_append_left _ (List.mem_of_getElem? (i := 73) (by decide +kernel))))), by decide +kernel⟩
theorem t_554 : (Jvm.Cond.code ({ cls := "AlertRows", name := "raiseSecond", desc := "(II)V" } : Jvm.MethodName) prog_1_method_29_code (3 : Nat) (Option.none : Option Jvm.ClassFile.FieldType)) ∈ zTB := List.mem_filter.mpr ⟨List.mem_append_right _ (List.mem_append_right _ (List.mem_append_right _ (List.mem_append_left _ (List.mem_of_getElem? (i := 74) (by decide +kernel))))), by decide +kernel⟩
theorem t_555 : (Jvm.Cond.methodLink "AlertRowsLaw" (107 : Nat) ({ cls := "AlertRowsLaw", name := "alarmAt", desc := "(LAlertRows;II[J)I" } : Jvm.MethodName)) ∈ zTB := List.mem_filter.mpr ⟨List.mem_append_right _ (List.mem_append_right _ (List.mem_append_right _ (List.mem_append_left _ (List.mem_of_getElem? (i := 75) (by decide +kernel))))), by decide +kernel⟩
theorem t_556 : (Jvm.Cond.static ({ cls := "AlertRowsLaw", name := "alarmAt", desc := "(LAlertRows;II[J)I" } : Jvm.MethodName)) ∈ zTB := List.mem_filter.mpr ⟨List.mem_append_right _ (List.mem_append_right _ (List.mem_append_right _ (List.mem_append_left _ (List.mem_of_getElem? (i := 76) (by decide +kernel))))), by decide +kernel⟩
theorem t_557 : (Jvm.Cond.codeWith ({ cls := "AlertRowsLaw", name := "alarmAt", desc := "(LAlertRows;II[J)I" } : Jvm.MethodName) method_11_code (5 : Nat) (Option.some Jvm.ClassFile.FieldType.int) [((0 : Nat), (10 : Nat), (13 : Nat), (21 : Nat))]) ∈ zTB := List.mem_filter.mpr ⟨List.mem_append_right _ (List.mem_append_right _ (List.mem_append_right _ (List.mem_append_left _ (List.mem_of_getElem? (i := 77) (by decide +kernel))))), by decide +kernel⟩
theorem t_558 : (Jvm.Cond.methodLink "AlertRowsLaw" (47 : Nat) ({ cls := "AlertRows", name := "alarmAt", desc := "(II)I" } : Jvm.MethodName)) ∈ zTB := List.mem_filter.mpr ⟨List.mem_append_right _ (List.mem_append_right _ (List.mem_append_right _ (List.mem_append_left _ (List.mem_of_getElem? (i := 78) (by decide +kernel))))), by decide +kernel⟩
theorem t_559 : (Jvm.Cond.instanceMethod ({ cls := "AlertRows", name := "alarmAt", desc := "(II)I" } : Jvm.MethodName)) ∈ zTB := List.mem_filter.mpr ⟨List.mem_append_right _ (List.mem_append_right _ (List.mem_append_right _ (List.mem_append_left _ (List.mem_of_getElem? (i := 79) (by decide +kernel))))), by decide +kernel⟩
theorem t_560 : (Jvm.Cond.selects "AlertRows" ({ cls := "AlertRows", name := "alarmAt", desc := "(II)I" } : Jvm.MethodName) ({ cls := "AlertRows", name := "alarmAt", desc := "(II)I" } : Jvm.MethodName)) ∈ zTB := List.mem_filter.mpr ⟨List.mem_append_right _ (List.mem_append_right _ (List.mem_append_right _ (List.mem_append_left _ (List.mem_of_getElem? (i := 80) (by decide +kernel))))), by decide +kernel⟩
theorem t_561 : (Jvm.Cond.code ({ cls := "AlertRows", name := "alarmAt", desc := "(II)I" } : Jvm.MethodName) prog_1_method_10_code (4 : Nat) (Option.some Jvm.ClassFile.FieldType.int)) ∈ zTB := List.mem_filter.mpr ⟨List.mem_append_right _ (List.mem_append_right _ (List.mem_append_right _ (List.mem_append_left _ (List.mem_of_getElem? (i := 81) (by decide +kernel))))), by decide +kernel⟩
theorem t_562 : (Jvm.Cond.methodLink "AlertRows" (158 : Nat) ({ cls := "AlertRows$Alarm", name := "reachedPersons", desc := "()I" } : Jvm.MethodName)) ∈ zTB := List.mem_filter.mpr ⟨List.mem_append_right _ (List.mem_append_right _ (List.mem_append_right _ (List.mem_append_left _ (List.mem_of_getElem? (i := 82) (by decide +kernel))))), by decide +kernel⟩
theorem t_563 : (Jvm.Cond.instanceMethod ({ cls := "AlertRows$Alarm", name := "reachedPersons", desc := "()I" } : Jvm.MethodName)) ∈ zTB := List.mem_filter.mpr ⟨List.mem_append_right _ (List.mem_append_right _ (List.mem_append_right _ (List.mem_append_left _ (List.mem_of_getElem? (i := 83) (by decide +kernel))))), by decide +kernel⟩
theorem t_564 : (Jvm.Cond.selects "AlertRows$Alarm" ({ cls := "AlertRows$Alarm", name := "reachedPersons", desc := "()I" } : Jvm.MethodName) ({ cls := "AlertRows$Alarm", name := "reachedPersons", desc := "()I" } : Jvm.MethodName)) ∈ zTB := List.mem_filter.mpr ⟨List.mem_append_right _ (List.mem_append_right _ (List.mem_append_right _ (List.mem_append_left _ (List.mem_of_getElem? (i := 84) (by decide +kernel))))), by decide +kernel⟩
theorem t_565 : (Jvm.Cond.code ({ cls := "AlertRows$Alarm", name := "reachedPersons", desc := "()I" } : Jvm.MethodName) prog_2_method_10_code (1 : Nat) (Option.some Jvm.ClassFile.FieldType.int)) ∈ zTB := List.mem_filter.mpr ⟨List.mem_append_right _ (List.mem_append_right _ (List.mem_append_right _ (List.mem_append_left _ (List.mem_of_getElem? (i := 85) (by decide +kernel))))), by decide +kernel⟩
theorem t_567 : (Jvm.Cond.methodLink "AlertRowsLaw" (110 : Nat) ({ cls := "AlertRowsLaw", name := "comes", desc := "(LAlertRows;II[J)I" } : Jvm.MethodName)) ∈ zTB := List.mem_filter.mpr ⟨List.mem_append_right _ (List.mem_append_right _ (List.mem_append_right _ (List.mem_append_left _ (List.mem_of_getElem? (i := 87) (by decide +kernel))))), by decide +kernel⟩
theorem t_568 : (Jvm.Cond.static ({ cls := "AlertRowsLaw", name := "comes", desc := "(LAlertRows;II[J)I" } : Jvm.MethodName)) ∈ zTB := List.mem_filter.mpr ⟨List.mem_append_right _ (List.mem_append_right _ (List.mem_append_right _ (List.mem_append_left _ (List.mem_of_getElem? (i := 88) (by decide +kernel))))), by decide +kernel⟩
theorem t_569 : (Jvm.Cond.codeWith ({ cls := "AlertRowsLaw", name := "comes", desc := "(LAlertRows;II[J)I" } : Jvm.MethodName) method_12_code (5 : Nat) (Option.some Jvm.ClassFile.FieldType.int) [((0 : Nat), (10 : Nat), (13 : Nat), (21 : Nat)), ((0 : Nat), (10 : Nat), (17 : Nat), (13 : Nat))]) ∈ zTB := List.mem_filter.mpr ⟨List.mem_append_right _ (List.mem_append_right _ (List.mem_append_right _ (List.mem_append_left _ (List.mem_of_getElem? (i := 89) (by decide +kernel))))), by decide +kernel⟩
theorem t_570 : (Jvm.Cond.methodLink "AlertRowsLaw" (50 : Nat) ({ cls := "AlertRows", name := "comes", desc := "(II)I" } : Jvm.MethodName)) ∈ zTB := List.mem_filter.mpr ⟨List.mem_append_right _ (List.mem_append_right _ (List.mem_append_right _ (List.mem_append_left _ (List.mem_of_getElem? (i := 90) (by decide +kernel))))), by decide +kernel⟩
theorem t_571 : (Jvm.Cond.instanceMethod ({ cls := "AlertRows", name := "comes", desc := "(II)I" } : Jvm.MethodName)) ∈ zTB := List.mem_filter.mpr ⟨List.mem_append_right _ (List.mem_append_right _ (List.mem_append_right _ (List.mem_append_left _ (List.mem_of_getElem? (i := 91) (by decide +kernel))))), by decide +kernel⟩
theorem t_572 : (Jvm.Cond.selects "AlertRows" ({ cls := "AlertRows", name := "comes", desc := "(II)I" } : Jvm.MethodName) ({ cls := "AlertRows", name := "comes", desc := "(II)I" } : Jvm.MethodName)) ∈ zTB := List.mem_filter.mpr ⟨List.mem_append_right _ (List.mem_append_right _ (List.mem_append_right _ (List.mem_append_left _ (List.mem_of_getElem? (i := 92) (by decide +kernel))))), by decide +kernel⟩
theorem t_573 : (Jvm.Cond.code ({ cls := "AlertRows", name := "comes", desc := "(II)I" } : Jvm.MethodName) prog_1_method_11_code (4 : Nat) (Option.some Jvm.ClassFile.FieldType.int)) ∈ zTB := List.mem_filter.mpr ⟨List.mem_append_right _ (List.mem_append_right _ (List.mem_append_right _ (List.mem_append_left _ (List.mem_of_getElem? (i := 93) (by decide +kernel))))), by decide +kernel⟩
theorem t_574 : (Jvm.Cond.methodLink "AlertRows" (178 : Nat) ({ cls := "AlertRows", name := "requireNotBelowZero", desc := "(I)V" } : Jvm.MethodName)) ∈ zTB := List.mem_filter.mpr ⟨List.mem_append_right _ (List.mem_append_right _ (List.mem_append_right _ (List.mem_append_left _ (List.mem_of_getElem? (i := 94) (by decide +kernel))))), by decide +kernel⟩
theorem t_575 : (Jvm.Cond.static ({ cls := "AlertRows", name := "requireNotBelowZero", desc := "(I)V" } : Jvm.MethodName)) ∈ zTB := List.mem_filter.mpr ⟨List.mem_append_right _ (List.mem_append_right _ (List.mem_append_right _ (List.mem_append_left _ (List.mem_of_getElem? (i := 95) (by decide +kernel))))), by decide +kernel⟩
theorem t_576 : (Jvm.Cond.code ({ cls := "AlertRows", name := "requireNotBelowZero", desc := "(I)V" } : Jvm.MethodName) prog_1_method_19_code (1 : Nat) (Option.none : Option Jvm.ClassFile.FieldType)) ∈ zTB := List.mem_filter.mpr ⟨List.mem_append_right _ (List.mem_append_right _ (List.mem_append_right _ (List.mem_append_left _ (List.mem_of_getElem? (i := 96) (by decide +kernel))))), by decide +kernel⟩
theorem t_578 : (Jvm.Cond.methodLink "AlertRows" (181 : Nat) ({ cls := "AlertRows$Alarm", name := "comerAt", desc := "(I)I" } : Jvm.MethodName)) ∈ zTB := List.mem_filter.mpr ⟨List.mem_append_right _ (List.mem_append_right _ (List.mem_append_right _ (List.mem_append_left _ (List.mem_of_getElem? (i := 98) (by decide +kernel))))), by decide +kernel⟩
theorem t_579 : (Jvm.Cond.instanceMethod ({ cls := "AlertRows$Alarm", name := "comerAt", desc := "(I)I" } : Jvm.MethodName)) ∈ zTB := List.mem_filter.mpr ⟨List.mem_append_right _ (List.mem_append_right _ (List.mem_append_right _ (List.mem_append_left _ (List.mem_of_getElem? (i := 99) (by decide +kernel))))), by decide +kernel⟩
theorem t_580 : (Jvm.Cond.selects "AlertRows$Alarm" ({ cls := "AlertRows$Alarm", name := "comerAt", desc := "(I)I" } : Jvm.MethodName) ({ cls := "AlertRows$Alarm", name := "comerAt", desc := "(I)I" } : Jvm.MethodName)) ∈ zTB := List.mem_filter.mpr ⟨List.mem_append_right _ (List.mem_append_right _ (List.mem_append_right _ (List.mem_append_left _ (List.mem_of_getElem? (i := 100) (by decide +kernel))))), by decide +kernel⟩
theorem t_581 : (Jvm.Cond.code ({ cls := "AlertRows$Alarm", name := "comerAt", desc := "(I)I" } : Jvm.MethodName) prog_2_method_13_code (4 : Nat) (Option.some Jvm.ClassFile.FieldType.int)) ∈ zTB := List.mem_filter.mpr ⟨List.mem_append_right _ (List.mem_append_right _ (List.mem_append_right _ (List.mem_append_left _ (List.mem_of_getElem? (i := 101) (by decide +kernel))))), by decide +kernel⟩
theorem t_582 : (Jvm.Cond.methodLink "AlertRows$Alarm" (56 : Nat) ({ cls := "AlertRows$Alarm", name := "comersBefore", desc := "(II)I" } : Jvm.MethodName)) ∈ zTB := List.mem_filter.mpr ⟨List.mem_append_right _ (List.mem_append_right _ (List.mem_append_right _ (List.mem_append_left _ (List.mem_of_getElem? (i := 102) (by decide +kernel))))), by decide +kernel⟩
theorem t_584 : (Jvm.Cond.instanceMethod ({ cls := "AlertRows$Alarm", name := "comersBefore", desc := "(II)I" } : Jvm.MethodName)) ∈ zTB := List.mem_filter.mpr ⟨List.mem_append_right _ (List.mem_append_right _ (List.mem_append_right _ (List.mem_append_left _ (List.mem_of_getElem? (i := 104) (by decide +kernel))))), by decide +kernel⟩
theorem t_585 : (Jvm.Cond.code ({ cls := "AlertRows$Alarm", name := "comersBefore", desc := "(II)I" } : Jvm.MethodName) prog_2_method_14_code (6 : Nat) (Option.some Jvm.ClassFile.FieldType.int)) ∈ zTB := List.mem_filter.mpr ⟨List.mem_append_right _ (List.mem_append_right _ (List.mem_append_right _ (List.mem_append_left _ (List.mem_of_getElem? (i := 105) (by decide +kernel))))), by decide +kernel⟩
theorem t_586 : (Jvm.Cond.methodLink "AlertRowsLaw" (113 : Nat) ({ cls := "AlertRowsLaw", name := "reached", desc := "(LAlertRows;II[J)I" } : Jvm.MethodName)) ∈ zTB := List.mem_filter.mpr ⟨List.mem_append_right _ (List.mem_append_right _ (List.mem_append_right _ (List.mem_append_left _ (List.mem_of_getElem? (i := 106) (by decide +kernel))))), by decide +kernel⟩
theorem t_587 : (Jvm.Cond.static ({ cls := "AlertRowsLaw", name := "reached", desc := "(LAlertRows;II[J)I" } : Jvm.MethodName)) ∈ zTB := List.mem_filter.mpr ⟨List.mem_append_right _ (List.mem_append_right _ (List.mem_append_right _ (List.mem_append_left _ (List.mem_of_getElem? (i := 107) (by decide +kernel))))), by decide +kernel⟩
theorem t_588 : (Jvm.Cond.codeWith ({ cls := "AlertRowsLaw", name := "reached", desc := "(LAlertRows;II[J)I" } : Jvm.MethodName) method_13_code (5 : Nat) (Option.some Jvm.ClassFile.FieldType.int) [((0 : Nat), (10 : Nat), (13 : Nat), (21 : Nat))]) ∈ zTB := List.mem_filter.mpr ⟨List.mem_append_right _ (List.mem_append_right _ (List.mem_append_right _ (List.mem_append_left _ (List.mem_of_getElem? (i := 108) (by decide +kernel))))), by decide +kernel⟩
theorem t_589 : (Jvm.Cond.methodLink "AlertRowsLaw" (53 : Nat) ({ cls := "AlertRows", name := "reached", desc := "(II)I" } : Jvm.MethodName)) ∈ zTB := List.mem_filter.mpr ⟨List.mem_append_right _ (List.mem_append_right _ (List.mem_append_right _ (List.mem_append_left _ (List.mem_of_getElem? (i := 109) (by decide +kernel))))), by decide +kernel⟩
theorem t_590 : (Jvm.Cond.instanceMethod ({ cls := "AlertRows", name := "reached", desc := "(II)I" } : Jvm.MethodName)) ∈ zTB := List.mem_filter.mpr ⟨List.mem_append_right _ (List.mem_append_right _ (List.mem_append_right _ (List.mem_append_left _ (List.mem_of_getElem? (i := 110) (by decide +kernel))))), by decide +kernel⟩
theorem t_591 : (Jvm.Cond.selects "AlertRows" ({ cls := "AlertRows", name := "reached", desc := "(II)I" } : Jvm.MethodName) ({ cls := "AlertRows", name := "reached", desc := "(II)I" } : Jvm.MethodName)) ∈ zTB := List.mem_filter.mpr ⟨List.mem_append_right _ (List.mem_append_right _ (List.mem_append_right _ (List.mem_append_left _ (List.mem_of_getElem? (i := 111) (by decide +kernel))))), by decide +kernel⟩
theorem t_592 : (Jvm.Cond.code ({ cls := "AlertRows", name := "reached", desc := "(II)I" } : Jvm.MethodName) prog_1_method_12_code (4 : Nat) (Option.some Jvm.ClassFile.FieldType.int)) ∈ zTB := List.mem_filter.mpr ⟨List.mem_append_right _ (List.mem_append_right _ (List.mem_append_right _ (List.mem_append_left _ (List.mem_of_getElem? (i := 112) (by decide +kernel))))), by decide +kernel⟩
theorem t_593 : (Jvm.Cond.methodLink "AlertRows" (184 : Nat) ({ cls := "AlertRows$Alarm", name := "reachOf", desc := "(I)I" } : Jvm.MethodName)) ∈ zTB := List.mem_filter.mpr ⟨List.mem_append_right _ (List.mem_append_right _ (List.mem_append_right _ (List.mem_append_left _ (List.mem_of_getElem? (i := 113) (by decide +kernel))))), by decide +kernel⟩
theorem t_594 : (Jvm.Cond.methodLink "AlertRowsLaw" (116 : Nat) ({ cls := "AlertRowsLaw", name := "share", desc := "(LAlertRows;II[J)I" } : Jvm.MethodName)) ∈ zTB := List.mem_filter.mpr ⟨List.mem_append_right _ (List.mem_append_right _ (List.mem_append_right _ (List.mem_append_left _ (List.mem_of_getElem? (i := 114) (by decide +kernel))))), by decide +kernel⟩
theorem t_595 : (Jvm.Cond.static ({ cls := "AlertRowsLaw", name := "share", desc := "(LAlertRows;II[J)I" } : Jvm.MethodName)) ∈ zTB := List.mem_filter.mpr ⟨List.mem_append_right _ (List.mem_append_right _ (List.mem_append_right _ (List.mem_append_left _ (List.mem_of_getElem? (i := 115) (by decide +kernel))))), by decide +kernel⟩
theorem t_596 : (Jvm.Cond.codeWith ({ cls := "AlertRowsLaw", name := "share", desc := "(LAlertRows;II[J)I" } : Jvm.MethodName) method_14_code (5 : Nat) (Option.some Jvm.ClassFile.FieldType.int) [((0 : Nat), (10 : Nat), (13 : Nat), (21 : Nat)), ((0 : Nat), (10 : Nat), (17 : Nat), (59 : Nat))]) ∈ zTB := List.mem_filter.mpr ⟨List.mem_append_right _ (List.mem_append_right _ (List.mem_append_right _ (List.mem_append_left _ (List.mem_of_getElem? (i := 116) (by decide +kernel))))), by decide +kernel⟩
theorem t_597 : (Jvm.Cond.classLink "AlertRowsLaw" (59 : Nat) "java/lang/ArithmeticException") ∈ zTB := List.mem_filter.mpr ⟨List.mem_append_right _ (List.mem_append_right _ (List.mem_append_right _ (List.mem_append_left _ (List.mem_of_getElem? (i := 117) (by decide +kernel))))), by decide +kernel⟩
theorem t_598 : (Jvm.Cond.methodLink "AlertRowsLaw" (56 : Nat) ({ cls := "AlertRows", name := "share", desc := "(II)I" } : Jvm.MethodName)) ∈ zTB := List.mem_filter.mpr ⟨List.mem_append_right _ (List.mem_append_right _ (List.mem_append_right _ (List.mem_append_left _ (List.mem_of_getElem? (i := 118) (by decide +kernel))))), by decide +kernel⟩
theorem t_599 : (Jvm.Cond.instanceMethod ({ cls := "AlertRows", name := "share", desc := "(II)I" } : Jvm.MethodName)) ∈ zTB := List.mem_filter.mpr ⟨List.mem_append_right _ (List.mem_append_right _ (List.mem_append_right _ (List.mem_append_left _ (List.mem_of_getElem? (i := 119) (by decide +kernel))))), by decide +kernel⟩
theorem t_600 : (Jvm.Cond.selects "AlertRows" ({ cls := "AlertRows", name := "share", desc := "(II)I" } : Jvm.MethodName) ({ cls := "AlertRows", name := "share", desc := "(II)I" } : Jvm.MethodName)) ∈ zTB := List.mem_filter.mpr ⟨List.mem_append_right _ (List.mem_append_right _ (List.mem_append_right _ (List.mem_append_left _ (List.mem_of_getElem? (i := 120) (by decide +kernel))))), by decide +kernel⟩
theorem t_601 : (Jvm.Cond.code ({ cls := "AlertRows", name := "share", desc := "(II)I" } : Jvm.MethodName) prog_1_method_13_code (5 : Nat) (Option.some Jvm.ClassFile.FieldType.int)) ∈ zTB := List.mem_filter.mpr ⟨List.mem_append_right _ (List.mem_append_right _ (List.mem_append_right _ (List.mem_append_left _ (List.mem_of_getElem? (i := 121) (by decide +kernel))))), by decide +kernel⟩
theorem t_603 : (Jvm.Cond.methodLink "AlertRows" (195 : Nat) ({ cls := "AlertRows", name := "commonDivisor", desc := "(II)I" } : Jvm.MethodName)) ∈ zTB := List.mem_filter.mpr ⟨List.mem_append_right _ (List.mem_append_right _ (List.mem_append_right _ (List.mem_append_left _ (List.mem_of_getElem? (i := 123) (by decide +kernel))))), by decide +kernel⟩
theorem t_604 : (Jvm.Cond.static ({ cls := "AlertRows", name := "commonDivisor", desc := "(II)I" } : Jvm.MethodName)) ∈ zTB := List.mem_filter.mpr ⟨List.mem_append_right _ (List.mem_append_right _ (List.mem_append_right _ (List.mem_append_left _ (List.mem_of_getElem? (i := 124) (by decide +kernel))))), by decide +kernel⟩
theorem t_605 : (Jvm.Cond.code ({ cls := "AlertRows", name := "commonDivisor", desc := "(II)I" } : Jvm.MethodName) prog_1_method_31_code (6 : Nat) (Option.some Jvm.ClassFile.FieldType.int)) ∈ zTB := List.mem_filter.mpr ⟨List.mem_append_right _ (List.mem_append_right _ (List.mem_append_right _ (List.mem_append_left _ (List.mem_of_getElem? (i := 125) (by decide +kernel))))), by decide +kernel⟩
theorem t_606 : (Jvm.Cond.classLink "AlertRows" (198 : Nat) "java/lang/ArithmeticException") ∈ zTB := List.mem_filter.mpr ⟨List.mem_append_right _ (List.mem_append_right _ (List.mem_append_right _ (List.mem_append_left _ (List.mem_of_getElem? (i := 126) (by decide +kernel))))), by decide +kernel⟩
theorem t_607 : (Jvm.Cond.instantiable "java/lang/ArithmeticException" (6 : Nat)) ∈ zTB := List.mem_filter.mpr ⟨List.mem_append_right _ (List.mem_append_right _ (List.mem_append_right _ (List.mem_append_left _ (List.mem_of_getElem? (i := 127) (by decide +kernel))))), by decide +kernel⟩
theorem t_609 : (Jvm.Cond.selects "java/lang/ArithmeticException" ({ cls := "java/lang/Throwable", name := "fillInStackTrace", desc := "(I)Ljava/lang/Throwable;" } : Jvm.MethodName) ({ cls := "java/lang/Throwable", name := "fillInStackTrace", desc := "(I)Ljava/lang/Throwable;" } : Jvm.MethodName)) ∈ zTB := List.mem_filter.mpr ⟨List.mem_append_right _ (List.mem_append_right _ (List.mem_append_right _ (List.mem_append_left _ (List.mem_of_getElem? (i := 129) (by decide +kernel))))), by decide +kernel⟩
theorem t_616 : (Jvm.Cond.methodLink "AlertRows" (202 : Nat) ({ cls := "java/lang/ArithmeticException", name := "<init>", desc := "(Ljava/lang/String;)V" } : Jvm.MethodName)) ∈ zTB := List.mem_filter.mpr ⟨List.mem_append_right _ (List.mem_append_right _ (List.mem_append_right _ (List.mem_append_left _ (List.mem_of_getElem? (i := 136) (by decide +kernel))))), by decide +kernel⟩
theorem t_617 : (Jvm.Cond.instanceMethod ({ cls := "java/lang/ArithmeticException", name := "<init>", desc := "(Ljava/lang/String;)V" } : Jvm.MethodName)) ∈ zTB := List.mem_filter.mpr ⟨List.mem_append_right _ (List.mem_append_right _ (List.mem_append_right _ (List.mem_append_left _ (List.mem_of_getElem? (i := 137) (by decide +kernel))))), by decide +kernel⟩
theorem t_618 : (Jvm.Cond.code ({ cls := "java/lang/ArithmeticException", name := "<init>", desc := "(Ljava/lang/String;)V" } : Jvm.MethodName) prog_8_method_2_code (2 : Nat) (Option.none : Option Jvm.ClassFile.FieldType)) ∈ zTB := List.mem_filter.mpr ⟨List.mem_append_right _ (List.mem_append_right _ (List.mem_append_right _ (List.mem_append_left _ (List.mem_of_getElem? (i := 138) (by decide +kernel))))), by decide +kernel⟩
theorem t_619 : (Jvm.Cond.methodLink "java/lang/ArithmeticException" (7 : Nat) ({ cls := "java/lang/RuntimeException", name := "<init>", desc := "(Ljava/lang/String;)V" } : Jvm.MethodName)) ∈ zTB := List.mem_filter.mpr ⟨List.mem_append_right _ (List.mem_append_right _ (List.mem_append_right _ (List.mem_append_left _ (List.mem_of_getElem? (i := 139) (by decide +kernel))))), by decide +kernel⟩
theorem t_622 : (Jvm.Cond.methodLink "AlertRowsLaw" (119 : Nat) ({ cls := "AlertRowsLaw", name := "never", desc := "(LAlertRows;I[J)I" } : Jvm.MethodName)) ∈ zTB := List.mem_filter.mpr ⟨List.mem_append_right _ (List.mem_append_right _ (List.mem_append_right _ (List.mem_append_left _ (List.mem_of_getElem? (i := 142) (by decide +kernel))))), by decide +kernel⟩
theorem t_623 : (Jvm.Cond.static ({ cls := "AlertRowsLaw", name := "never", desc := "(LAlertRows;I[J)I" } : Jvm.MethodName)) ∈ zTB := List.mem_filter.mpr ⟨List.mem_append_right _ (List.mem_append_right _ (List.mem_append_right _ (List.mem_append_left _ (List.mem_of_getElem? (i := 143) (by decide +kernel))))), by decide +kernel⟩
theorem t_624 : (Jvm.Cond.codeWith ({ cls := "AlertRowsLaw", name := "never", desc := "(LAlertRows;I[J)I" } : Jvm.MethodName) method_15_code (4 : Nat) (Option.some Jvm.ClassFile.FieldType.int) [((0 : Nat), (9 : Nat), (12 : Nat), (13 : Nat))]) ∈ zTB := List.mem_filter.mpr ⟨List.mem_append_right _ (List.mem_append_right _ (List.mem_append_right _ (List.mem_append_left _ (List.mem_of_getElem? (i := 144) (by decide +kernel))))), by decide +kernel⟩
theorem t_625 : (Jvm.Cond.methodLink "AlertRowsLaw" (61 : Nat) ({ cls := "AlertRows", name := "never", desc := "(I)I" } : Jvm.MethodName)) ∈ zTB := List.mem_filter.mpr ⟨List.mem_append_right _ (List.mem_append_right _ (List.mem_append_right _ (List.mem_append_left _ (List.mem_of_getElem? (i := 145) (by decide +kernel))))), by decide +kernel⟩
theorem t_626 : (Jvm.Cond.instanceMethod ({ cls := "AlertRows", name := "never", desc := "(I)I" } : Jvm.MethodName)) ∈ zTB := List.mem_filter.mpr ⟨List.mem_append_right _ (List.mem_append_right _ (List.mem_append_right _ (List.mem_append_left _ (List.mem_of_getElem? (i := 146) (by decide +kernel))))), by decide +kernel⟩
theorem t_627 : (Jvm.Cond.selects "AlertRows" ({ cls := "AlertRows", name := "never", desc := "(I)I" } : Jvm.MethodName) ({ cls := "AlertRows", name := "never", desc := "(I)I" } : Jvm.MethodName)) ∈ zTB := List.mem_filter.mpr ⟨List.mem_append_right _ (List.mem_append_right _ (List.mem_append_right _ (List.mem_append_left _ (List.mem_of_getElem? (i := 147) (by decide +kernel))))), by decide +kernel⟩
theorem t_628 : (Jvm.Cond.code ({ cls := "AlertRows", name := "never", desc := "(I)I" } : Jvm.MethodName) prog_1_method_14_code (4 : Nat) (Option.some Jvm.ClassFile.FieldType.int)) ∈ zTB := List.mem_filter.mpr ⟨List.mem_append_right _ (List.mem_append_right _ (List.mem_append_right _ (List.mem_append_left _ (List.mem_of_getElem? (i := 148) (by decide +kernel))))), by decide +kernel⟩
theorem t_629 : (Jvm.Cond.methodLink "AlertRows" (207 : Nat) ({ cls := "AlertRows$Person", name := "neverAnswers", desc := "()Z" } : Jvm.MethodName)) ∈ zTB := List.mem_filter.mpr ⟨List.mem_append_right _ (List.mem_append_right _ (List.mem_append_right _ (List.mem_append_left _ (List.mem_of_getElem? (i := 149) (by decide +kernel))))), by decide +kernel⟩
theorem t_630 : (Jvm.Cond.instanceMethod ({ cls := "AlertRows$Person", name := "neverAnswers", desc := "()Z" } : Jvm.MethodName)) ∈ zTB := List.mem_filter.mpr ⟨List.mem_append_right _ (List.mem_append_right _ (List.mem_append_right _ (List.mem_append_left _ (List.mem_of_getElem? (i := 150) (by decide +kernel))))), by decide +kernel⟩
theorem t_631 : (Jvm.Cond.selects "AlertRows$Person" ({ cls := "AlertRows$Person", name := "neverAnswers", desc := "()Z" } : Jvm.MethodName) ({ cls := "AlertRows$Person", name := "neverAnswers", desc := "()Z" } : Jvm.MethodName)) ∈ zTB := List.mem_filter.mpr ⟨List.mem_append_right _ (List.mem_append_right _ (List.mem_append_right _ (List.mem_append_left _ (List.mem_of_getElem? (i := 151) (by decide +kernel))))), by decide +kernel⟩
theorem t_632 : (Jvm.Cond.code ({ cls := "AlertRows$Person", name := "neverAnswers", desc := "()Z" } : Jvm.MethodName) prog_4_method_6_code (1 : Nat) (Option.some Jvm.ClassFile.FieldType.boolean)) ∈ zTB := List.mem_filter.mpr ⟨List.mem_append_right _ (List.mem_append_right _ (List.mem_append_right _ (List.mem_append_left _ (List.mem_of_getElem? (i := 152) (by decide +kernel))))), by decide +kernel⟩
theorem t_633 : (Jvm.Cond.methodLink "AlertRowsLaw" (122 : Nat) ({ cls := "AlertRowsLaw", name := "count", desc := "(LAlertRows;I[J)I" } : Jvm.MethodName)) ∈ zTB := List.mem_filter.mpr ⟨List.mem_append_right _ (List.mem_append_right _ (List.mem_append_right _ (List.mem_append_left _ (List.mem_of_getElem? (i := 153) (by decide +kernel))))), by decide +kernel⟩
theorem t_634 : (Jvm.Cond.static ({ cls := "AlertRowsLaw", name := "count", desc := "(LAlertRows;I[J)I" } : Jvm.MethodName)) ∈ zTB := List.mem_filter.mpr ⟨List.mem_append_right _ (List.mem_append_right _ (List.mem_append_right _ (List.mem_append_left _ (List.mem_of_getElem? (i := 154) (by decide +kernel))))), by decide +kernel⟩
theorem t_635 : (Jvm.Cond.codeWith ({ cls := "AlertRowsLaw", name := "count", desc := "(LAlertRows;I[J)I" } : Jvm.MethodName) method_16_code (4 : Nat) (Option.some Jvm.ClassFile.FieldType.int) [((0 : Nat), (9 : Nat), (12 : Nat), (21 : Nat))]) ∈ zTB := List.mem_filter.mpr ⟨List.mem_append_right _ (List.mem_append_right _ (List.mem_append_right _ (List.mem_append_left _ (List.mem_of_getElem? (i := 155) (by decide +kernel))))), by decide +kernel⟩
theorem t_636 : (Jvm.Cond.methodLink "AlertRowsLaw" (64 : Nat) ({ cls := "AlertRows", name := "count", desc := "(I)I" } : Jvm.MethodName)) ∈ zTB := List.mem_filter.mpr ⟨List.mem_append_right _ (List.mem_append_right _ (List.mem_append_right _ (List.mem_append_left _ (List.mem_of_getElem? (i := 156) (by decide +kernel))))), by decide +kernel⟩
theorem t_637 : (Jvm.Cond.instanceMethod ({ cls := "AlertRows", name := "count", desc := "(I)I" } : Jvm.MethodName)) ∈ zTB := List.mem_filter.mpr ⟨List.mem_append_right _ (List.mem_append_right _ (List.mem_append_right _ (List.mem_append_left _ (List.mem_of_getElem? (i := 157) (by decide +kernel))))), by decide +kernel⟩
theorem t_638 : (Jvm.Cond.selects "AlertRows" ({ cls := "AlertRows", name := "count", desc := "(I)I" } : Jvm.MethodName) ({ cls := "AlertRows", name := "count", desc := "(I)I" } : Jvm.MethodName)) ∈ zTB := List.mem_filter.mpr ⟨List.mem_append_right _ (List.mem_append_right _ (List.mem_append_right _ (List.mem_append_left _ (List.mem_of_getElem? (i := 158) (by decide +kernel))))), by decide +kernel⟩
theorem t_639 : (Jvm.Cond.code ({ cls := "AlertRows", name := "count", desc := "(I)I" } : Jvm.MethodName) prog_1_method_15_code (2 : Nat) (Option.some Jvm.ClassFile.FieldType.int)) ∈ zTB := List.mem_filter.mpr ⟨List.mem_append_right _ (List.mem_append_right _ (List.mem_append_right _ (List.mem_append_left _ (List.mem_of_getElem? (i := 159) (by decide +kernel))))), by decide +kernel⟩
theorem t_640 : (Jvm.Cond.methodLink "AlertRows" (211 : Nat) ({ cls := "AlertRows", name := "openAlarms", desc := "()I" } : Jvm.MethodName)) ∈ zTB := List.mem_filter.mpr ⟨List.mem_append_right _ (List.mem_append_right _ (List.mem_append_right _ (List.mem_append_left _ (List.mem_of_getElem? (i := 160) (by decide +kernel))))), by decide +kernel⟩
theorem t_642 : (Jvm.Cond.instanceMethod ({ cls := "AlertRows", name := "openAlarms", desc := "()I" } : Jvm.MethodName)) ∈ zTB := List.mem_filter.mpr ⟨List.mem_append_right _ (List.mem_append_right _ (List.mem_append_right _ (List.mem_append_left _ (List.mem_of_getElem? (i := 162) (by decide +kernel))))), by decide +kernel⟩
theorem t_643 : (Jvm.Cond.code ({ cls := "AlertRows", name := "openAlarms", desc := "()I" } : Jvm.MethodName) prog_1_method_30_code (3 : Nat) (Option.some Jvm.ClassFile.FieldType.int)) ∈ zTB := List.mem_filter.mpr ⟨List.mem_append_right _ (List.mem_append_right _ (List.mem_append_right _ (List.mem_append_left _ (List.mem_of_getElem? (i := 163) (by decide +kernel))))), by decide +kernel⟩
theorem t_645 : (Jvm.Cond.classLink "AlertRowsLaw" (68 : Nat) "AlertRowsModel") ∈ zTB := List.mem_filter.mpr ⟨List.mem_append_right _ (List.mem_append_right _ (List.mem_append_right _ (List.mem_append_left _ (List.mem_of_getElem? (i := 165) (by decide +kernel))))), by decide +kernel⟩
theorem t_646 : (Jvm.Cond.instantiable "AlertRowsModel" (25 : Nat)) ∈ zTB := List.mem_filter.mpr ⟨List.mem_append_right _ (List.mem_append_right _ (List.mem_append_right _ (List.mem_append_left _ (List.mem_of_getElem? (i := 166) (by decide +kernel))))), by decide +kernel⟩
theorem t_647 : (Jvm.Cond.methodLink "AlertRowsLaw" (70 : Nat) ({ cls := "AlertRowsModel", name := "<init>", desc := "()V" } : Jvm.MethodName)) ∈ zTB := List.mem_filter.mpr ⟨List.mem_append_right _ (List.mem_append_right _ (List.mem_append_right _ (List.mem_append_left _ (List.mem_of_getElem? (i := 167) (by decide +kernel))))), by decide +kernel⟩
theorem t_648 : (Jvm.Cond.instanceMethod ({ cls := "AlertRowsModel", name := "<init>", desc := "()V" } : Jvm.MethodName)) ∈ zTB := List.mem_filter.mpr ⟨List.mem_append_right _ (List.mem_append_right _ (List.mem_append_right _ (List.mem_append_left _ (List.mem_of_getElem? (i := 168) (by decide +kernel))))), by decide +kernel⟩
theorem t_649 : (Jvm.Cond.code ({ cls := "AlertRowsModel", name := "<init>", desc := "()V" } : Jvm.MethodName) prog_6_method_1_code (1 : Nat) (Option.none : Option Jvm.ClassFile.FieldType)) ∈ zTB := List.mem_filter.mpr ⟨List.mem_append_right _ (List.mem_append_right _ (List.mem_append_right _ (List.mem_append_left _ (List.mem_of_getElem? (i := 169) (by decide +kernel))))), by decide +kernel⟩
theorem t_650 : (Jvm.Cond.methodLink "AlertRowsModel" (1 : Nat) ({ cls := "java/lang/Object", name := "<init>", desc := "()V" } : Jvm.MethodName)) ∈ zTB := List.mem_filter.mpr ⟨List.mem_append_right _ (List.mem_append_right _ (List.mem_append_right _ (List.mem_append_left _ (List.mem_of_getElem? (i := 170) (by decide +kernel))))), by decide +kernel⟩
theorem t_651 : (Jvm.Cond.fieldLink "AlertRowsModel" (62 : Nat) "AlertRowsModel" "thrown" "I") ∈ zTB := List.mem_filter.mpr ⟨List.mem_append_right _ (List.mem_append_right _ (List.mem_append_right _ (List.mem_append_left _ (List.mem_of_getElem? (i := 171) (by decide +kernel))))), by decide +kernel⟩
theorem t_652 : (Jvm.Cond.fieldLink "AlertRowsModel" (94 : Nat) "AlertRowsModel" "now" "I") ∈ zTB := List.mem_filter.mpr ⟨List.mem_append_right _ (List.mem_append_right _ (List.mem_append_right _ (List.mem_append_left _ (List.mem_of_getElem? (i := 172) (by decide +kernel))))), by decide +kernel⟩
theorem t_653 : (Jvm.Cond.fieldLink "AlertRowsModel" (66 : Nat) "AlertRowsModel" "groups" "I") ∈ zTB := List.mem_filter.mpr ⟨List.mem_append_right _ (List.mem_append_right _ (List.mem_append_right _ (List.mem_append_left _ (List.mem_of_getElem? (i := 173) (by decide +kernel))))), by decide +kernel⟩
theorem t_654 : (Jvm.Cond.fieldLink "AlertRowsModel" (7 : Nat) "AlertRowsModel" "least" "[I") ∈ zTB := List.mem_filter.mpr ⟨List.mem_append_right _ (List.mem_append_right _ (List.mem_append_right _ (List.mem_append_left _ (List.mem_of_getElem? (i := 174) (by decide +kernel))))), by decide +kernel⟩
theorem t_655 : (Jvm.Cond.fieldLink "AlertRowsModel" (13 : Nat) "AlertRowsModel" "time" "[I") ∈ zTB := List.mem_filter.mpr ⟨List.mem_append_right _ (List.mem_append_right _ (List.mem_append_right _ (List.mem_append_left _ (List.mem_of_getElem? (i := 175) (by decide +kernel))))), by decide +kernel⟩
theorem t_656 : (Jvm.Cond.fieldLink "AlertRowsModel" (16 : Nat) "AlertRowsModel" "following" "[I") ∈ zTB := List.mem_filter.mpr ⟨List.mem_append_right _ (List.mem_append_right _ (List.mem_append_right _ (List.mem_append_left _ (List.mem_of_getElem? (i := 176) (by decide +kernel))))), by decide +kernel⟩
theorem t_657 : (Jvm.Cond.fieldLink "AlertRowsModel" (73 : Nat) "AlertRowsModel" "persons" "I") ∈ zTB := List.mem_filter.mpr ⟨List.mem_append_right _ (List.mem_append_right _ (List.mem_append_right _ (List.mem_append_left _ (List.mem_of_getElem? (i := 177) (by decide +kernel))))), by decide +kernel⟩
theorem t_658 : (Jvm.Cond.fieldLink "AlertRowsModel" (19 : Nat) "AlertRowsModel" "group" "[I") ∈ zTB := List.mem_filter.mpr ⟨List.mem_append_right _ (List.mem_append_right _ (List.mem_append_right _ (List.mem_append_left _ (List.mem_of_getElem? (i := 178) (by decide +kernel))))), by decide +kernel⟩
theorem t_659 : (Jvm.Cond.fieldLink "AlertRowsModel" (22 : Nat) "AlertRowsModel" "ways" "[I") ∈ zTB := List.mem_filter.mpr ⟨List.mem_append_right _ (List.mem_append_right _ (List.mem_append_right _ (List.mem_append_left _ (List.mem_of_getElem? (i := 179) (by decide +kernel))))), by decide +kernel⟩
theorem t_660 : (Jvm.Cond.fieldLink "AlertRowsModel" (25 : Nat) "AlertRowsModel" "kind" "[I") ∈ zTB := List.mem_filter.mpr ⟨List.mem_append_right _ (List.mem_append_right _ (List.mem_append_right _ (List.mem_append_left _ (List.mem_of_getElem? (i := 180) (by decide +kernel))))), by decide +kernel⟩
theorem t_661 : (Jvm.Cond.fieldLink "AlertRowsModel" (28 : Nat) "AlertRowsModel" "works" "[Z") ∈ zTB := List.mem_filter.mpr ⟨List.mem_append_right _ (List.mem_append_right _ (List.mem_append_right _ (List.mem_append_left _ (List.mem_of_getElem? (i := 181) (by decide +kernel))))), by decide +kernel⟩
theorem t_662 : (Jvm.Cond.fieldLink "AlertRowsModel" (32 : Nat) "AlertRowsModel" "state" "[I") ∈ zTB := List.mem_filter.mpr ⟨List.mem_append_right _ (List.mem_append_right _ (List.mem_append_right _ (List.mem_append_left _ (List.mem_of_getElem? (i := 182) (by decide +kernel))))), by decide +kernel⟩
theorem t_663 : (Jvm.Cond.fieldLink "AlertRowsModel" (76 : Nat) "AlertRowsModel" "alarms" "I") ∈ zTB := List.mem_filter.mpr ⟨List.mem_append_right _ (List.mem_append_right _ (List.mem_append_right _ (List.mem_append_left _ (List.mem_of_getElem? (i := 183) (by decide +kernel))))), by decide +kernel⟩
theorem t_664 : (Jvm.Cond.fieldLink "AlertRowsModel" (35 : Nat) "AlertRowsModel" "of" "[I") ∈ zTB := List.mem_filter.mpr ⟨List.mem_append_right _ (List.mem_append_right _ (List.mem_append_right _ (List.mem_append_left _ (List.mem_of_getElem? (i := 184) (by decide +kernel))))), by decide +kernel⟩
theorem t_665 : (Jvm.Cond.fieldLink "AlertRowsModel" (38 : Nat) "AlertRowsModel" "test" "[Z") ∈ zTB := List.mem_filter.mpr ⟨List.mem_append_right _ (List.mem_append_right _ (List.mem_append_right _ (List.mem_append_left _ (List.mem_of_getElem? (i := 185) (by decide +kernel))))), by decide +kernel⟩
theorem t_666 : (Jvm.Cond.fieldLink "AlertRowsModel" (41 : Nat) "AlertRowsModel" "began" "[I") ∈ zTB := List.mem_filter.mpr ⟨List.mem_append_right _ (List.mem_append_right _ (List.mem_append_right _ (List.mem_append_left _ (List.mem_of_getElem? (i := 186) (by decide +kernel))))), by decide +kernel⟩
theorem t_667 : (Jvm.Cond.fieldLink "AlertRowsModel" (44 : Nat) "AlertRowsModel" "by" "[I") ∈ zTB := List.mem_filter.mpr ⟨List.mem_append_right _ (List.mem_append_right _ (List.mem_append_right _ (List.mem_append_left _ (List.mem_of_getElem? (i := 187) (by decide +kernel))))), by decide +kernel⟩
theorem t_668 : (Jvm.Cond.fieldLink "AlertRowsModel" (47 : Nat) "AlertRowsModel" "how" "[I") ∈ zTB := List.mem_filter.mpr ⟨List.mem_append_right _ (List.mem_append_right _ (List.mem_append_right _ (List.mem_append_left _ (List.mem_of_getElem? (i := 188) (by decide +kernel))))), by decide +kernel⟩
theorem t_669 : (Jvm.Cond.fieldLink "AlertRowsModel" (50 : Nat) "AlertRowsModel" "asked" "[Z") ∈ zTB := List.mem_filter.mpr ⟨List.mem_append_right _ (List.mem_append_right _ (List.mem_append_right _ (List.mem_append_left _ (List.mem_of_getElem? (i := 189) (by decide +kernel))))), by decide +kernel⟩
theorem t_670 : (Jvm.Cond.fieldLink "AlertRowsModel" (53 : Nat) "AlertRowsModel" "way" "[I") ∈ zTB := List.mem_filter.mpr ⟨List.mem_append_right _ (List.mem_append_right _ (List.mem_append_right _ (List.mem_append_left _ (List.mem_of_getElem? (i := 190) (by decide +kernel))))), by decide +kernel⟩
theorem t_671 : (Jvm.Cond.fieldLink "AlertRowsModel" (56 : Nat) "AlertRowsModel" "delay" "[I") ∈ zTB := List.mem_filter.mpr ⟨List.mem_append_right _ (List.mem_append_right _ (List.mem_append_right _ (List.mem_append_left _ (List.mem_of_getElem? (i := 191) (by decide +kernel))))), by decide +kernel⟩
theorem t_672 : (Jvm.Cond.fieldLink "AlertRowsModel" (59 : Nat) "AlertRowsModel" "said" "[I") ∈ zTB := List.mem_filter.mpr ⟨List.mem_append_right _ (List.mem_append_right _ (List.mem_append_right _ (List.mem_append_left _ (List.mem_of_getElem? (i := 192) (by decide +kernel))))), by decide +kernel⟩
theorem t_673 : (Jvm.Cond.fieldLink "AlertRowsModel" (118 : Nat) "AlertRowsModel" "late" "I") ∈ zTB := List.mem_filter.mpr ⟨List.mem_append_right _ (List.mem_append_right _ (List.mem_append_right _ (List.mem_append_left _ (List.mem_of_getElem? (i := 193) (by decide +kernel))))), by decide +kernel⟩
theorem t_674 : (Jvm.Cond.fieldLink "AlertRowsModel" (115 : Nat) "AlertRowsModel" "early" "I") ∈ zTB := List.mem_filter.mpr ⟨List.mem_append_right _ (List.mem_append_right _ (List.mem_append_right _ (List.mem_append_left _ (List.mem_of_getElem? (i := 194) (by decide +kernel))))), by decide +kernel⟩
theorem t_675 : (Jvm.Cond.fieldLink "AlertRowsModel" (122 : Nat) "AlertRowsModel" "seconds" "I") ∈ zTB := List.mem_filter.mpr ⟨List.mem_append_right _ (List.mem_append_right _ (List.mem_append_right _ (List.mem_append_left _ (List.mem_of_getElem? (i := 195) (by decide +kernel))))), by decide +kernel⟩
theorem t_727 : (Jvm.Cond.methodLink "AlertRowsLaw" (77 : Nat) ({ cls := "AlertRowsModel", name := "thrown", desc := "()I" } : Jvm.MethodName)) ∈ zTB := List.mem_filter.mpr ⟨List.mem_append_right _ (List.mem_append_right _ (List.mem_append_right _ (List.mem_append_right _ (List.mem_of_getElem? (i := 7) (by decide +kernel))))), by decide +kernel⟩
theorem t_728 : (Jvm.Cond.instanceMethod ({ cls := "AlertRowsModel", name := "thrown", desc := "()I" } : Jvm.MethodName)) ∈ zTB := List.mem_filter.mpr ⟨List.mem_append_right _ (List.mem_append_right _ (List.mem_append_right _ (List.mem_append_right _ (List.mem_of_getElem? (i := 8) (by decide +kernel))))), by decide +kernel⟩
theorem t_729 : (Jvm.Cond.selects "AlertRowsModel" ({ cls := "AlertRowsModel", name := "thrown", desc := "()I" } : Jvm.MethodName) ({ cls := "AlertRowsModel", name := "thrown", desc := "()I" } : Jvm.MethodName)) ∈ zTB := List.mem_filter.mpr ⟨List.mem_append_right _ (List.mem_append_right _ (List.mem_append_right _ (List.mem_append_right _ (List.mem_of_getElem? (i := 9) (by decide +kernel))))), by decide +kernel⟩
theorem t_730 : (Jvm.Cond.code ({ cls := "AlertRowsModel", name := "thrown", desc := "()I" } : Jvm.MethodName) prog_6_method_2_code (1 : Nat) (Option.some Jvm.ClassFile.FieldType.int)) ∈ zTB := List.mem_filter.mpr ⟨List.mem_append_right _ (List.mem_append_right _ (List.mem_append_right _ (List.mem_append_right _ (List.mem_of_getElem? (i := 10) (by decide +kernel))))), by decide +kernel⟩
theorem t_731 : (Jvm.Cond.methodLink "AlertRowsLaw" (76 : Nat) ({ cls := "AlertRowsModel", name := "group", desc := "(II)I" } : Jvm.MethodName)) ∈ zTB := List.mem_filter.mpr ⟨List.mem_append_right _ (List.mem_append_right _ (List.mem_append_right _ (List.mem_append_right _ (List.mem_of_getElem? (i := 11) (by decide +kernel))))), by decide +kernel⟩
theorem t_732 : (Jvm.Cond.instanceMethod ({ cls := "AlertRowsModel", name := "group", desc := "(II)I" } : Jvm.MethodName)) ∈ zTB := List.mem_filter.mpr ⟨List.mem_append_right _ (List.mem_append_right _ (List.mem_append_right _ (List.mem_append_right _ (List.mem_of_getElem? (i := 12) (by decide +kernel))))), by decide +kernel⟩
theorem t_733 : (Jvm.Cond.selects "AlertRowsModel" ({ cls := "AlertRowsModel", name := "group", desc := "(II)I" } : Jvm.MethodName) ({ cls := "AlertRowsModel", name := "group", desc := "(II)I" } : Jvm.MethodName)) ∈ zTB := List.mem_filter.mpr ⟨List.mem_append_right _ (List.mem_append_right _ (List.mem_append_right _ (List.mem_append_right _ (List.mem_of_getElem? (i := 13) (by decide +kernel))))), by decide +kernel⟩
theorem t_734 : (Jvm.Cond.code ({ cls := "AlertRowsModel", name := "group", desc := "(II)I" } : Jvm.MethodName) prog_6_method_8_code (3 : Nat) (Option.some Jvm.ClassFile.FieldType.int)) ∈ zTB := List.mem_filter.mpr ⟨List.mem_append_right _ (List.mem_append_right _ (List.mem_append_right _ (List.mem_append_right _ (List.mem_of_getElem? (i := 14) (by decide +kernel))))), by decide +kernel⟩
theorem t_735 : (Jvm.Cond.methodLink "AlertRowsModel" (69 : Nat) ({ cls := "AlertRowsModel", name := "in", desc := "(III)Z" } : Jvm.MethodName)) ∈ zTB := List.mem_filter.mpr ⟨List.mem_append_right _ (List.mem_append_right _ (List.mem_append_right _ (List.mem_append_right _ (List.mem_of_getElem? (i := 15) (by decide +kernel))))), by decide +kernel⟩
theorem t_736 : (Jvm.Cond.static ({ cls := "AlertRowsModel", name := "in", desc := "(III)Z" } : Jvm.MethodName)) ∈ zTB := List.mem_filter.mpr ⟨List.mem_append_right _ (List.mem_append_right _ (List.mem_append_right _ (List.mem_append_right _ (List.mem_of_getElem? (i := 16) (by decide +kernel))))), by decide +kernel⟩
theorem t_737 : (Jvm.Cond.code ({ cls := "AlertRowsModel", name := "in", desc := "(III)Z" } : Jvm.MethodName) prog_6_method_3_code (3 : Nat) (Option.some Jvm.ClassFile.FieldType.boolean)) ∈ zTB := List.mem_filter.mpr ⟨List.mem_append_right _ (List.mem_append_right _ (List.mem_append_right _ (List.mem_append_right _ (List.mem_of_getElem? (i := 17) (by decide +kernel))))), by decide +kernel⟩
theorem t_738 : (Jvm.Cond.methodLink "AlertRowsModel" (79 : Nat) ({ cls := "AlertRowsModel", name := "goes", desc := "(ZZZ)Z" } : Jvm.MethodName)) ∈ zTB := List.mem_filter.mpr ⟨List.mem_append_right _ (List.mem_append_right _ (List.mem_append_right _ (List.mem_append_right _ (List.mem_of_getElem? (i := 18) (by decide +kernel))))), by decide +kernel⟩
theorem t_740 : (Jvm.Cond.instanceMethod ({ cls := "AlertRowsModel", name := "goes", desc := "(ZZZ)Z" } : Jvm.MethodName)) ∈ zTB := List.mem_filter.mpr ⟨List.mem_append_right _ (List.mem_append_right _ (List.mem_append_right _ (List.mem_append_right _ (List.mem_of_getElem? (i := 20) (by decide +kernel))))), by decide +kernel⟩
theorem t_741 : (Jvm.Cond.code ({ cls := "AlertRowsModel", name := "goes", desc := "(ZZZ)Z" } : Jvm.MethodName) prog_6_method_4_code (4 : Nat) (Option.some Jvm.ClassFile.FieldType.boolean)) ∈ zTB := List.mem_filter.mpr ⟨List.mem_append_right _ (List.mem_append_right _ (List.mem_append_right _ (List.mem_append_right _ (List.mem_of_getElem? (i := 21) (by decide +kernel))))), by decide +kernel⟩
theorem t_742 : (Jvm.Cond.methodLink "AlertRowsLaw" (84 : Nat) ({ cls := "AlertRowsModel", name := "next", desc := "(II)V" } : Jvm.MethodName)) ∈ zTB := List.mem_filter.mpr ⟨List.mem_append_right _ (List.mem_append_right _ (List.mem_append_right _ (List.mem_append_right _ (List.mem_of_getElem? (i := 22) (by decide +kernel))))), by decide +kernel⟩
theorem t_743 : (Jvm.Cond.instanceMethod ({ cls := "AlertRowsModel", name := "next", desc := "(II)V" } : Jvm.MethodName)) ∈ zTB := List.mem_filter.mpr ⟨List.mem_append_right _ (List.mem_append_right _ (List.mem_append_right _ (List.mem_append_right _ (List.mem_of_getElem? (i := 23) (by decide +kernel))))), by decide +kernel⟩
theorem t_744 : (Jvm.Cond.selects "AlertRowsModel" ({ cls := "AlertRowsModel", name := "next", desc := "(II)V" } : Jvm.MethodName) ({ cls := "AlertRowsModel", name := "next", desc := "(II)V" } : Jvm.MethodName)) ∈ zTB := List.mem_filter.mpr ⟨List.mem_append_right _ (List.mem_append_right _ (List.mem_append_right _ (List.mem_append_right _ (List.mem_of_getElem? (i := 24) (by decide +kernel))))), by decide +kernel⟩
theorem t_745 : (Jvm.Cond.code ({ cls := "AlertRowsModel", name := "next", desc := "(II)V" } : Jvm.MethodName) prog_6_method_9_code (3 : Nat) (Option.none : Option Jvm.ClassFile.FieldType)) ∈ zTB := List.mem_filter.mpr ⟨List.mem_append_right _ (List.mem_append_right _ (List.mem_append_right _ (List.mem_append_right _ (List.mem_of_getElem? (i := 25) (by decide +kernel))))), by decide +kernel⟩
theorem t_746 : (Jvm.Cond.methodLink "AlertRowsModel" (83 : Nat) ({ cls := "AlertRowsModel", name := "isGroup", desc := "(I)Z" } : Jvm.MethodName)) ∈ zTB := List.mem_filter.mpr ⟨List.mem_append_right _ (List.mem_append_right _ (List.mem_append_right _ (List.mem_append_right _ (List.mem_of_getElem? (i := 26) (by decide +kernel))))), by decide +kernel⟩
theorem t_748 : (Jvm.Cond.instanceMethod ({ cls := "AlertRowsModel", name := "isGroup", desc := "(I)Z" } : Jvm.MethodName)) ∈ zTB := List.mem_filter.mpr ⟨List.mem_append_right _ (List.mem_append_right _ (List.mem_append_right _ (List.mem_append_right _ (List.mem_of_getElem? (i := 28) (by decide +kernel))))), by decide +kernel⟩
theorem t_749 : (Jvm.Cond.code ({ cls := "AlertRowsModel", name := "isGroup", desc := "(I)Z" } : Jvm.MethodName) prog_6_method_5_code (2 : Nat) (Option.some Jvm.ClassFile.FieldType.boolean)) ∈ zTB := List.mem_filter.mpr ⟨List.mem_append_right _ (List.mem_append_right _ (List.mem_append_right _ (List.mem_append_right _ (List.mem_of_getElem? (i := 29) (by decide +kernel))))), by decide +kernel⟩
theorem t_750 : (Jvm.Cond.methodLink "AlertRowsLaw" (88 : Nat) ({ cls := "AlertRowsModel", name := "person", desc := "(I)I" } : Jvm.MethodName)) ∈ zTB := List.mem_filter.mpr ⟨List.mem_append_right _ (List.mem_append_right _ (List.mem_append_right _ (List.mem_append_right _ (List.mem_of_getElem? (i := 30) (by decide +kernel))))), by decide +kernel⟩
theorem t_751 : (Jvm.Cond.instanceMethod ({ cls := "AlertRowsModel", name := "person", desc := "(I)I" } : Jvm.MethodName)) ∈ zTB := List.mem_filter.mpr ⟨List.mem_append_right _ (List.mem_append_right _ (List.mem_append_right _ (List.mem_append_right _ (List.mem_of_getElem? (i := 31) (by decide +kernel))))), by decide +kernel⟩
theorem t_752 : (Jvm.Cond.selects "AlertRowsModel" ({ cls := "AlertRowsModel", name := "person", desc := "(I)I" } : Jvm.MethodName) ({ cls := "AlertRowsModel", name := "person", desc := "(I)I" } : Jvm.MethodName)) ∈ zTB := List.mem_filter.mpr ⟨List.mem_append_right _ (List.mem_append_right _ (List.mem_append_right _ (List.mem_append_right _ (List.mem_of_getElem? (i := 32) (by decide +kernel))))), by decide +kernel⟩
theorem t_753 : (Jvm.Cond.code ({ cls := "AlertRowsModel", name := "person", desc := "(I)I" } : Jvm.MethodName) prog_6_method_10_code (2 : Nat) (Option.some Jvm.ClassFile.FieldType.int)) ∈ zTB := List.mem_filter.mpr ⟨List.mem_append_right _ (List.mem_append_right _ (List.mem_append_right _ (List.mem_append_right _ (List.mem_of_getElem? (i := 33) (by decide +kernel))))), by decide +kernel⟩
theorem t_754 : (Jvm.Cond.methodLink "AlertRowsLaw" (92 : Nat) ({ cls := "AlertRowsModel", name := "way", desc := "(IIZ)I" } : Jvm.MethodName)) ∈ zTB := List.mem_filter.mpr ⟨List.mem_append_right _ (List.mem_append_right _ (List.mem_append_right _ (List.mem_append_right _ (List.mem_of_getElem? (i := 34) (by decide +kernel))))), by decide +kernel⟩
theorem t_755 : (Jvm.Cond.instanceMethod ({ cls := "AlertRowsModel", name := "way", desc := "(IIZ)I" } : Jvm.MethodName)) ∈ zTB := List.mem_filter.mpr ⟨List.mem_append_right _ (List.mem_append_right _ (List.mem_append_right _ (List.mem_append_right _ (List.mem_of_getElem? (i := 35) (by decide +kernel))))), by decide +kernel⟩
theorem t_756 : (Jvm.Cond.selects "AlertRowsModel" ({ cls := "AlertRowsModel", name := "way", desc := "(IIZ)I" } : Jvm.MethodName) ({ cls := "AlertRowsModel", name := "way", desc := "(IIZ)I" } : Jvm.MethodName)) ∈ zTB := List.mem_filter.mpr ⟨List.mem_append_right _ (List.mem_append_right _ (List.mem_append_right _ (List.mem_append_right _ (List.mem_of_getElem? (i := 36) (by decide +kernel))))), by decide +kernel⟩
theorem t_757 : (Jvm.Cond.code ({ cls := "AlertRowsModel", name := "way", desc := "(IIZ)I" } : Jvm.MethodName) prog_6_method_11_code (5 : Nat) (Option.some Jvm.ClassFile.FieldType.int)) ∈ zTB := List.mem_filter.mpr ⟨List.mem_append_right _ (List.mem_append_right _ (List.mem_append_right _ (List.mem_append_right _ (List.mem_of_getElem? (i := 37) (by decide +kernel))))), by decide +kernel⟩
theorem t_758 : (Jvm.Cond.methodLink "AlertRowsModel" (87 : Nat) ({ cls := "AlertRowsModel", name := "isPerson", desc := "(I)Z" } : Jvm.MethodName)) ∈ zTB := List.mem_filter.mpr ⟨List.mem_append_right _ (List.mem_append_right _ (List.mem_append_right _ (List.mem_append_right _ (List.mem_of_getElem? (i := 38) (by decide +kernel))))), by decide +kernel⟩
theorem t_760 : (Jvm.Cond.instanceMethod ({ cls := "AlertRowsModel", name := "isPerson", desc := "(I)Z" } : Jvm.MethodName)) ∈ zTB := List.mem_filter.mpr ⟨List.mem_append_right _ (List.mem_append_right _ (List.mem_append_right _ (List.mem_append_right _ (List.mem_of_getElem? (i := 40) (by decide +kernel))))), by decide +kernel⟩
theorem t_761 : (Jvm.Cond.code ({ cls := "AlertRowsModel", name := "isPerson", desc := "(I)Z" } : Jvm.MethodName) prog_6_method_6_code (2 : Nat) (Option.some Jvm.ClassFile.FieldType.boolean)) ∈ zTB := List.mem_filter.mpr ⟨List.mem_append_right _ (List.mem_append_right _ (List.mem_append_right _ (List.mem_append_right _ (List.mem_of_getElem? (i := 41) (by decide +kernel))))), by decide +kernel⟩
theorem t_762 : (Jvm.Cond.methodLink "AlertRowsLaw" (95 : Nat) ({ cls := "AlertRowsModel", name := "is", desc := "(II)V" } : Jvm.MethodName)) ∈ zTB := List.mem_filter.mpr ⟨List.mem_append_right _ (List.mem_append_right _ (List.mem_append_right _ (List.mem_append_right _ (List.mem_of_getElem? (i := 42) (by decide +kernel))))), by decide +kernel⟩
theorem t_763 : (Jvm.Cond.instanceMethod ({ cls := "AlertRowsModel", name := "is", desc := "(II)V" } : Jvm.MethodName)) ∈ zTB := List.mem_filter.mpr ⟨List.mem_append_right _ (List.mem_append_right _ (List.mem_append_right _ (List.mem_append_right _ (List.mem_of_getElem? (i := 43) (by decide +kernel))))), by decide +kernel⟩
theorem t_764 : (Jvm.Cond.selects "AlertRowsModel" ({ cls := "AlertRowsModel", name := "is", desc := "(II)V" } : Jvm.MethodName) ({ cls := "AlertRowsModel", name := "is", desc := "(II)V" } : Jvm.MethodName)) ∈ zTB := List.mem_filter.mpr ⟨List.mem_append_right _ (List.mem_append_right _ (List.mem_append_right _ (List.mem_append_right _ (List.mem_of_getElem? (i := 44) (by decide +kernel))))), by decide +kernel⟩
theorem t_765 : (Jvm.Cond.code ({ cls := "AlertRowsModel", name := "is", desc := "(II)V" } : Jvm.MethodName) prog_6_method_12_code (3 : Nat) (Option.none : Option Jvm.ClassFile.FieldType)) ∈ zTB := List.mem_filter.mpr ⟨List.mem_append_right _ (List.mem_append_right _ (List.mem_append_right _ (List.mem_append_right _ (List.mem_of_getElem? (i := 45) (by decide +kernel))))), by decide +kernel⟩
theorem t_766 : (Jvm.Cond.methodLink "AlertRowsLaw" (99 : Nat) ({ cls := "AlertRowsModel", name := "alarm", desc := "(IZ)I" } : Jvm.MethodName)) ∈ zTB := List.mem_filter.mpr ⟨List.mem_append_right _ (List.mem_append_right _ (List.mem_append_right _ (List.mem_append_right _ (List.mem_of_getElem? (i := 46) (by decide +kernel))))), by decide +kernel⟩
theorem t_767 : (Jvm.Cond.instanceMethod ({ cls := "AlertRowsModel", name := "alarm", desc := "(IZ)I" } : Jvm.MethodName)) ∈ zTB := List.mem_filter.mpr ⟨List.mem_append_right _ (List.mem_append_right _ (List.mem_append_right _ (List.mem_append_right _ (List.mem_of_getElem? (i := 47) (by decide +kernel))))), by decide +kernel⟩
theorem t_768 : (Jvm.Cond.selects "AlertRowsModel" ({ cls := "AlertRowsModel", name := "alarm", desc := "(IZ)I" } : Jvm.MethodName) ({ cls := "AlertRowsModel", name := "alarm", desc := "(IZ)I" } : Jvm.MethodName)) ∈ zTB := List.mem_filter.mpr ⟨List.mem_append_right _ (List.mem_append_right _ (List.mem_append_right _ (List.mem_append_right _ (List.mem_of_getElem? (i := 48) (by decide +kernel))))), by decide +kernel⟩
theorem t_769 : (Jvm.Cond.code ({ cls := "AlertRowsModel", name := "alarm", desc := "(IZ)I" } : Jvm.MethodName) prog_6_method_16_code (3 : Nat) (Option.some Jvm.ClassFile.FieldType.int)) ∈ zTB := List.mem_filter.mpr ⟨List.mem_append_right _ (List.mem_append_right _ (List.mem_append_right _ (List.mem_append_right _ (List.mem_of_getElem? (i := 49) (by decide +kernel))))), by decide +kernel⟩
theorem t_770 : (Jvm.Cond.methodLink "AlertRowsModel" (97 : Nat) ({ cls := "AlertRowsModel", name := "asksAny", desc := "(IZ)Z" } : Jvm.MethodName)) ∈ zTB := List.mem_filter.mpr ⟨List.mem_append_right _ (List.mem_append_right _ (List.mem_append_right _ (List.mem_append_right _ (List.mem_of_getElem? (i := 50) (by decide +kernel))))), by decide +kernel⟩
theorem t_772 : (Jvm.Cond.instanceMethod ({ cls := "AlertRowsModel", name := "asksAny", desc := "(IZ)Z" } : Jvm.MethodName)) ∈ zTB := List.mem_filter.mpr ⟨List.mem_append_right _ (List.mem_append_right _ (List.mem_append_right _ (List.mem_append_right _ (List.mem_of_getElem? (i := 52) (by decide +kernel))))), by decide +kernel⟩
theorem t_773 : (Jvm.Cond.code ({ cls := "AlertRowsModel", name := "asksAny", desc := "(IZ)Z" } : Jvm.MethodName) prog_6_method_14_code (4 : Nat) (Option.some Jvm.ClassFile.FieldType.boolean)) ∈ zTB := List.mem_filter.mpr ⟨List.mem_append_right _ (List.mem_append_right _ (List.mem_append_right _ (List.mem_append_right _ (List.mem_of_getElem? (i := 53) (by decide +kernel))))), by decide +kernel⟩
theorem t_774 : (Jvm.Cond.methodLink "AlertRowsModel" (90 : Nat) ({ cls := "AlertRowsModel", name := "asks", desc := "(IZI)Z" } : Jvm.MethodName)) ∈ zTB := List.mem_filter.mpr ⟨List.mem_append_right _ (List.mem_append_right _ (List.mem_append_right _ (List.mem_append_right _ (List.mem_of_getElem? (i := 54) (by decide +kernel))))), by decide +kernel⟩
theorem t_776 : (Jvm.Cond.instanceMethod ({ cls := "AlertRowsModel", name := "asks", desc := "(IZI)Z" } : Jvm.MethodName)) ∈ zTB := List.mem_filter.mpr ⟨List.mem_append_right _ (List.mem_append_right _ (List.mem_append_right _ (List.mem_append_right _ (List.mem_of_getElem? (i := 56) (by decide +kernel))))), by decide +kernel⟩
theorem t_777 : (Jvm.Cond.code ({ cls := "AlertRowsModel", name := "asks", desc := "(IZI)Z" } : Jvm.MethodName) prog_6_method_13_code (4 : Nat) (Option.some Jvm.ClassFile.FieldType.boolean)) ∈ zTB := List.mem_filter.mpr ⟨List.mem_append_right _ (List.mem_append_right _ (List.mem_append_right _ (List.mem_append_right _ (List.mem_of_getElem? (i := 57) (by decide +kernel))))), by decide +kernel⟩
theorem t_778 : (Jvm.Cond.methodLink "AlertRowsModel" (101 : Nat) ({ cls := "AlertRowsModel", name := "begin", desc := "(IZI)V" } : Jvm.MethodName)) ∈ zTB := List.mem_filter.mpr ⟨List.mem_append_right _ (List.mem_append_right _ (List.mem_append_right _ (List.mem_append_right _ (List.mem_of_getElem? (i := 58) (by decide +kernel))))), by decide +kernel⟩
theorem t_780 : (Jvm.Cond.instanceMethod ({ cls := "AlertRowsModel", name := "begin", desc := "(IZI)V" } : Jvm.MethodName)) ∈ zTB := List.mem_filter.mpr ⟨List.mem_append_right _ (List.mem_append_right _ (List.mem_append_right _ (List.mem_append_right _ (List.mem_of_getElem? (i := 60) (by decide +kernel))))), by decide +kernel⟩
theorem t_781 : (Jvm.Cond.code ({ cls := "AlertRowsModel", name := "begin", desc := "(IZI)V" } : Jvm.MethodName) prog_6_method_15_code (7 : Nat) (Option.none : Option Jvm.ClassFile.FieldType)) ∈ zTB := List.mem_filter.mpr ⟨List.mem_append_right _ (List.mem_append_right _ (List.mem_append_right _ (List.mem_append_right _ (List.mem_of_getElem? (i := 61) (by decide +kernel))))), by decide +kernel⟩
theorem t_782 : (Jvm.Cond.methodLink "AlertRowsLaw" (103 : Nat) ({ cls := "AlertRowsModel", name := "answer", desc := "(III)I" } : Jvm.MethodName)) ∈ zTB := List.mem_filter.mpr ⟨List.mem_append_right _ (List.mem_append_right _ (List.mem_append_right _ (List.mem_append_right _ (List.mem_of_getElem? (i := 62) (by decide +kernel))))), by decide +kernel⟩
theorem t_783 : (Jvm.Cond.instanceMethod ({ cls := "AlertRowsModel", name := "answer", desc := "(III)I" } : Jvm.MethodName)) ∈ zTB := List.mem_filter.mpr ⟨List.mem_append_right _ (List.mem_append_right _ (List.mem_append_right _ (List.mem_append_right _ (List.mem_of_getElem? (i := 63) (by decide +kernel))))), by decide +kernel⟩
theorem t_784 : (Jvm.Cond.selects "AlertRowsModel" ({ cls := "AlertRowsModel", name := "answer", desc := "(III)I" } : Jvm.MethodName) ({ cls := "AlertRowsModel", name := "answer", desc := "(III)I" } : Jvm.MethodName)) ∈ zTB := List.mem_filter.mpr ⟨List.mem_append_right _ (List.mem_append_right _ (List.mem_append_right _ (List.mem_append_right _ (List.mem_of_getElem? (i := 64) (by decide +kernel))))), by decide +kernel⟩
theorem t_785 : (Jvm.Cond.code ({ cls := "AlertRowsModel", name := "answer", desc := "(III)I" } : Jvm.MethodName) prog_6_method_19_code (7 : Nat) (Option.some Jvm.ClassFile.FieldType.int)) ∈ zTB := List.mem_filter.mpr ⟨List.mem_append_right _ (List.mem_append_right _ (List.mem_append_right _ (List.mem_append_right _ (List.mem_of_getElem? (i := 65) (by decide +kernel))))), by decide +kernel⟩
theorem t_786 : (Jvm.Cond.methodLink "AlertRowsModel" (109 : Nat) ({ cls := "AlertRowsModel", name := "isAlarm", desc := "(I)Z" } : Jvm.MethodName)) ∈ zTB := List.mem_filter.mpr ⟨List.mem_append_right _ (List.mem_append_right _ (List.mem_append_right _ (List.mem_append_right _ (List.mem_of_getElem? (i := 66) (by decide +kernel))))), by decide +kernel⟩
theorem t_788 : (Jvm.Cond.instanceMethod ({ cls := "AlertRowsModel", name := "isAlarm", desc := "(I)Z" } : Jvm.MethodName)) ∈ zTB := List.mem_filter.mpr ⟨List.mem_append_right _ (List.mem_append_right _ (List.mem_append_right _ (List.mem_append_right _ (List.mem_of_getElem? (i := 68) (by decide +kernel))))), by decide +kernel⟩
theorem t_789 : (Jvm.Cond.code ({ cls := "AlertRowsModel", name := "isAlarm", desc := "(I)Z" } : Jvm.MethodName) prog_6_method_7_code (2 : Nat) (Option.some Jvm.ClassFile.FieldType.boolean)) ∈ zTB := List.mem_filter.mpr ⟨List.mem_append_right _ (List.mem_append_right _ (List.mem_append_right _ (List.mem_append_right _ (List.mem_of_getElem? (i := 69) (by decide +kernel))))), by decide +kernel⟩
theorem t_790 : (Jvm.Cond.methodLink "AlertRowsModel" (105 : Nat) ({ cls := "AlertRowsModel", name := "isReached", desc := "(II)Z" } : Jvm.MethodName)) ∈ zTB := List.mem_filter.mpr ⟨List.mem_append_right _ (List.mem_append_right _ (List.mem_append_right _ (List.mem_append_right _ (List.mem_of_getElem? (i := 70) (by decide +kernel))))), by decide +kernel⟩
theorem t_792 : (Jvm.Cond.instanceMethod ({ cls := "AlertRowsModel", name := "isReached", desc := "(II)Z" } : Jvm.MethodName)) ∈ zTB := List.mem_filter.mpr ⟨List.mem_append_right _ (List.mem_append_right _ (List.mem_append_right _ (List.mem_append_right _ (List.mem_of_getElem? (i := 72) (by decide +kernel))))), by decide +kernel⟩
theorem t_793 : (Jvm.Cond.code ({ cls := "AlertRowsModel", name := "isReached", desc := "(II)Z" } : Jvm.MethodName) prog_6_method_17_code (3 : Nat) (Option.some Jvm.ClassFile.FieldType.boolean)) ∈ zTB := List.mem_filter.mpr ⟨List.mem_append_right _ (List.mem_append_right _ (List.mem_append_right _ (List.mem_append_right _ (List.mem_of_getElem? (i := 73) (by decide +kernel))))), by decide +kernel⟩
theorem t_794 : (Jvm.Cond.methodLink "AlertRowsModel" (112 : Nat) ({ cls := "AlertRowsModel", name := "isThere", desc := "(II)Z" } : Jvm.MethodName)) ∈ zTB := List.mem_filter.mpr ⟨List.mem_append_right _ (List.mem_append_right _ (List.mem_append_right _ (List.mem_append_right _ (List.mem_of_getElem? (i := 74) (by decide +kernel))))), by decide +kernel⟩
theorem t_796 : (Jvm.Cond.instanceMethod ({ cls := "AlertRowsModel", name := "isThere", desc := "(II)Z" } : Jvm.MethodName)) ∈ zTB := List.mem_filter.mpr ⟨List.mem_append_right _ (List.mem_append_right _ (List.mem_append_right _ (List.mem_append_right _ (List.mem_of_getElem? (i := 76) (by decide +kernel))))), by decide +kernel⟩
theorem t_797 : (Jvm.Cond.code ({ cls := "AlertRowsModel", name := "isThere", desc := "(II)Z" } : Jvm.MethodName) prog_6_method_18_code (3 : Nat) (Option.some Jvm.ClassFile.FieldType.boolean)) ∈ zTB := List.mem_filter.mpr ⟨List.mem_append_right _ (List.mem_append_right _ (List.mem_append_right _ (List.mem_append_right _ (List.mem_of_getElem? (i := 77) (by decide +kernel))))), by decide +kernel⟩
theorem t_798 : (Jvm.Cond.methodLink "AlertRowsLaw" (106 : Nat) ({ cls := "AlertRowsModel", name := "tick", desc := "(I)I" } : Jvm.MethodName)) ∈ zTB := List.mem_filter.mpr ⟨List.mem_append_right _ (List.mem_append_right _ (List.mem_append_right _ (List.mem_append_right _ (List.mem_of_getElem? (i := 78) (by decide +kernel))))), by decide +kernel⟩
theorem t_799 : (Jvm.Cond.instanceMethod ({ cls := "AlertRowsModel", name := "tick", desc := "(I)I" } : Jvm.MethodName)) ∈ zTB := List.mem_filter.mpr ⟨List.mem_append_right _ (List.mem_append_right _ (List.mem_append_right _ (List.mem_append_right _ (List.mem_of_getElem? (i := 79) (by decide +kernel))))), by decide +kernel⟩
theorem t_800 : (Jvm.Cond.selects "AlertRowsModel" ({ cls := "AlertRowsModel", name := "tick", desc := "(I)I" } : Jvm.MethodName) ({ cls := "AlertRowsModel", name := "tick", desc := "(I)I" } : Jvm.MethodName)) ∈ zTB := List.mem_filter.mpr ⟨List.mem_append_right _ (List.mem_append_right _ (List.mem_append_right _ (List.mem_append_right _ (List.mem_of_getElem? (i := 80) (by decide +kernel))))), by decide +kernel⟩
theorem t_801 : (Jvm.Cond.code ({ cls := "AlertRowsModel", name := "tick", desc := "(I)I" } : Jvm.MethodName) prog_6_method_21_code (6 : Nat) (Option.some Jvm.ClassFile.FieldType.int)) ∈ zTB := List.mem_filter.mpr ⟨List.mem_append_right _ (List.mem_append_right _ (List.mem_append_right _ (List.mem_append_right _ (List.mem_of_getElem? (i := 81) (by decide +kernel))))), by decide +kernel⟩
theorem t_802 : (Jvm.Cond.constant "AlertRowsModel" (121 : Nat) (999999 : Int32)) ∈ zTB := List.mem_filter.mpr ⟨List.mem_append_right _ (List.mem_append_right _ (List.mem_append_right _ (List.mem_append_right _ (List.mem_of_getElem? (i := 82) (by decide +kernel))))), by decide +kernel⟩
theorem t_803 : (Jvm.Cond.methodLink "AlertRowsModel" (125 : Nat) ({ cls := "AlertRowsModel", name := "many", desc := "(II)I" } : Jvm.MethodName)) ∈ zTB := List.mem_filter.mpr ⟨List.mem_append_right _ (List.mem_append_right _ (List.mem_append_right _ (List.mem_append_right _ (List.mem_of_getElem? (i := 83) (by decide +kernel))))), by decide +kernel⟩
theorem t_805 : (Jvm.Cond.instanceMethod ({ cls := "AlertRowsModel", name := "many", desc := "(II)I" } : Jvm.MethodName)) ∈ zTB := List.mem_filter.mpr ⟨List.mem_append_right _ (List.mem_append_right _ (List.mem_append_right _ (List.mem_append_right _ (List.mem_of_getElem? (i := 85) (by decide +kernel))))), by decide +kernel⟩
theorem t_806 : (Jvm.Cond.code ({ cls := "AlertRowsModel", name := "many", desc := "(II)I" } : Jvm.MethodName) prog_6_method_20_code (6 : Nat) (Option.some Jvm.ClassFile.FieldType.int)) ∈ zTB := List.mem_filter.mpr ⟨List.mem_append_right _ (List.mem_append_right _ (List.mem_append_right _ (List.mem_append_right _ (List.mem_of_getElem? (i := 86) (by decide +kernel))))), by decide +kernel⟩
theorem t_807 : (Jvm.Cond.methodLink "AlertRowsLaw" (109 : Nat) ({ cls := "AlertRowsModel", name := "alarmAt", desc := "(II)I" } : Jvm.MethodName)) ∈ zTB := List.mem_filter.mpr ⟨List.mem_append_right _ (List.mem_append_right _ (List.mem_append_right _ (List.mem_append_right _ (List.mem_of_getElem? (i := 87) (by decide +kernel))))), by decide +kernel⟩
theorem t_808 : (Jvm.Cond.instanceMethod ({ cls := "AlertRowsModel", name := "alarmAt", desc := "(II)I" } : Jvm.MethodName)) ∈ zTB := List.mem_filter.mpr ⟨List.mem_append_right _ (List.mem_append_right _ (List.mem_append_right _ (List.mem_append_right _ (List.mem_of_getElem? (i := 88) (by decide +kernel))))), by decide +kernel⟩
theorem t_809 : (Jvm.Cond.selects "AlertRowsModel" ({ cls := "AlertRowsModel", name := "alarmAt", desc := "(II)I" } : Jvm.MethodName) ({ cls := "AlertRowsModel", name := "alarmAt", desc := "(II)I" } : Jvm.MethodName)) ∈ zTB := List.mem_filter.mpr ⟨List.mem_append_right _ (List.mem_append_right _ (List.mem_append_right _ (List.mem_append_right _ (List.mem_of_getElem? (i := 89) (by decide +kernel))))), by decide +kernel⟩
theorem t_810 : (Jvm.Cond.code ({ cls := "AlertRowsModel", name := "alarmAt", desc := "(II)I" } : Jvm.MethodName) prog_6_method_22_code (3 : Nat) (Option.some Jvm.ClassFile.FieldType.int)) ∈ zTB := List.mem_filter.mpr ⟨List.mem_append_right _ (List.mem_append_right _ (List.mem_append_right _ (List.mem_append_right _ (List.mem_of_getElem? (i := 90) (by decide +kernel))))), by decide +kernel⟩
theorem t_811 : (Jvm.Cond.methodLink "AlertRowsLaw" (112 : Nat) ({ cls := "AlertRowsModel", name := "comes", desc := "(II)I" } : Jvm.MethodName)) ∈ zTB := List.mem_filter.mpr ⟨List.mem_append_right _ (List.mem_append_right _ (List.mem_append_right _ (List.mem_append_right _ (List.mem_of_getElem? (i := 91) (by decide +kernel))))), by decide +kernel⟩
theorem t_812 : (Jvm.Cond.instanceMethod ({ cls := "AlertRowsModel", name := "comes", desc := "(II)I" } : Jvm.MethodName)) ∈ zTB := List.mem_filter.mpr ⟨List.mem_append_right _ (List.mem_append_right _ (List.mem_append_right _ (List.mem_append_right _ (List.mem_of_getElem? (i := 92) (by decide +kernel))))), by decide +kernel⟩
theorem t_813 : (Jvm.Cond.selects "AlertRowsModel" ({ cls := "AlertRowsModel", name := "comes", desc := "(II)I" } : Jvm.MethodName) ({ cls := "AlertRowsModel", name := "comes", desc := "(II)I" } : Jvm.MethodName)) ∈ zTB := List.mem_filter.mpr ⟨List.mem_append_right _ (List.mem_append_right _ (List.mem_append_right _ (List.mem_append_right _ (List.mem_of_getElem? (i := 93) (by decide +kernel))))), by decide +kernel⟩
theorem t_814 : (Jvm.Cond.code ({ cls := "AlertRowsModel", name := "comes", desc := "(II)I" } : Jvm.MethodName) prog_6_method_23_code (9 : Nat) (Option.some Jvm.ClassFile.FieldType.int)) ∈ zTB := List.mem_filter.mpr ⟨List.mem_append_right _ (List.mem_append_right _ (List.mem_append_right _ (List.mem_append_right _ (List.mem_of_getElem? (i := 94) (by decide +kernel))))), by decide +kernel⟩
theorem t_815 : (Jvm.Cond.methodLink "AlertRowsLaw" (115 : Nat) ({ cls := "AlertRowsModel", name := "reached", desc := "(II)I" } : Jvm.MethodName)) ∈ zTB := List.mem_filter.mpr ⟨List.mem_append_right _ (List.mem_append_right _ (List.mem_append_right _ (List.mem_append_right _ (List.mem_of_getElem? (i := 95) (by decide +kernel))))), by decide +kernel⟩
theorem t_816 : (Jvm.Cond.instanceMethod ({ cls := "AlertRowsModel", name := "reached", desc := "(II)I" } : Jvm.MethodName)) ∈ zTB := List.mem_filter.mpr ⟨List.mem_append_right _ (List.mem_append_right _ (List.mem_append_right _ (List.mem_append_right _ (List.mem_of_getElem? (i := 96) (by decide +kernel))))), by decide +kernel⟩
theorem t_817 : (Jvm.Cond.selects "AlertRowsModel" ({ cls := "AlertRowsModel", name := "reached", desc := "(II)I" } : Jvm.MethodName) ({ cls := "AlertRowsModel", name := "reached", desc := "(II)I" } : Jvm.MethodName)) ∈ zTB := List.mem_filter.mpr ⟨List.mem_append_right _ (List.mem_append_right _ (List.mem_append_right _ (List.mem_append_right _ (List.mem_of_getElem? (i := 97) (by decide +kernel))))), by decide +kernel⟩
theorem t_818 : (Jvm.Cond.code ({ cls := "AlertRowsModel", name := "reached", desc := "(II)I" } : Jvm.MethodName) prog_6_method_24_code (3 : Nat) (Option.some Jvm.ClassFile.FieldType.int)) ∈ zTB := List.mem_filter.mpr ⟨List.mem_append_right _ (List.mem_append_right _ (List.mem_append_right _ (List.mem_append_right _ (List.mem_of_getElem? (i := 98) (by decide +kernel))))), by decide +kernel⟩
theorem t_819 : (Jvm.Cond.methodLink "AlertRowsLaw" (118 : Nat) ({ cls := "AlertRowsModel", name := "share", desc := "(II)I" } : Jvm.MethodName)) ∈ zTB := List.mem_filter.mpr ⟨List.mem_append_right _ (List.mem_append_right _ (List.mem_append_right _ (List.mem_append_right _ (List.mem_of_getElem? (i := 99) (by decide +kernel))))), by decide +kernel⟩
theorem t_820 : (Jvm.Cond.instanceMethod ({ cls := "AlertRowsModel", name := "share", desc := "(II)I" } : Jvm.MethodName)) ∈ zTB := List.mem_filter.mpr ⟨List.mem_append_right _ (List.mem_append_right _ (List.mem_append_right _ (List.mem_append_right _ (List.mem_of_getElem? (i := 100) (by decide +kernel))))), by decide +kernel⟩
theorem t_821 : (Jvm.Cond.selects "AlertRowsModel" ({ cls := "AlertRowsModel", name := "share", desc := "(II)I" } : Jvm.MethodName) ({ cls := "AlertRowsModel", name := "share", desc := "(II)I" } : Jvm.MethodName)) ∈ zTB := List.mem_filter.mpr ⟨List.mem_append_right _ (List.mem_append_right _ (List.mem_append_right _ (List.mem_append_right _ (List.mem_of_getElem? (i := 101) (by decide +kernel))))), by decide +kernel⟩
theorem t_822 : (Jvm.Cond.code ({ cls := "AlertRowsModel", name := "share", desc := "(II)I" } : Jvm.MethodName) prog_6_method_25_code (8 : Nat) (Option.some Jvm.ClassFile.FieldType.int)) ∈ zTB := List.mem_filter.mpr ⟨List.mem_append_right _ (List.mem_append_right _ (List.mem_append_right _ (List.mem_append_right _ (List.mem_of_getElem? (i := 102) (by decide +kernel))))), by decide +kernel⟩
theorem t_823 : (Jvm.Cond.methodLink "AlertRowsLaw" (121 : Nat) ({ cls := "AlertRowsModel", name := "never", desc := "(I)I" } : Jvm.MethodName)) ∈ zTB := List.mem_filter.mpr ⟨List.mem_append_right _ (List.mem_append_right _ (List.mem_append_right _ (List.mem_append_right _ (List.mem_of_getElem? (i := 103) (by decide +kernel))))), by decide +kernel⟩
theorem t_824 : (Jvm.Cond.instanceMethod ({ cls := "AlertRowsModel", name := "never", desc := "(I)I" } : Jvm.MethodName)) ∈ zTB := List.mem_filter.mpr ⟨List.mem_append_right _ (List.mem_append_right _ (List.mem_append_right _ (List.mem_append_right _ (List.mem_of_getElem? (i := 104) (by decide +kernel))))), by decide +kernel⟩
theorem t_825 : (Jvm.Cond.selects "AlertRowsModel" ({ cls := "AlertRowsModel", name := "never", desc := "(I)I" } : Jvm.MethodName) ({ cls := "AlertRowsModel", name := "never", desc := "(I)I" } : Jvm.MethodName)) ∈ zTB := List.mem_filter.mpr ⟨List.mem_append_right _ (List.mem_append_right _ (List.mem_append_right _ (List.mem_append_right _ (List.mem_of_getElem? (i := 105) (by decide +kernel))))), by decide +kernel⟩
theorem t_826 : (Jvm.Cond.code ({ cls := "AlertRowsModel", name := "never", desc := "(I)I" } : Jvm.MethodName) prog_6_method_27_code (4 : Nat) (Option.some Jvm.ClassFile.FieldType.int)) ∈ zTB := List.mem_filter.mpr ⟨List.mem_append_right _ (List.mem_append_right _ (List.mem_append_right _ (List.mem_append_right _ (List.mem_of_getElem? (i := 106) (by decide +kernel))))), by decide +kernel⟩
theorem t_827 : (Jvm.Cond.methodLink "AlertRowsModel" (129 : Nat) ({ cls := "AlertRowsModel", name := "isSilent", desc := "(I)Z" } : Jvm.MethodName)) ∈ zTB := List.mem_filter.mpr ⟨List.mem_append_right _ (List.mem_append_right _ (List.mem_append_right _ (List.mem_append_right _ (List.mem_of_getElem? (i := 107) (by decide +kernel))))), by decide +kernel⟩
theorem t_829 : (Jvm.Cond.instanceMethod ({ cls := "AlertRowsModel", name := "isSilent", desc := "(I)Z" } : Jvm.MethodName)) ∈ zTB := List.mem_filter.mpr ⟨List.mem_append_right _ (List.mem_append_right _ (List.mem_append_right _ (List.mem_append_right _ (List.mem_of_getElem? (i := 109) (by decide +kernel))))), by decide +kernel⟩
theorem t_830 : (Jvm.Cond.code ({ cls := "AlertRowsModel", name := "isSilent", desc := "(I)Z" } : Jvm.MethodName) prog_6_method_26_code (4 : Nat) (Option.some Jvm.ClassFile.FieldType.boolean)) ∈ zTB := List.mem_filter.mpr ⟨List.mem_append_right _ (List.mem_append_right _ (List.mem_append_right _ (List.mem_append_right _ (List.mem_of_getElem? (i := 110) (by decide +kernel))))), by decide +kernel⟩
theorem t_831 : (Jvm.Cond.methodLink "AlertRowsLaw" (124 : Nat) ({ cls := "AlertRowsModel", name := "count", desc := "(I)I" } : Jvm.MethodName)) ∈ zTB := List.mem_filter.mpr ⟨List.mem_append_right _ (List.mem_append_right _ (List.mem_append_right _ (List.mem_append_right _ (List.mem_of_getElem? (i := 111) (by decide +kernel))))), by decide +kernel⟩
theorem t_832 : (Jvm.Cond.instanceMethod ({ cls := "AlertRowsModel", name := "count", desc := "(I)I" } : Jvm.MethodName)) ∈ zTB := List.mem_filter.mpr ⟨List.mem_append_right _ (List.mem_append_right _ (List.mem_append_right _ (List.mem_append_right _ (List.mem_of_getElem? (i := 112) (by decide +kernel))))), by decide +kernel⟩
theorem t_833 : (Jvm.Cond.selects "AlertRowsModel" ({ cls := "AlertRowsModel", name := "count", desc := "(I)I" } : Jvm.MethodName) ({ cls := "AlertRowsModel", name := "count", desc := "(I)I" } : Jvm.MethodName)) ∈ zTB := List.mem_filter.mpr ⟨List.mem_append_right _ (List.mem_append_right _ (List.mem_append_right _ (List.mem_append_right _ (List.mem_of_getElem? (i := 113) (by decide +kernel))))), by decide +kernel⟩
theorem t_834 : (Jvm.Cond.code ({ cls := "AlertRowsModel", name := "count", desc := "(I)I" } : Jvm.MethodName) prog_6_method_28_code (4 : Nat) (Option.some Jvm.ClassFile.FieldType.int)) ∈ zTB := List.mem_filter.mpr ⟨List.mem_append_right _ (List.mem_append_right _ (List.mem_append_right _ (List.mem_append_right _ (List.mem_of_getElem? (i := 114) (by decide +kernel))))), by decide +kernel⟩
theorem t_835 : (Jvm.Cond.arrayClass Jvm.ClassFile.FieldType.long) ∈ zTB := List.mem_filter.mpr ⟨List.mem_append_right _ (List.mem_append_right _ (List.mem_append_right _ (List.mem_append_right _ (List.mem_of_getElem? (i := 115) (by decide +kernel))))), by decide +kernel⟩
theorem t_841 : (Jvm.Cond.selects "[Ljava/lang/Object;" ({ cls := "java/lang/Object", name := "getClass", desc := "()Ljava/lang/Class;" } : Jvm.MethodName) ({ cls := "java/lang/Object", name := "getClass", desc := "()Ljava/lang/Class;" } : Jvm.MethodName)) ∈ zTB := List.mem_filter.mpr ⟨List.mem_append_right _ (List.mem_append_right _ (List.mem_append_right _ (List.mem_append_right _ (List.mem_of_getElem? (i := 121) (by decide +kernel))))), by decide +kernel⟩
theorem t_90 : (Jvm.Cond.castable "java/lang/IndexOutOfBoundsException" "java/lang/IndexOutOfBoundsException") ∈ zNW := List.mem_filter.mpr ⟨List.mem_append_right _ (List.mem_append_left _ (List.mem_of_getElem? (i := 90) (by decide +kernel))), by decide +kernel⟩
theorem t_91 : (Jvm.Cond.declares ({ cls := "java/lang/RuntimeException", name := "<init>", desc := "()V" } : Jvm.MethodName)) ∈ zNW := List.mem_filter.mpr ⟨List.mem_append_right _ (List.mem_append_left _ (List.mem_of_getElem? (i := 91) (by decide +kernel))), by decide +kernel⟩
theorem t_92 : (Jvm.Cond.declares ({ cls := "java/lang/RuntimeException", name := "<init>", desc := "(Ljava/lang/String;)V" } : Jvm.MethodName)) ∈ zNW := List.mem_filter.mpr ⟨List.mem_append_right _ (List.mem_append_left _ (List.mem_of_getElem? (i := 92) (by decide +kernel))), by decide +kernel⟩
theorem t_93 : (Jvm.Cond.declares ({ cls := "java/lang/Exception", name := "<init>", desc := "()V" } : Jvm.MethodName)) ∈ zNW := List.mem_filter.mpr ⟨List.mem_append_right _ (List.mem_append_left _ (List.mem_of_getElem? (i := 93) (by decide +kernel))), by decide +kernel⟩
theorem t_94 : (Jvm.Cond.declares ({ cls := "java/lang/Exception", name := "<init>", desc := "(Ljava/lang/String;)V" } : Jvm.MethodName)) ∈ zNW := List.mem_filter.mpr ⟨List.mem_append_right _ (List.mem_append_left _ (List.mem_of_getElem? (i := 94) (by decide +kernel))), by decide +kernel⟩
theorem t_95 : (Jvm.Cond.declares ({ cls := "java/lang/Throwable", name := "<init>", desc := "()V" } : Jvm.MethodName)) ∈ zNW := List.mem_filter.mpr ⟨List.mem_append_right _ (List.mem_append_left _ (List.mem_of_getElem? (i := 95) (by decide +kernel))), by decide +kernel⟩
theorem t_96 : (Jvm.Cond.declares ({ cls := "java/lang/Throwable", name := "<init>", desc := "(Ljava/lang/String;)V" } : Jvm.MethodName)) ∈ zNW := List.mem_filter.mpr ⟨List.mem_append_right _ (List.mem_append_left _ (List.mem_of_getElem? (i := 96) (by decide +kernel))), by decide +kernel⟩
theorem t_165 : (Jvm.Cond.castable "java/lang/UnsupportedOperationException" "java/lang/UnsupportedOperationException") ∈ zNW := List.mem_filter.mpr ⟨List.mem_append_right _ (List.mem_append_left _ (List.mem_of_getElem? (i := 165) (by decide +kernel))), by decide +kernel⟩
theorem t_186 : (Jvm.Cond.fieldLinkNest "AlertRows" (251 : Nat) "AlertRows$Group" "least" "I" "AlertRows") ∈ zNW := List.mem_filter.mpr ⟨List.mem_append_right _ (List.mem_append_left _ (List.mem_of_getElem? (i := 186) (by decide +kernel))), by decide +kernel⟩
theorem t_188 : (Jvm.Cond.fieldLinkNest "AlertRows" (230 : Nat) "AlertRows$Group" "time" "I" "AlertRows") ∈ zNW := List.mem_filter.mpr ⟨List.mem_append_right _ (List.mem_append_left _ (List.mem_of_getElem? (i := 188) (by decide +kernel))), by decide +kernel⟩
theorem t_190 : (Jvm.Cond.fieldLinkNest "AlertRows" (62 : Nat) "AlertRows$Group" "following" "I" "AlertRows") ∈ zNW := List.mem_filter.mpr ⟨List.mem_append_right _ (List.mem_append_left _ (List.mem_of_getElem? (i := 190) (by decide +kernel))), by decide +kernel⟩
theorem t_191 : (Jvm.Cond.fieldLinkNest "AlertRows" (189 : Nat) "AlertRows$Group" "asked" "I" "AlertRows") ∈ zNW := List.mem_filter.mpr ⟨List.mem_append_right _ (List.mem_append_left _ (List.mem_of_getElem? (i := 191) (by decide +kernel))), by decide +kernel⟩
theorem t_192 : (Jvm.Cond.fieldLinkNest "AlertRows" (192 : Nat) "AlertRows$Group" "answered" "I" "AlertRows") ∈ zNW := List.mem_filter.mpr ⟨List.mem_append_right _ (List.mem_append_left _ (List.mem_of_getElem? (i := 192) (by decide +kernel))), by decide +kernel⟩
theorem t_281 : (Jvm.Cond.castable "java/lang/IllegalArgumentException" "java/lang/IllegalArgumentException") ∈ zNW := List.mem_filter.mpr ⟨List.mem_append_right _ (List.mem_append_right _ (List.mem_append_left _ (List.mem_of_getElem? (i := 41) (by decide +kernel)))), by decide +kernel⟩
theorem t_311 : (Jvm.Cond.castable "java/lang/IllegalStateException" "java/lang/IllegalStateException") ∈ zNW := List.mem_filter.mpr ⟨List.mem_append_right _ (List.mem_append_right _ (List.mem_append_left _ (List.mem_of_getElem? (i := 71) (by decide +kernel)))), by decide +kernel⟩
theorem t_343 : (Jvm.Cond.fieldLinkNest "AlertRows" (82 : Nat) "AlertRows$Person" "ways" "I" "AlertRows") ∈ zNW := List.mem_filter.mpr ⟨List.mem_append_right _ (List.mem_append_right _ (List.mem_append_left _ (List.mem_of_getElem? (i := 103) (by decide +kernel)))), by decide +kernel⟩
theorem t_345 : (Jvm.Cond.fieldLinkNest "AlertRows" (87 : Nat) "AlertRows$Person" "state" "I" "AlertRows") ∈ zNW := List.mem_filter.mpr ⟨List.mem_append_right _ (List.mem_append_right _ (List.mem_append_left _ (List.mem_of_getElem? (i := 105) (by decide +kernel)))), by decide +kernel⟩
theorem t_425 : (Jvm.Cond.fieldLinkNest "AlertRows" (248 : Nat) "AlertRows$Alarm" "crew" "I" "AlertRows") ∈ zNW := List.mem_filter.mpr ⟨List.mem_append_right _ (List.mem_append_right _ (List.mem_append_left _ (List.mem_of_getElem? (i := 185) (by decide +kernel)))), by decide +kernel⟩
theorem t_427 : (Jvm.Cond.fieldLinkNest "AlertRows" (258 : Nat) "AlertRows$Alarm" "test" "Z" "AlertRows") ∈ zNW := List.mem_filter.mpr ⟨List.mem_append_right _ (List.mem_append_right _ (List.mem_append_left _ (List.mem_of_getElem? (i := 187) (by decide +kernel)))), by decide +kernel⟩
theorem t_429 : (Jvm.Cond.fieldLinkNest "AlertRows" (170 : Nat) "AlertRows$Alarm" "begin" "I" "AlertRows") ∈ zNW := List.mem_filter.mpr ⟨List.mem_append_right _ (List.mem_append_right _ (List.mem_append_left _ (List.mem_of_getElem? (i := 189) (by decide +kernel)))), by decide +kernel⟩
theorem t_431 : (Jvm.Cond.fieldLinkNest "AlertRows" (245 : Nat) "AlertRows$Alarm" "end" "I" "AlertRows") ∈ zNW := List.mem_filter.mpr ⟨List.mem_append_right _ (List.mem_append_right _ (List.mem_append_left _ (List.mem_of_getElem? (i := 191) (by decide +kernel)))), by decide +kernel⟩
theorem t_433 : (Jvm.Cond.fieldLinkNest "AlertRows" (167 : Nat) "AlertRows$Alarm" "raiser" "I" "AlertRows") ∈ zNW := List.mem_filter.mpr ⟨List.mem_append_right _ (List.mem_append_right _ (List.mem_append_left _ (List.mem_of_getElem? (i := 193) (by decide +kernel)))), by decide +kernel⟩
theorem t_437 : (Jvm.Cond.fieldLinkNest "AlertRows" (129 : Nat) "AlertRows$Alarm" "state" "I" "AlertRows") ∈ zNW := List.mem_filter.mpr ⟨List.mem_append_right _ (List.mem_append_right _ (List.mem_append_left _ (List.mem_of_getElem? (i := 197) (by decide +kernel)))), by decide +kernel⟩
theorem t_608 : (Jvm.Cond.castable "java/lang/ArithmeticException" "java/lang/ArithmeticException") ∈ zNW := List.mem_filter.mpr ⟨List.mem_append_right _ (List.mem_append_right _ (List.mem_append_right _ (List.mem_append_left _ (List.mem_of_getElem? (i := 128) (by decide +kernel))))), by decide +kernel⟩
theorem t_837 : (Jvm.Cond.castable "AlertRows$Group" "AlertRows$Group") ∈ zNW := List.mem_filter.mpr ⟨List.mem_append_right _ (List.mem_append_right _ (List.mem_append_right _ (List.mem_append_right _ (List.mem_of_getElem? (i := 117) (by decide +kernel))))), by decide +kernel⟩
theorem t_838 : (Jvm.Cond.castable "AlertRows$Person" "AlertRows$Person") ∈ zNW := List.mem_filter.mpr ⟨List.mem_append_right _ (List.mem_append_right _ (List.mem_append_right _ (List.mem_append_right _ (List.mem_of_getElem? (i := 118) (by decide +kernel))))), by decide +kernel⟩
theorem t_839 : (Jvm.Cond.castable "AlertRows$Alarm" "AlertRows$Alarm") ∈ zNW := List.mem_filter.mpr ⟨List.mem_append_right _ (List.mem_append_right _ (List.mem_append_right _ (List.mem_append_right _ (List.mem_of_getElem? (i := 119) (by decide +kernel))))), by decide +kernel⟩
theorem t_842 : (Jvm.Cond.declares ({ cls := "java/lang/Object", name := "getClass", desc := "()Ljava/lang/Class;" } : Jvm.MethodName)) ∈ zNW := List.mem_filter.mpr ⟨List.mem_append_right _ (List.mem_append_right _ (List.mem_append_right _ (List.mem_append_right _ (List.mem_of_getElem? (i := 122) (by decide +kernel))))), by decide +kernel⟩
theorem t_843 : (Jvm.Cond.castable "AlertRows" "java/lang/Object") ∈ zNW := List.mem_filter.mpr ⟨List.mem_append_right _ (List.mem_append_right _ (List.mem_append_right _ (List.mem_append_right _ (List.mem_of_getElem? (i := 123) (by decide +kernel))))), by decide +kernel⟩
theorem t_844 : (Jvm.Cond.castable "AlertRowsModel" "java/lang/Object") ∈ zNW := List.mem_filter.mpr ⟨List.mem_append_right _ (List.mem_append_right _ (List.mem_append_right _ (List.mem_append_right _ (List.mem_of_getElem? (i := 124) (by decide +kernel))))), by decide +kernel⟩
theorem t_845 : (Jvm.Cond.castable "AlertRows$Group" "java/lang/Object") ∈ zNW := List.mem_filter.mpr ⟨List.mem_append_right _ (List.mem_append_right _ (List.mem_append_right _ (List.mem_append_right _ (List.mem_of_getElem? (i := 125) (by decide +kernel))))), by decide +kernel⟩
theorem t_846 : (Jvm.Cond.castable "AlertRows$Person" "java/lang/Object") ∈ zNW := List.mem_filter.mpr ⟨List.mem_append_right _ (List.mem_append_right _ (List.mem_append_right _ (List.mem_append_right _ (List.mem_of_getElem? (i := 126) (by decide +kernel))))), by decide +kernel⟩
theorem t_847 : (Jvm.Cond.castable "AlertRows$Alarm" "java/lang/Object") ∈ zNW := List.mem_filter.mpr ⟨List.mem_append_right _ (List.mem_append_right _ (List.mem_append_right _ (List.mem_append_right _ (List.mem_of_getElem? (i := 127) (by decide +kernel))))), by decide +kernel⟩
theorem t_848 : (Jvm.Cond.castable "java/lang/String" "java/lang/Object") ∈ zNW := List.mem_filter.mpr ⟨List.mem_append_right _ (List.mem_append_right _ (List.mem_append_right _ (List.mem_append_right _ (List.mem_of_getElem? (i := 128) (by decide +kernel))))), by decide +kernel⟩
theorem ts_A_alarmOf : Cond.selects R_A yA_alarmOf yA_alarmOf ∈ zTB := List.mem_filter.mpr ⟨List.mem_append_left _ (by decide +kernel), by decide +kernel⟩
theorem ts_A_requirePerson : Cond.selects R_A yA_requirePerson yA_requirePerson ∈ zTB := List.mem_filter.mpr ⟨List.mem_append_left _ (by decide +kernel), by decide +kernel⟩
theorem ts_A_noteLate : Cond.selects R_A yA_noteLate yA_noteLate ∈ zTB := List.mem_filter.mpr ⟨List.mem_append_left _ (by decide +kernel), by decide +kernel⟩
theorem ts_A_firstDue : Cond.selects R_A yA_firstDue yA_firstDue ∈ zTB := List.mem_filter.mpr ⟨List.mem_append_left _ (by decide +kernel), by decide +kernel⟩
theorem ts_A_closeAlarm : Cond.selects R_A yA_closeAlarm yA_closeAlarm ∈ zTB := List.mem_filter.mpr ⟨List.mem_append_left _ (by decide +kernel), by decide +kernel⟩
theorem ts_A_openAlarms : Cond.selects R_A yA_openAlarms yA_openAlarms ∈ zTB := List.mem_filter.mpr ⟨List.mem_append_left _ (by decide +kernel), by decide +kernel⟩
theorem ts_A_requireAlarm : Cond.selects R_A yA_requireAlarm yA_requireAlarm ∈ zTB := List.mem_filter.mpr ⟨List.mem_append_left _ (by decide +kernel), by decide +kernel⟩
theorem ts_A_addUp : Cond.selects R_A yA_addUp yA_addUp ∈ zTB := List.mem_filter.mpr ⟨List.mem_append_left _ (by decide +kernel), by decide +kernel⟩
theorem ts_A_raiseSecond : Cond.selects R_A yA_raiseSecond yA_raiseSecond ∈ zTB := List.mem_filter.mpr ⟨List.mem_append_left _ (by decide +kernel), by decide +kernel⟩
theorem ts_A_groupOf : Cond.selects R_A yA_groupOf yA_groupOf ∈ zTB := List.mem_filter.mpr ⟨List.mem_append_left _ (by decide +kernel), by decide +kernel⟩
theorem ts_A_requireGroup : Cond.selects R_A yA_requireGroup yA_requireGroup ∈ zTB := List.mem_filter.mpr ⟨List.mem_append_left _ (by decide +kernel), by decide +kernel⟩
theorem ts_A_personOf : Cond.selects R_A yA_personOf yA_personOf ∈ zTB := List.mem_filter.mpr ⟨List.mem_append_left _ (by decide +kernel), by decide +kernel⟩
theorem ts_A_wouldAskSomebody : Cond.selects R_A yA_wouldAskSomebody yA_wouldAskSomebody ∈ zTB := List.mem_filter.mpr ⟨List.mem_append_left _ (by decide +kernel), by decide +kernel⟩
theorem ts_A_raise : Cond.selects R_A yA_raise yA_raise ∈ zTB := List.mem_filter.mpr ⟨List.mem_append_left _ (by decide +kernel), by decide +kernel⟩
theorem ts_L_comersBefore : Cond.selects R_L yL_comersBefore yL_comersBefore ∈ zTB := List.mem_filter.mpr ⟨List.mem_append_left _ (by decide +kernel), by decide +kernel⟩
theorem ts_M_begin : Cond.selects R_M yM_begin yM_begin ∈ zTB := List.mem_filter.mpr ⟨List.mem_append_left _ (by decide +kernel), by decide +kernel⟩
theorem ts_M_isReached : Cond.selects R_M yM_isReached yM_isReached ∈ zTB := List.mem_filter.mpr ⟨List.mem_append_left _ (by decide +kernel), by decide +kernel⟩
theorem ts_M_isAlarm : Cond.selects R_M yM_isAlarm yM_isAlarm ∈ zTB := List.mem_filter.mpr ⟨List.mem_append_left _ (by decide +kernel), by decide +kernel⟩
theorem ts_M_isThere : Cond.selects R_M yM_isThere yM_isThere ∈ zTB := List.mem_filter.mpr ⟨List.mem_append_left _ (by decide +kernel), by decide +kernel⟩
theorem ts_M_many : Cond.selects R_M yM_many yM_many ∈ zTB := List.mem_filter.mpr ⟨List.mem_append_left _ (by decide +kernel), by decide +kernel⟩
theorem ts_M_isSilent : Cond.selects R_M yM_isSilent yM_isSilent ∈ zTB := List.mem_filter.mpr ⟨List.mem_append_left _ (by decide +kernel), by decide +kernel⟩
theorem ts_M_goes : Cond.selects R_M yM_goes yM_goes ∈ zTB := List.mem_filter.mpr ⟨List.mem_append_left _ (by decide +kernel), by decide +kernel⟩
theorem ts_M_isGroup : Cond.selects R_M yM_isGroup yM_isGroup ∈ zTB := List.mem_filter.mpr ⟨List.mem_append_left _ (by decide +kernel), by decide +kernel⟩
theorem ts_M_isPerson : Cond.selects R_M yM_isPerson yM_isPerson ∈ zTB := List.mem_filter.mpr ⟨List.mem_append_left _ (by decide +kernel), by decide +kernel⟩
theorem ts_M_asks : Cond.selects R_M yM_asks yM_asks ∈ zTB := List.mem_filter.mpr ⟨List.mem_append_left _ (by decide +kernel), by decide +kernel⟩
theorem ts_M_asksAny : Cond.selects R_M yM_asksAny yM_asksAny ∈ zTB := List.mem_filter.mpr ⟨List.mem_append_left _ (by decide +kernel), by decide +kernel⟩
theorem ts_Y_grow0 : Cond.selects R_Y yY_grow0 yY_grow0 ∈ zTB := List.mem_filter.mpr ⟨List.mem_append_left _ (by decide +kernel), by decide +kernel⟩
theorem ts_Y_add3 : Cond.selects R_Y yY_add3 yY_add3 ∈ zTB := List.mem_filter.mpr ⟨List.mem_append_left _ (by decide +kernel), by decide +kernel⟩
theorem ts_Y_grow1 : Cond.selects R_Y yY_grow1 yY_grow1 ∈ zTB := List.mem_filter.mpr ⟨List.mem_append_left _ (by decide +kernel), by decide +kernel⟩
theorem t_gcS : (Jvm.Cond.selects "[Ljava/lang/Object;" ({ cls := "java/lang/Object", name := "getClass", desc := "()Ljava/lang/Class;" } : Jvm.MethodName) ({ cls := "java/lang/Object", name := "getClass", desc := "()Ljava/lang/Class;" } : Jvm.MethodName)) ∈ zTB := List.mem_filter.mpr ⟨List.mem_append_right _ (List.mem_append_right _ (List.mem_append_right _ (List.mem_append_right _ (List.mem_of_getElem? (i := 121) (by decide +kernel))))), by decide +kernel⟩
theorem t_gcI : (Jvm.Cond.instanceMethod ({ cls := "java/lang/Object", name := "getClass", desc := "()Ljava/lang/Class;" } : Jvm.MethodName)) ∈ zTB := List.mem_filter.mpr ⟨List.mem_append_right _ (List.mem_append_left _ (List.mem_of_getElem? (i := 234) (by decide +kernel))), by decide +kernel⟩
theorem t_gcN : (Jvm.Cond.native ({ cls := "java/lang/Object", name := "getClass", desc := "()Ljava/lang/Class;" } : Jvm.MethodName)) ∈ zTB := List.mem_filter.mpr ⟨List.mem_append_right _ (List.mem_append_right _ (List.mem_append_left _ (List.mem_of_getElem? (i := 7) (by decide +kernel)))), by decide +kernel⟩
theorem t_gcD : (Jvm.Cond.declares ({ cls := "java/lang/Object", name := "getClass", desc := "()Ljava/lang/Class;" } : Jvm.MethodName)) ∈ zNW := List.mem_filter.mpr ⟨List.mem_append_right _ (List.mem_append_right _ (List.mem_append_right _ (List.mem_append_right _ (List.mem_of_getElem? (i := 122) (by decide +kernel))))), by decide +kernel⟩
theorem t_castL : (Jvm.Cond.castable "AlertRows$Alarm" "java/lang/Object") ∈ zNW := List.mem_filter.mpr ⟨List.mem_append_right _ (List.mem_append_right _ (List.mem_append_right _ (List.mem_append_right _ (List.mem_of_getElem? (i := 127) (by decide +kernel))))), by decide +kernel⟩
theorem t_castG : (Jvm.Cond.castable "AlertRows$Group" "java/lang/Object") ∈ zNW := List.mem_filter.mpr ⟨List.mem_append_right _ (List.mem_append_right _ (List.mem_append_right _ (List.mem_append_right _ (List.mem_of_getElem? (i := 125) (by decide +kernel))))), by decide +kernel⟩
theorem t_castP : (Jvm.Cond.castable "AlertRows$Person" "java/lang/Object") ∈ zNW := List.mem_filter.mpr ⟨List.mem_append_right _ (List.mem_append_right _ (List.mem_append_right _ (List.mem_append_right _ (List.mem_of_getElem? (i := 126) (by decide +kernel))))), by decide +kernel⟩
end
section
abbrev zty (tc : Nat → ClassId) : List (ClassId × FieldType) := [(tc 0, .int), (tc 1, .boolean), (tc 2, .object "java/lang/Object"), (tc 3, .long)]
/-- the statics and texts that throws need; zstr: class, pool place, text -/
def zSt (tc : Nat → ClassId) (A : Nat → Prop) (U : State) (H : Heap) : Prop :=
  vx_Zq Bundle.tN "UNASSIGNED_STACK" Bundle.steD A U H ∧ vx_Zq Bundle.tN "SUPPRESSED_SENTINEL" Bundle.listD A U H ∧ (∀ (k : Nat) (q : String × Nat × String), (zstr[k]? = some q → vk_R q.1 q.2.1 q.2.2 (tc (k + 10)) U)) ∧
  va_Z "java/util/ArrayList" "DEFAULTCAPACITY_EMPTY_ELEMENTDATA" "[Ljava/lang/Object;" (.ref (tc 9)) A U H ∧ H[tc 9]? = some (vp_cell (tc 2) (0, .inr (.inr (.inr (.inr (fun _ => none)))))) ∧ ¬ A (tc 9) ∧ va_Mi "[Ljava/lang/Object;" (tc 8) U ∧ va_AO "java/lang/Object" U
def zG (D : va_G) (tc : Nat → ClassId) (A : Nat → Prop) (U : State) (H : Heap) : Prop := va_K D vwCl (zty tc) U ∧ (∀ w ∈ zNW, va_Nw w U) ∧ zSt tc A U H
def zI (D : va_G) (tc : Nat → ClassId) (A : Nat → Prop) (M : zM) (U : State) : Prop := (∀ q, U.heap.size ≤ q → A q) ∧ zP D vwCl tc A M U.heap ∧ zG D tc A U U.heap
def zB (D : va_G) (tc : Nat → ClassId) (A : Nat → Prop) (u : zM) (t : State) : Prop := zP D vwCl tc A u t.heap
theorem zB_of {D : va_G} {tc : Nat → ClassId} {A : Nat → Prop} {M : zM} {t : State} {H : Heap} (ht : t.heap = H) (hM : zP D vwCl tc A M H) : zB D tc A M t := by
  show zP D vwCl tc A M t.heap
  rw [ht]
  exact hM
def zX (D : va_G) (tc : Nat → ClassId) (A : Nat → Prop) (px : String → zM → Prop) : String → State → State → Prop := vx_X (fun u : String × zM => px u.1 u.2) (fun E u t => u.1 = E ∧ zP D vwCl tc A u.2 t.heap) A
theorem zG_call {D : va_G} {tc : Nat → ClassId} {A : Nat → Prop} {s U : State} {H : Heap} {locs : List Loc} (hG : zG D tc A s s.heap) (hS : va_S A s.heap H locs) (hU : U.heap = H) (hW : s.WarmedH U.vm) : zG D tc A U U.heap := by
  obtain ⟨hK, hN, h1, h2, h3, h4, h5, h6, h7, h8⟩ := hG
  refine ⟨va_K.moved hW.alike hK, fun w hw => zNs_warm (List.mem_filter.mp hw).2 hW (hN w hw), ?_, ?_, fun k q hk => vk_R.warm hW (h3 k q hk), ?_, ?_, h6, va_Mi.moved hW.alike h7, va_AO.moved hW.alike h8⟩
  · rw [hU]; exact vx_Zq.moved hW.alike (h1.kept hS.2.1)
  · rw [hU]; exact vx_Zq.moved hW.alike (h2.kept hS.2.1)
  · rw [hU]; exact va_Z.moved hW.alike (h4.kept hS.2.1)
  · rw [hU, hS.2.1 _ (Array.getElem?_eq_some_iff.mp h5).1 h6]; exact h5
theorem zG_blind {D : va_G} {tc : Nat → ClassId} {A : Nat → Prop} {U : State} {g : JFrame} {mk : MethodId} {a : Array Value} (hG : zG D tc A U U.heap) : zG D tc A (U.calling g mk a) (U.calling g mk a).heap := by
  obtain ⟨hK, hN, h1, h2, h3, h4, h5, h6, h7, h8⟩ := hG
  have hv : (U.calling g mk a).vm = U.vm := rfl
  refine ⟨va_K.moved (u := U) (U := U.calling g mk a) (Vm.Alike.refl U.vm) hK, fun w hw => va_Nw.same (zNs_tab (List.mem_filter.mp hw).2) hv.symm (hN w hw), ?_, ?_, fun k q hk => vk_R.same hv (h3 k q hk), ?_, h5, h6, va_Mi.moved (u := U) (U := U.calling g mk a) (Vm.Alike.refl U.vm) h7, va_AO.moved (u := U) (U := U.calling g mk a) (Vm.Alike.refl U.vm) h8⟩
  · exact vx_Zq.moved (u := U) (U := U.calling g mk a) (Vm.Alike.refl U.vm) h1
  · exact vx_Zq.moved (u := U) (U := U.calling g mk a) (Vm.Alike.refl U.vm) h2
  · exact va_Z.moved (u := U) (U := U.calling g mk a) (Vm.Alike.refl U.vm) h4
theorem z_blind {D : va_G} {tc : Nat → ClassId} {A : Nat → Prop} {M : zM} {As : List Value} : FrameBlind (va_Pc As (zI D tc A M)) := fun _ _ _ _ q => ⟨q.1, q.2.1, q.2.2.1, zG_blind q.2.2.2⟩
theorem z_preS {D : va_G} {tc : Nat → ClassId} {A : Nat → Prop} {M : zM} {s : State} {H : Heap} {locs : List Loc} {As : List Value} (hG : zG D tc A s s.heap) (hA : ∀ q, s.heap.size ≤ q → A q) (hS : va_S A s.heap H locs) (hM : zP D vwCl tc A M H) : PreS s H (va_Pc As (zI D tc A M)) As :=
  ⟨z_blind, fun U hU hW => ⟨rfl, fun q hq => hA q (Nat.le_trans hS.1 (by rw [← hU]; exact hq)), by rw [hU]; exact hM, zG_call hG hS hU hW⟩⟩
theorem z_preV {D : va_G} {tc : Nat → ClassId} {A : Nat → Prop} {M : zM} {s : State} {H : Heap} {locs : List Loc} {b ci : Nat} {fs : List Value} {q : vw_C} {As : List Value} (hG : zG D tc A s s.heap) (hA : ∀ q, s.heap.size ≤ q → A q) (hS : va_S A s.heap H locs) (hM : zP D vwCl tc A M H) (hb : M b = some (.inr (ci, fs))) (hc : vwCl[ci]? = some q) : PreV s H q.1 b (va_Pc (.ref b :: As) (zI D tc A M)) As :=
  ⟨z_blind, z_recv hG.1 hM hb hc, fun U hU hW => ⟨rfl, fun q hq => hA q (Nat.le_trans hS.1 (by rw [← hU]; exact hq)), by rw [hU]; exact hM, zG_call hG hS hU hW⟩⟩
/-- what a method's walk has from its entry on -/
def zC (own : String) (cc : ByteArray) (nL : Nat) (rt : Option FieldType) (nm : String) (D : va_G) (tc : Nat → ClassId) (A : Nat → Prop) (p : Program) (l : Launch) (s : State) (m : MethodId) (args : Array Value) (meth : Method) (c : Code) : Prop :=
  p.tables.exec = Jvm.exec ∧ c.code = cc ∧ c.maxLocals = nL ∧ meth.sig.returnType = rt ∧ s.vm.findClass own = some m.cls ∧ (∀ w ∈ zTB, w.before args s = true) ∧ meth.locks = false ∧ (∀ q, s.heap.size ≤ q → A q) ∧ zG D tc A s s.heap ∧ meth.name = nm ∧ (∀ x ∈ c.exceptionTable.toList, False)
theorem zC_of {l : Launch} {y : MethodName} {cc : ByteArray} {nL : Nat} {rt : Option FieldType} {rm : Room} {D : va_G} {tc : Nat → ClassId} {A : Nat → Prop} {p : Program} {e : Env} {s s₁ : State} {m : MethodId} {args : Array Value} {below : List Frame} {meth : Method} {c : Code}
    (B : BodyLoose p l y (headSpec (.code y cc nL rt :: zTB) rm) cc nL rt e s m args below meth c s₁) (hml : c.maxLocals = nL) (ht : ∀ x ∈ c.exceptionTable.toList, False) (hA : ∀ q, s.heap.size ≤ q → A q) (hG : zG D tc A s s.heap) : zC y.cls cc nL rt y.name D tc A p l s m args meth c :=
  ⟨B.exec, B.bytes, hml, B.returns, findClass_of_methodNamed B.named, fun w hw => atoms_spec (ws := .code y cc nL rt :: zTB) B.pre w (List.mem_cons_of_mem _ hw), B.notSynchronized, hA, hG, (name_of_methodNamed B.named B.method).1, ht⟩
theorem zC_ex {l : Launch} {y : MethodName} {cc : ByteArray} {nL : Nat} {rt : Option FieldType} {rm : Room} {p : Program} {e : Env} {s s₁ : State} {m : MethodId} {args : Array Value} {below : List Frame} {meth : Method} {c : Code}
    (B : BodyLoose p l y (headSpec (.code y cc nL rt :: zTB) rm) cc nL rt e s m args below meth c s₁) : ∀ x ∈ c.exceptionTable.toList, False := by
  have h := B.noHandlers (atoms_spec (ws := .code y cc nL rt :: zTB) B.pre _ List.mem_cons_self)
  intro x hx
  rw [Array.isEmpty_iff.mp h] at hx
  cases hx
section ZO
variable {p : Program} {l : Launch} {e : Env} {R : Room} {s : State} {m : MethodId} {args : Array Value} {below : List Frame} {meth : Method} {c : Code} {H : Heap} {locs : List Loc} {cells slots : Nat}
variable {cc : ByteArray} {pc : Nat} {ls : Array Slot} {rest : List Value} {D : va_G} {tc : Nat → ClassId} {A : Nat → Prop} {M : zM} {mcT msT : Nat} {Qc : Array Value → State → Outcome → State → Prop} {px : String → zM → Prop}
/-- a callee's exception leaves this method too -/
theorem z_out {E : String} {ce : Cell} {q9 : Addr} {u : String × zM} {t : State} (hex : ∀ x ∈ c.exceptionTable.toList, covers x pc = false) (hlk : meth.locks = false) (hce : H[q9]? = some ce) (hcv : ce.vm = .none) (hcl : s.vm.findClass E = some ce.cls) (ht : t.heap = H) (hB : u.1 = E ∧ zP D vwCl tc A u.2 t.heap) (hS : va_S A s.heap H locs) (hw : px u.1 u.2) (hc : cells ≤ mcT) (hs : slots ≤ msT) :
    vx_W p l e R s m args below meth c H locs cells slots (vx_MQ below Qc (zX D tc A px) args s mcT msT A) (F0 m pc ls rest) q9 :=
  vx_out hex hlk hce hcv hcl (fun t' ht' _ => ⟨u, hw, ⟨hB.1, by rw [ht', ← ht]; exact hB.2⟩, hS.F ht'⟩) hS.2.2 hc hs
abbrev zEx : List String := ["java/lang/RuntimeException", "java/lang/Exception"]
theorem z_throwS (hexec : p.tables.exec = Jvm.exec) (hb : c.code = cc) (hst : l.stackTraces = false) {own cls text : String} {ik is ic k : Nat} (hown : s.vm.findClass own = some m.cls) (hcls : Bundle.fit cls = true) (hk : (Cond.classLink own ik cls).before args s = true) (hini : (Cond.initialized cls).before args s = true) (hstr : zstr[k]? = some (own, is, text))
    (hat : ∀ w ∈ vx_atS own ic cls zEx, w.before args s = true) (hgood : ∀ w ∈ Cond.classLink own ik cls :: Cond.initialized cls :: vx_atS own ic cls zEx, vx_ot w = true) (hG : zG D tc A s s.heap) (hS : va_S A s.heap H locs) (hM : zP D vwCl tc A M H) (hsize : ls.size = c.maxLocals)
    (d0 : decode cc pc = .ok (.new ik, 3)) (d3 : decode cc (pc + 3) = .ok (.dup, 1)) (d4 : decode cc (pc + 4) = .ok (.ldc is, 2)) (d6 : decode cc (pc + 6) = .ok (.invokespecial ic, 3)) (d9 : decode cc (pc + 9) = .ok (.athrow, 1))
    (hout : ∀ x ∈ c.exceptionTable.toList, covers x (pc + 9) = false) (hRf : 5 < R.frames) (hRl : (rest.map fun v => v.category).sum + 82 ≤ R.locals) (hRc : cells + 1 ≤ R.cells) (hRs : slots + 6 ≤ R.slots) (hlk : meth.locks = false) (hw : px cls M) (hc : cells + 1 ≤ mcT) (hs : slots + 6 ≤ msT) :
    W p l e R s m args below meth c H locs cells slots (vx_MQ below Qc (zX D tc A px) args s mcT msT A) (F0 m pc ls rest) :=
  vx_throwS hexec hb hst hown hcls (by decide +kernel) hk hini (hG.2.2.2.2.1 k _ hstr) hat hgood hG.2.2.1 hG.2.2.2.1 hS hsize d0 d3 d4 d6 d9 hout hRf hRl hRc hRs hlk
    (fun t _ hz hq => ⟨(cls, M), hw, ⟨rfl, z_kept hM hq⟩, Nat.le_trans hS.1 hz, fun q h1 h2 => by rw [hq q (Nat.lt_of_lt_of_le h1 hS.1)]; exact hS.2.1 q h1 h2⟩) hS.2.2 hc hs
theorem z_throwSW (hexec : p.tables.exec = Jvm.exec) (hb : c.code = cc) (hst : l.stackTraces = false) {own cls text : String} {ik is ic k : Nat} (hown : s.vm.findClass own = some m.cls) (hcls : Bundle.fit cls = true) (hk : (Cond.classLink own ik cls).before args s = true) (hini : (Cond.initialized cls).before args s = true) (hstr : zstr[k]? = some (own, is, text))
    (hat : ∀ w ∈ vx_atS own ic cls zEx, w.before args s = true) (hgood : ∀ w ∈ Cond.classLink own ik cls :: Cond.initialized cls :: vx_atS own ic cls zEx, vx_ot w = true) (hG : zG D tc A s s.heap) (hS : va_S A s.heap H locs) (hM : zP D vwCl tc A M H) (hsize : ls.size = c.maxLocals)
    (d0 : decode cc pc = .ok (.new ik, 3)) (d3 : decode cc (pc + 3) = .ok (.dup, 1)) (d4 : decode cc (pc + 4) = .ok (.ldc_w is, 3)) (d7 : decode cc (pc + 7) = .ok (.invokespecial ic, 3)) (d10 : decode cc (pc + 10) = .ok (.athrow, 1))
    (hout : ∀ x ∈ c.exceptionTable.toList, covers x (pc + 10) = false) (hRf : 5 < R.frames) (hRl : (rest.map fun v => v.category).sum + 82 ≤ R.locals) (hRc : cells + 1 ≤ R.cells) (hRs : slots + 6 ≤ R.slots) (hlk : meth.locks = false) (hw : px cls M) (hc : cells + 1 ≤ mcT) (hs : slots + 6 ≤ msT) :
    W p l e R s m args below meth c H locs cells slots (vx_MQ below Qc (zX D tc A px) args s mcT msT A) (F0 m pc ls rest) :=
  vx_throwSW hexec hb hst hown hcls (by decide +kernel) hk hini (hG.2.2.2.2.1 k _ hstr) hat hgood hG.2.2.1 hG.2.2.2.1 hS hsize d0 d3 d4 d7 d10 hout hRf hRl hRc hRs hlk
    (fun t _ hz hq => ⟨(cls, M), hw, ⟨rfl, z_kept hM hq⟩, Nat.le_trans hS.1 hz, fun q h1 h2 => by rw [hq q (Nat.lt_of_lt_of_le h1 hS.1)]; exact hS.2.1 q h1 h2⟩) hS.2.2 hc hs
end ZO
/-- the words of a throw's list, out of the tables -/
theorem z_hat {args : Array Value} {s : State} {L : List Cond} (hL : L.all (fun w => decide (w ∈ lw_tbl) && (goodWord w || zNs w)) = true) (htb : ∀ w ∈ zTB, w.before args s = true) (hN : ∀ w ∈ zNW, va_Nw w s) : ∀ w ∈ L, w.before args s = true := by
  intro w hw
  have h := List.all_eq_true.mp hL w hw
  simp only [Bool.and_eq_true, Bool.or_eq_true, decide_eq_true_eq] at h
  rcases h.2 with h2 | h2
  · exact htb w (List.mem_filter.mpr ⟨h.1, h2⟩)
  · exact va_Nw.use (zNs_tab h2) (hN w (List.mem_filter.mpr ⟨h.1, h2⟩))
/-! The words that a weakest precondition is made of. -/
def wGI (M : zM) (a ci k : Nat) (K : Int32 → Prop) : Prop := ∃ (fs : List Value) (v : Int32), M a = some (.inr (ci, fs)) ∧ fs[k]? = some (.int v) ∧ K v
def wGR (M : zM) (a ci k : Nat) (K : Nat → Prop) : Prop := ∃ (fs : List Value) (v : Nat), M a = some (.inr (ci, fs)) ∧ fs[k]? = some (.ref v) ∧ K v
def wPF (M : zM) (a ci k : Nat) (v : Value) (K : zM → Prop) : Prop := ∃ fs : List Value, M a = some (.inr (ci, fs)) ∧ k < fs.length ∧ K (va_up M a (some (.inr (ci, fs.set k v))))
def wAL (M : zM) (a k0 : Nat) (K : Int32 → Prop) : Prop := ∃ (x : vp_A) (v : Int32), M a = some (.inl (k0, x)) ∧ nI x.1 = v ∧ K v
def wLI (M : zM) (a k0 : Nat) (i : Int32) (K : Int32 → Prop) : Prop := ∃ (n : Nat) (f : Nat → Int32) (v : Int32), M a = some (.inl (k0, n, .inl f)) ∧ vp_in i n ∧ f i.toNatClampNeg = v ∧ K v
def wLJ (M : zM) (a k0 : Nat) (i : Int32) (K : Int64 → Prop) : Prop := ∃ (n : Nat) (f : Nat → Int64) (v : Int64), M a = some (.inl (k0, n, .inr (.inl f))) ∧ vp_in i n ∧ f i.toNatClampNeg = v ∧ K v
def wLQ (M : zM) (a k0 : Nat) (i : Int32) (K : Option Nat → Prop) : Prop := ∃ (n : Nat) (f : Nat → Option Nat) (v : Option Nat), M a = some (.inl (k0, n, .inr (.inr (.inr (.inr f))))) ∧ vp_in i n ∧ f i.toNatClampNeg = v ∧ K v
def wSI (M : zM) (a k0 : Nat) (i x : Int32) (K : zM → Prop) : Prop := ∃ (n : Nat) (f : Nat → Int32), M a = some (.inl (k0, n, .inl f)) ∧ vp_in i n ∧ K (va_up M a (some (.inl (k0, n, .inl (upd f i.toNatClampNeg x)))))
def wSZ (M : zM) (a k0 : Nat) (i x : Int32) (K : zM → Prop) : Prop := ∃ (n : Nat) (f : Nat → Int32), M a = some (.inl (k0, n, .inl f)) ∧ vp_in i n ∧ K (va_up M a (some (.inl (k0, n, .inl (upd f i.toNatClampNeg (vp_nar .boolean x))))))
def wSJ (M : zM) (a k0 : Nat) (i : Int32) (x : Int64) (K : zM → Prop) : Prop := ∃ (n : Nat) (f : Nat → Int64), M a = some (.inl (k0, n, .inr (.inl f))) ∧ vp_in i n ∧ K (va_up M a (some (.inl (k0, n, .inr (.inl (vp_updL f i.toNatClampNeg x))))))
def wNO (M : zM) (ci : Nat) (fs : List Value) (N mc ms : Nat) (K : Nat → zM → Prop) : Prop := 1 ≤ mc ∧ N ≤ ms ∧ ∀ q, M q = none → K q (va_up M q (some (.inr (ci, fs))))
def wNA (M : zM) (k0 : Nat) (n : Int32) (N by9 mc ms : Nat) (K : Nat → zM → Prop) : Prop := ¬ n < 0 ∧ N * by9 ≤ 536870912 ∧ 1 ≤ mc ∧ N ≤ ms ∧ n.toNatClampNeg = N ∧ ∀ q, M q = none → K q (va_up M q (some (.inl (k0, N, .inl (fun _ => 0)))))
def wNJ (M : zM) (k0 : Nat) (n : Int32) (N by9 mc ms : Nat) (K : Nat → zM → Prop) : Prop := ¬ n < 0 ∧ N * by9 ≤ 536870912 ∧ 1 ≤ mc ∧ N ≤ ms ∧ n.toNatClampNeg = N ∧ ∀ q, M q = none → K q (va_up M q (some (.inl (k0, N, .inr (.inl (fun _ => 0))))))
def wIs (M : zM) (a ci : Nat) : Prop := ∃ fs : List Value, M a = some (.inr (ci, fs))
def wSm (r : Option Nat) (K : Nat → Prop) : Prop := ∃ a : Nat, r = some a ∧ K a
def wSC (L : Nat) (xs : Nat → Int32) (i : Int32) (K : Int32 → Prop) : Prop := ∃ v : Int32, vp_in i L ∧ xs i.toNatClampNeg = v ∧ K v
def wSL (L : Nat) (K : Int32 → Prop) : Prop := ∃ v : Int32, nI L = v ∧ K v
def wAE (M : zM) (e0 a : Nat) (K : Int32 → Prop) : Prop := ∃ v : Int32, ((a = e0 ∧ v = 0) ∨ ∃ x : vp_A, M a = some (.inl (2, x)) ∧ nI x.1 = v) ∧ K v
def wNQ (M : zM) (n : Int32) (mc ms : Nat) (K : Nat → zM → Prop) : Prop := ¬ n < 0 ∧ n.toNatClampNeg * 4 ≤ 536870912 ∧ 1 ≤ mc ∧ n.toNatClampNeg ≤ ms ∧ ∀ q, M q = none → K q (va_up M q (some (.inl (2, n.toNatClampNeg, .inr (.inr (.inr (.inr (fun _ => none))))))))
def wSQ (M : zM) (a : Nat) (i : Int32) (v : Nat) (K : zM → Prop) : Prop := ∃ (n : Nat) (f : Nat → Option Nat) (ci : Nat) (fs : List Value), M a = some (.inl (2, n, .inr (.inr (.inr (.inr f))))) ∧ vp_in i n ∧ M v = some (.inr (ci, fs)) ∧ (1 ≤ ci ∧ ci ≤ 3) ∧ K (va_up M a (some (.inl (2, n, .inr (.inr (.inr (.inr (va_up f i.toNatClampNeg (some v)))))))))
section ZY
variable {p : Program} {l : Launch} {e : Env} {R : Room} {s : State} {m : MethodId} {args : Array Value} {below : List Frame} {meth : Method} {c : Code} {H : Heap} {locs : List Loc} {cells slots : Nat} {Q : State → Prop}
variable {cc : ByteArray} {pc : Nat} {ls : Array Slot} {rest : List Value} {D : va_G} {tc : Nat → ClassId} {A : Nat → Prop} {a : Nat} {M : zM}
theorem z_alenE (hexec : p.tables.exec = Jvm.exec) (hb : c.code = cc) (hK : va_K D vwCl (zty tc) s) (hM : zP D vwCl tc A M H) (hG : zG D tc A s s.heap) (hS : va_S A s.heap H locs) {v : Int32} (hv : (a = tc 9 ∧ v = 0) ∨ ∃ x : vp_A, M a = some (.inl (2, x)) ∧ nI x.1 = v) (hdg : decode cc pc = .ok (.arraylength, 1))
    (kk : W p l e R s m args below meth c H locs cells slots Q (F0 m (pc + 1) ls (.int v :: rest))) : W p l e R s m args below meth c H locs cells slots Q (F0 m pc ls (.ref a :: rest)) := by
  rcases hv with ⟨rfl, rfl⟩ | ⟨x, hx, hv⟩
  · obtain ⟨-, -, -, -, -, -, h5, h6, -, -⟩ := hG
    have hP : va_P D vwCl [(tc 9, .inl (tc 2, (0, .inr (.inr (.inr (.inr (fun _ => none)))))))] H := by
      intro k q hk
      match k, hk with
      | 0, hk =>
        cases hk
        show H[tc 9]? = _
        rw [hS.2.1 _ (Array.getElem?_eq_some_iff.mp h5).1 h6]
        exact h5
      | k + 1, hk => simp at hk
    exact va_alen hexec hb hK hP 0 2 rfl rfl rfl hdg kk
  · exact z_alen hexec hb hK hM 2 2 hx rfl hv hdg kk
theorem z_newq (hexec : p.tables.exec = Jvm.exec) (hb : c.code = cc) {own : String} {index : Nat} (hown : s.vm.findClass own = some m.cls) (hcl : (Cond.classLink own index "java/lang/Object").before args s = true) (hG : zG D tc A s s.heap) (hK : va_K D vwCl (zty tc) s) (hM : zP D vwCl tc A M H) (hS : va_S A s.heap H locs) (hA : ∀ q, s.heap.size ≤ q → A q)
    {n : Int32} (hn : ¬ n < 0) (hbytes : n.toNatClampNeg * 4 ≤ 536870912) (hcells : cells + 1 ≤ R.cells) (hslots : slots + n.toNatClampNeg ≤ R.slots) (hdg : decode cc pc = .ok (.anewarray index, 3))
    (kk : ∀ (q : Nat) (H1 : Heap), M q = none → zP D vwCl tc A (va_up M q (some (.inl (2, n.toNatClampNeg, .inr (.inr (.inr (.inr (fun _ => none)))))))) H1 → va_S A s.heap H1 locs → W p l e R s m args below meth c H1 locs (cells + 1) (slots + n.toNatClampNeg) Q (F0 m (pc + 3) ls (.ref q :: rest))) : W p l e R s m args below meth c H locs cells slots Q (F0 m pc ls (.int n :: rest)) := by
  obtain ⟨ws, hP, hD, hz⟩ := z_new hM
  refine va_newq hexec hb hown hcl hG.2.2.2.2.2.2.2.2.2 hK hP hD hS hA hn rfl hbytes hcells hslots hdg (fun q cA H1 hK1 hP1 hD1 hS1 => ?_)
  obtain ⟨kA, comp, -, -, -, h4⟩ := (hK1.2 4 _ rfl).2
  obtain ⟨kA', comp', -, -, -, h4'⟩ := (hK.2 2 _ rfl).2
  have e1 : cA = tc 2 := Option.some.inj (h4.symm.trans h4')
  subst e1
  obtain ⟨h1, h2⟩ := hz q (.inl (2, n.toNatClampNeg, .inr (.inr (.inr (.inr (fun _ => none)))))) H1 hP1 hD1
  exact kk q H1 h1 h2 hS1
theorem z_astq (hexec : p.tables.exec = Jvm.exec) (hb : c.code = cc) (hK : va_K D vwCl (zty tc) s) (hG : zG D tc A s s.heap) (hM : zP D vwCl tc A M H) (hS : va_S A s.heap H locs) {n v ci : Nat} {f : Nat → Option Nat} {fs : List Value} (ha : M a = some (.inl (2, n, .inr (.inr (.inr (.inr f)))))) {i : Int32} (hin : vp_in i n) (hv : M v = some (.inr (ci, fs))) (hci : 1 ≤ ci ∧ ci ≤ 3) (hdg : decode cc pc = .ok (.aastore, 1))
    (kk : ∀ (H1 : Heap) (locs1 : List Loc), zP D vwCl tc A (va_up M a (some (.inl (2, n, .inr (.inr (.inr (.inr (va_up f i.toNatClampNeg (some v))))))))) H1 → va_S A s.heap H1 locs1 → W p l e R s m args below meth c H1 locs1 cells slots Q (F0 m (pc + 1) ls rest)) : W p l e R s m args below meth c H locs cells slots Q (F0 m pc ls (.ref v :: .int i :: .ref a :: rest)) := by
  obtain ⟨ws, q0, hP, hD, hq, hin2, hz⟩ := z_open hM ha
  obtain ⟨qk, hqk⟩ := hin2 v _ hv
  rcases (show ci = 1 ∨ ci = 2 ∨ ci = 3 by omega) with rfl | rfl | rfl
  · exact va_astqO hexec hb hK hP hD hS q0 2 qk 1 hq rfl (hG.2.1 _ t_castL) hqk rfl hin hdg (fun H1 locs1 hP1 hD1 hS1 => kk H1 locs1 (hz (.inl (2, n, .inr (.inr (.inr (.inr (va_up f i.toNatClampNeg (some v))))))) H1 hP1 hD1) hS1)
  · exact va_astqO hexec hb hK hP hD hS q0 2 qk 2 hq rfl (hG.2.1 _ t_castG) hqk rfl hin hdg (fun H1 locs1 hP1 hD1 hS1 => kk H1 locs1 (hz (.inl (2, n, .inr (.inr (.inr (.inr (va_up f i.toNatClampNeg (some v))))))) H1 hP1 hD1) hS1)
  · exact va_astqO hexec hb hK hP hD hS q0 2 qk 3 hq rfl (hG.2.1 _ t_castP) hqk rfl hin hdg (fun H1 locs1 hP1 hD1 hS1 => kk H1 locs1 (hz (.inl (2, n, .inr (.inr (.inr (.inr (va_up f i.toNatClampNeg (some v))))))) H1 hP1 hD1) hS1)
theorem z_any (hK : va_K D vwCl (zty tc) s) (hG : zG D tc A s s.heap) (hM : zP D vwCl tc A M H) {y ci : Nat} {fs : List Value} (hy : M y = some (.inr (ci, fs))) (hci : 1 ≤ ci ∧ ci ≤ 3) : va_Any "java/lang/Object" s H y := by
  obtain ⟨ws, k, hP, -, hk, -⟩ := z_open hM hy
  rcases (show ci = 1 ∨ ci = 2 ∨ ci = 3 by omega) with rfl | rfl | rfl
  · exact va_rAny hK hP hk rfl (fun comp c0 h1 h2 => vb_asgC (hG.2.1 _ t_castL) comp c0 h1 h2)
  · exact va_rAny hK hP hk rfl (fun comp c0 h1 h2 => vb_asgC (hG.2.1 _ t_castG) comp c0 h1 h2)
  · exact va_rAny hK hP hk rfl (fun comp c0 h1 h2 => vb_asgC (hG.2.1 _ t_castP) comp c0 h1 h2)
theorem z_getC (hexec : p.tables.exec = Jvm.exec) (hb : c.code = cc) (hml : c.maxLocals = ls.size) {own : String} {index : Nat} (hown : s.vm.findClass own = some m.cls) (htb : ∀ w ∈ zTB, w.before args s = true) (hlink : (Cond.methodLink own index ⟨"java/lang/Object", "getClass", "()Ljava/lang/Class;"⟩).before args s = true) (hK : va_K D vwCl (zty tc) s) (hG : zG D tc A s s.heap) (hM : zP D vwCl tc A M H) {x : vp_A} (ha : M a = some (.inl (2, x))) (hframes : 1 ≤ R.frames) (hlocals : (rest.map fun v => v.category).sum + 14 ≤ R.locals) (hdg : decode cc pc = .ok (.invokevirtual index, 3))
    (k : W p l e R s m args below meth c H locs cells slots Q (F0 m (pc + 3) ls (.ref (tc 8) :: rest))) : W p l e R s m args below meth c H locs cells slots Q (F0 m pc ls (.ref a :: rest)) := by
  refine va_getC hexec hb hml (C := "[Ljava/lang/Object;") hown hlink (va_Nw.use rfl (hG.2.1 _ t_gcD)) (htb _ t_gcS) (htb _ t_gcI) (htb _ t_gcN) hG.2.2.2.2.2.2.2.2.1 ?_ hframes hlocals hdg k
  obtain ⟨ws, q0, hP, -, hq, -⟩ := z_open hM ha
  have h1 : H[a]? = some (vp_cell (tc 2) x) := hP q0 _ hq
  refine ⟨_, h1, ?_, ?_⟩
  · obtain ⟨n, f | f | f | f | f⟩ := x <;> rfl
  · have h9 : s.vm.findClass "[Ljava/lang/Object;" = some (tc 2) := va_nmO (hK.2 2 _ rfl).2 (by decide +kernel)
    refine h9.trans ?_
    obtain ⟨n, f | f | f | f | f⟩ := x <;> rfl
theorem z_copy (hexec : p.tables.exec = Jvm.exec) (hb : c.code = cc) (hml : c.maxLocals = ls.size) {own : String} {index : Nat} (hown : s.vm.findClass own = some m.cls) (hlink : (Cond.methodLink own index arraycopyName).before args s = true) (hnat : (Cond.native arraycopyName).before args s = true) (hstat : (Cond.static arraycopyName).before args s = true) (hini : (Cond.initialized "java/lang/System").before args s = true)
    (hK : va_K D vwCl (zty tc) s) (hG : zG D tc A s s.heap) (hM : zP D vwCl tc A M H) (hS : va_S A s.heap H locs) {a0 n0 n1 : Nat} {f g : Nat → Option Nat} (ha0 : M a0 = some (.inl (2, n0, .inr (.inr (.inr (.inr f)))))) (ha1 : M a = some (.inl (2, n1, .inr (.inr (.inr (.inr g)))))) {sp dp n : Int32} (h1 : ¬ sp < 0) (h2 : ¬ dp < 0) (h3 : ¬ n < 0) (h4 : sp.toNatClampNeg + n.toNatClampNeg ≤ n0) (h5 : dp.toNatClampNeg + n.toNatClampNeg ≤ n1) (hel : ∀ i : Nat, i < n.toNatClampNeg → ∀ y : Nat, f (sp.toNatClampNeg + i) = some y → ∃ (ci : Nat) (fs : List Value), M y = some (.inr (ci, fs)) ∧ 1 ≤ ci ∧ ci ≤ 3)
    (hframes : 1 ≤ R.frames) (hlocals : (rest.map fun v => v.category).sum + (nativeFrameWords "java/lang/System" "arraycopy" 5 + 11) ≤ R.locals) (hdg : decode cc pc = .ok (.invokestatic index, 3))
    (kk : ∀ (H1 : Heap) (locs1 : List Loc), zP D vwCl tc A (va_up M a (some (.inl (2, n1, .inr (.inr (.inr (.inr (va_cpy f g sp.toNatClampNeg dp.toNatClampNeg n.toNatClampNeg)))))))) H1 → va_S A s.heap H1 locs1 → W p l e R s m args below meth c H1 locs1 cells slots Q (F0 m (pc + 3) ls rest)) : W p l e R s m args below meth c H locs cells slots Q (F0 m pc ls (.int n :: .int dp :: .ref a :: .int sp :: .ref a0 :: rest)) := by
  obtain ⟨ws, q1, hP, hD, hq, hin2, hz⟩ := z_open hM ha1
  obtain ⟨q0, hq0⟩ := hin2 a0 _ ha0
  exact va_copyM hexec hb hml hown hlink hnat hstat hini hK hP hD hS q0 q1 2 2 hq0 hq rfl rfl h1 h2 h3 h4 h5 (fun i hi y hy => by obtain ⟨ci, fs, e1, e2⟩ := hel i hi y hy; exact z_any hK hG hM e1 e2) hframes hlocals hdg (fun H1 locs1 hP1 hD1 hS1 => kk H1 locs1 (hz (.inl (2, n1, .inr (.inr (.inr (.inr (va_cpy f g sp.toNatClampNeg dp.toNatClampNeg n.toNatClampNeg)))))) H1 hP1 hD1) hS1)
end ZY
def wIA (M : zM) (a : Nat) : Prop := ∃ x : vp_A, M a = some (.inl (2, x))
def wCP (M : zM) (a0 : Nat) (sp : Int32) (a : Nat) (dp n : Int32) (K : zM → Prop) : Prop := ∃ (n0 n1 : Nat) (f g : Nat → Option Nat), M a0 = some (.inl (2, n0, .inr (.inr (.inr (.inr f))))) ∧ M a = some (.inl (2, n1, .inr (.inr (.inr (.inr g))))) ∧ ¬ sp < 0 ∧ ¬ dp < 0 ∧ ¬ n < 0 ∧ sp.toNatClampNeg + n.toNatClampNeg ≤ n0 ∧ dp.toNatClampNeg + n.toNatClampNeg ≤ n1 ∧ (∀ i : Nat, i < n.toNatClampNeg → ∀ y : Nat, f (sp.toNatClampNeg + i) = some y → ∃ (ci : Nat) (fs : List Value), M y = some (.inr (ci, fs)) ∧ 1 ≤ ci ∧ ci ≤ 3) ∧ K (va_up M a (some (.inl (2, n1, .inr (.inr (.inr (.inr (va_cpy f g sp.toNatClampNeg dp.toNatClampNeg n.toNatClampNeg))))))))
end
section
theorem z_goodW {own : String} {idx : Nat} {y : MethodName} {bytes : ByteArray} {maxL : Nat} {ret : Option FieldType} {hh : List (Nat × Nat × Nat × Nat)} (h1 : Cond.methodLink own idx y ∈ zTB) (h2 : Cond.static y ∈ zTB) (h3 : Cond.initialized y.cls ∈ zTB) (h4 : Cond.codeWith y bytes maxL ret hh ∈ zTB) : GoodIn zTB (va_wsS own idx y (.codeWith y bytes maxL ret hh :: zTB)) := by
  intro w hw
  simp only [va_wsS, List.cons_append, List.nil_append, List.mem_cons] at hw
  rcases hw with rfl | rfl | rfl | rfl | h
  · exact zTB_good _ h1
  · exact zTB_good _ h2
  · exact zTB_good _ h3
  · exact zTB_good _ h4
  · exact zTB_good _ h
theorem cw_A_102 {args : Array Value} {s : State} (htb : ∀ w ∈ zTB, w.before args s = true) {R rm : Room} (h : rm.frames + 1 ≤ R.frames ∧ 8 + (2 + 11) + rm.locals ≤ R.locals) : CallW R s args R_A R_A 102 yA_alarmOf cA_alarmOf 2 (some (.object "AlertRows$Alarm")) (.code yA_alarmOf cA_alarmOf 2 (some (.object "AlertRows$Alarm")) :: zTB) rm rm.cells rm.slots 1 := ⟨(callB_of 1 htb (z_good t_473) rfl rfl rfl (htb _ t_1) (htb _ t_470) (by decide +kernel) h), htb _ t_472, htb _ ts_A_alarmOf⟩
theorem cw_A_106 {args : Array Value} {s : State} (htb : ∀ w ∈ zTB, w.before args s = true) {R rm : Room} (h : rm.frames + 1 ≤ R.frames ∧ 8 + (2 + 11) + rm.locals ≤ R.locals) : CallW R s args R_A R_A 106 yA_requirePerson cA_requirePerson 2 none (.code yA_requirePerson cA_requirePerson 2 none :: zTB) rm rm.cells rm.slots 1 := ⟨(callB_of 1 htb (z_good t_379) rfl rfl rfl (htb _ t_1) (htb _ t_376) (by decide +kernel) h), htb _ t_378, htb _ ts_A_requirePerson⟩
theorem cw_A_111 {args : Array Value} {s : State} (htb : ∀ w ∈ zTB, w.before args s = true) {R rm : Room} (h : rm.frames + 1 ≤ R.frames ∧ 8 + (2 + 11) + rm.locals ≤ R.locals) : CallW R s args R_A R_L 111 yL_hasReached cL_hasReached 2 (some .boolean) (.code yL_hasReached cL_hasReached 2 (some .boolean) :: zTB) rm rm.cells rm.slots 1 := ⟨(callB_of 1 htb (z_good t_483) rfl rfl rfl (htb _ t_21) (htb _ t_480) (by decide +kernel) h), htb _ t_481, htb _ t_482⟩
theorem cw_A_122 {args : Array Value} {s : State} (htb : ∀ w ∈ zTB, w.before args s = true) {R rm : Room} (h : rm.frames + 1 ≤ R.frames ∧ 8 + (3 + 11) + rm.locals ≤ R.locals) : CallW R s args R_A R_L 122 yL_hasReachedBy cL_hasReachedBy 3 (some .boolean) (.code yL_hasReachedBy cL_hasReachedBy 3 (some .boolean) :: zTB) rm rm.cells rm.slots 2 := ⟨(callB_of 2 htb (z_good t_492) rfl rfl rfl (htb _ t_21) (htb _ t_489) (by decide +kernel) h), htb _ t_490, htb _ t_491⟩
theorem cw_A_130 {args : Array Value} {s : State} (htb : ∀ w ∈ zTB, w.before args s = true) {R rm : Room} (h : rm.frames + 1 ≤ R.frames ∧ 8 + (3 + 11) + rm.locals ≤ R.locals) : CallW R s args R_A R_L 130 yL_note cL_note 3 none (.code yL_note cL_note 3 none :: zTB) rm rm.cells rm.slots 2 := ⟨(callB_of 2 htb (z_good t_497) rfl rfl rfl (htb _ t_21) (htb _ t_494) (by decide +kernel) h), htb _ t_495, htb _ t_496⟩
theorem cw_A_136 {args : Array Value} {s : State} (htb : ∀ w ∈ zTB, w.before args s = true) {R rm : Room} (h : rm.frames + 1 ≤ R.frames ∧ 8 + (5 + 11) + rm.locals ≤ R.locals) : CallW R s args R_A R_A 136 yA_noteLate cA_noteLate 5 (some .int) (.code yA_noteLate cA_noteLate 5 (some .int) :: zTB) rm rm.cells rm.slots 2 := ⟨(callB_of 2 htb (z_good t_501) rfl rfl rfl (htb _ t_1) (htb _ t_498) (by decide +kernel) h), htb _ t_500, htb _ ts_A_noteLate⟩
theorem cw_A_148 {args : Array Value} {s : State} (htb : ∀ w ∈ zTB, w.before args s = true) {R rm : Room} (h : rm.frames + 1 ≤ R.frames ∧ 8 + (6 + 11) + rm.locals ≤ R.locals) : CallW R s args R_A R_A 148 yA_firstDue cA_firstDue 6 (some .int) (.code yA_firstDue cA_firstDue 6 (some .int) :: zTB) rm rm.cells rm.slots 1 := ⟨(callB_of 1 htb (z_good t_519) rfl rfl rfl (htb _ t_1) (htb _ t_516) (by decide +kernel) h), htb _ t_518, htb _ ts_A_firstDue⟩
theorem cw_A_152 {args : Array Value} {s : State} (htb : ∀ w ∈ zTB, w.before args s = true) {R rm : Room} (h : rm.frames + 1 ≤ R.frames ∧ 8 + (4 + 11) + rm.locals ≤ R.locals) : CallW R s args R_A R_A 152 yA_closeAlarm cA_closeAlarm 4 none (.code yA_closeAlarm cA_closeAlarm 4 none :: zTB) rm rm.cells rm.slots 1 := ⟨(callB_of 1 htb (z_good t_523) rfl rfl rfl (htb _ t_1) (htb _ t_520) (by decide +kernel) h), htb _ t_522, htb _ ts_A_closeAlarm⟩
theorem cw_A_155 {args : Array Value} {s : State} (htb : ∀ w ∈ zTB, w.before args s = true) {R rm : Room} (h : rm.frames + 1 ≤ R.frames ∧ 8 + (1 + 11) + rm.locals ≤ R.locals) : CallW R s args R_A R_L 155 yL_askedPersons cL_askedPersons 1 (some .int) (.code yL_askedPersons cL_askedPersons 1 (some .int) :: zTB) rm rm.cells rm.slots 0 := ⟨(callB_of 0 htb (z_good t_538) rfl rfl rfl (htb _ t_21) (htb _ t_535) (by decide +kernel) h), htb _ t_536, htb _ t_537⟩
theorem cw_A_158 {args : Array Value} {s : State} (htb : ∀ w ∈ zTB, w.before args s = true) {R rm : Room} (h : rm.frames + 1 ≤ R.frames ∧ 8 + (1 + 11) + rm.locals ≤ R.locals) : CallW R s args R_A R_L 158 yL_reachedPersons cL_reachedPersons 1 (some .int) (.code yL_reachedPersons cL_reachedPersons 1 (some .int) :: zTB) rm rm.cells rm.slots 0 := ⟨(callB_of 0 htb (z_good t_565) rfl rfl rfl (htb _ t_21) (htb _ t_562) (by decide +kernel) h), htb _ t_563, htb _ t_564⟩
theorem cw_A_161 {args : Array Value} {s : State} (htb : ∀ w ∈ zTB, w.before args s = true) {R rm : Room} (h : rm.frames + 1 ≤ R.frames ∧ 8 + (1 + 11) + rm.locals ≤ R.locals) : CallW R s args R_A R_L 161 yL_answeredPersons cL_answeredPersons 1 (some .int) (.code yL_answeredPersons cL_answeredPersons 1 (some .int) :: zTB) rm rm.cells rm.slots 0 := ⟨(callB_of 0 htb (z_good t_542) rfl rfl rfl (htb _ t_21) (htb _ t_539) (by decide +kernel) h), htb _ t_540, htb _ t_541⟩
theorem cw_A_164 {args : Array Value} {s : State} (htb : ∀ w ∈ zTB, w.before args s = true) {R rm : Room} (h : rm.frames + 1 ≤ R.frames ∧ 8 + (1 + 11) + rm.locals ≤ R.locals) : CallW R s args R_A R_L 164 yL_comingPersons cL_comingPersons 1 (some .int) (.code yL_comingPersons cL_comingPersons 1 (some .int) :: zTB) rm rm.cells rm.slots 0 := ⟨(callB_of 0 htb (z_good t_527) rfl rfl rfl (htb _ t_21) (htb _ t_524) (by decide +kernel) h), htb _ t_525, htb _ t_526⟩
theorem cw_A_178 {args : Array Value} {s : State} (htb : ∀ w ∈ zTB, w.before args s = true) {R rm : Room} (h : rm.frames + 1 ≤ R.frames ∧ 8 + (1 + 11) + rm.locals ≤ R.locals) : CallB R s args R_A 178 yA_requireNotBelowZero cA_requireNotBelowZero 1 none (.code yA_requireNotBelowZero cA_requireNotBelowZero 1 none :: zTB) rm rm.cells rm.slots 1 ∧ (Cond.static yA_requireNotBelowZero).before args s = true := ⟨(callB_of 1 htb (z_good t_576) rfl rfl rfl (htb _ t_1) (htb _ t_574) (by decide +kernel) h), htb _ t_575⟩
theorem cw_A_181 {args : Array Value} {s : State} (htb : ∀ w ∈ zTB, w.before args s = true) {R rm : Room} (h : rm.frames + 1 ≤ R.frames ∧ 8 + (4 + 11) + rm.locals ≤ R.locals) : CallW R s args R_A R_L 181 yL_comerAt cL_comerAt 4 (some .int) (.code yL_comerAt cL_comerAt 4 (some .int) :: zTB) rm rm.cells rm.slots 1 := ⟨(callB_of 1 htb (z_good t_581) rfl rfl rfl (htb _ t_21) (htb _ t_578) (by decide +kernel) h), htb _ t_579, htb _ t_580⟩
theorem cw_A_184 {args : Array Value} {s : State} (htb : ∀ w ∈ zTB, w.before args s = true) {R rm : Room} (h : rm.frames + 1 ≤ R.frames ∧ 8 + (2 + 11) + rm.locals ≤ R.locals) : CallW R s args R_A R_L 184 yL_reachOf cL_reachOf 2 (some .int) (.code yL_reachOf cL_reachOf 2 (some .int) :: zTB) rm rm.cells rm.slots 1 := ⟨(callB_of 1 htb (z_good t_487) rfl rfl rfl (htb _ t_21) (htb _ t_593) (by decide +kernel) h), htb _ t_485, htb _ t_486⟩
theorem cw_A_195 {args : Array Value} {s : State} (htb : ∀ w ∈ zTB, w.before args s = true) {R rm : Room} (h : rm.frames + 1 ≤ R.frames ∧ 8 + (6 + 11) + rm.locals ≤ R.locals) : CallB R s args R_A 195 yA_commonDivisor cA_commonDivisor 6 (some .int) (.code yA_commonDivisor cA_commonDivisor 6 (some .int) :: zTB) rm rm.cells rm.slots 2 ∧ (Cond.static yA_commonDivisor).before args s = true := ⟨(callB_of 2 htb (z_good t_605) rfl rfl rfl (htb _ t_1) (htb _ t_603) (by decide +kernel) h), htb _ t_604⟩
theorem cw_A_203 {args : Array Value} {s : State} (htb : ∀ w ∈ zTB, w.before args s = true) {R rm : Room} (h : rm.frames + 1 ≤ R.frames ∧ 8 + (2 + 11) + rm.locals ≤ R.locals) : CallW R s args R_A R_Y 203 yY_get cY_get 2 (some (.object "java/lang/Object")) (.code yY_get cY_get 2 (some (.object "java/lang/Object")) :: zTB) rm rm.cells rm.slots 1 := ⟨(callB_of 1 htb (z_good t_298) rfl rfl rfl (htb _ t_4) (htb _ t_295) (by decide +kernel) h), htb _ t_296, htb _ t_297⟩
theorem cw_A_207 {args : Array Value} {s : State} (htb : ∀ w ∈ zTB, w.before args s = true) {R rm : Room} (h : rm.frames + 1 ≤ R.frames ∧ 8 + (1 + 11) + rm.locals ≤ R.locals) : CallW R s args R_A R_P 207 yP_neverAnswers cP_neverAnswers 1 (some .boolean) (.code yP_neverAnswers cP_neverAnswers 1 (some .boolean) :: zTB) rm rm.cells rm.slots 0 := ⟨(callB_of 0 htb (z_good t_632) rfl rfl rfl (htb _ t_20) (htb _ t_629) (by decide +kernel) h), htb _ t_630, htb _ t_631⟩
theorem cw_A_211 {args : Array Value} {s : State} (htb : ∀ w ∈ zTB, w.before args s = true) {R rm : Room} (h : rm.frames + 1 ≤ R.frames ∧ 8 + (3 + 11) + rm.locals ≤ R.locals) : CallW R s args R_A R_A 211 yA_openAlarms cA_openAlarms 3 (some .int) (.code yA_openAlarms cA_openAlarms 3 (some .int) :: zTB) rm rm.cells rm.slots 0 := ⟨(callB_of 0 htb (z_good t_643) rfl rfl rfl (htb _ t_1) (htb _ t_640) (by decide +kernel) h), htb _ t_642, htb _ ts_A_openAlarms⟩
theorem cw_A_224 {args : Array Value} {s : State} (htb : ∀ w ∈ zTB, w.before args s = true) {R rm : Room} (h : rm.frames + 1 ≤ R.frames ∧ 8 + (2 + 11) + rm.locals ≤ R.locals) : CallW R s args R_A R_A 224 yA_requireAlarm cA_requireAlarm 2 none (.code yA_requireAlarm cA_requireAlarm 2 none :: zTB) rm rm.cells rm.slots 1 := ⟨(callB_of 1 htb (z_good t_477) rfl rfl rfl (htb _ t_1) (htb _ t_474) (by decide +kernel) h), htb _ t_476, htb _ ts_A_requireAlarm⟩
theorem cw_A_227 {args : Array Value} {s : State} (htb : ∀ w ∈ zTB, w.before args s = true) {R rm : Room} (h : rm.frames + 1 ≤ R.frames ∧ 8 + (3 + 11) + rm.locals ≤ R.locals) : CallW R s args R_A R_P 227 yP_wouldBeAsked cP_wouldBeAsked 3 (some .boolean) (.code yP_wouldBeAsked cP_wouldBeAsked 3 (some .boolean) :: zTB) rm rm.cells rm.slots 2 := ⟨(callB_of 2 htb (z_good t_408) rfl rfl rfl (htb _ t_20) (htb _ t_405) (by decide +kernel) h), htb _ t_406, htb _ t_407⟩
theorem cw_A_233 {args : Array Value} {s : State} (htb : ∀ w ∈ zTB, w.before args s = true) {R rm : Room} (h : rm.frames + 1 ≤ R.frames ∧ 8 + (6 + 11) + rm.locals ≤ R.locals) : CallB R s args R_A 233 yL_init cL_init 6 none (.code yL_init cL_init 6 none :: zTB) rm rm.cells rm.slots 5 ∧ (yL_init).name = "<init>" ∧ (Cond.instanceMethod yL_init).before args s = true := ⟨(callB_of 5 htb (z_good t_419) rfl rfl rfl (htb _ t_21) (htb _ t_417) (by decide +kernel) h), rfl, htb _ t_418⟩
theorem cw_A_236 {args : Array Value} {s : State} (htb : ∀ w ∈ zTB, w.before args s = true) {R rm : Room} (h : rm.frames + 1 ≤ R.frames ∧ 8 + (2 + 11) + rm.locals ≤ R.locals) : CallW R s args R_A R_P 236 yP_reachNow cP_reachNow 2 (some .int) (.code yP_reachNow cP_reachNow 2 (some .int) :: zTB) rm rm.cells rm.slots 0 := ⟨(callB_of 0 htb (z_good t_458) rfl rfl rfl (htb _ t_20) (htb _ t_455) (by decide +kernel) h), htb _ t_456, htb _ t_457⟩
theorem cw_A_239 {args : Array Value} {s : State} (htb : ∀ w ∈ zTB, w.before args s = true) {R rm : Room} (h : rm.frames + 1 ≤ R.frames ∧ 8 + (3 + 11) + rm.locals ≤ R.locals) : CallW R s args R_A R_L 239 yL_ask cL_ask 3 none (.code yL_ask cL_ask 3 none :: zTB) rm rm.cells rm.slots 2 := ⟨(callB_of 2 htb (z_good t_462) rfl rfl rfl (htb _ t_21) (htb _ t_459) (by decide +kernel) h), htb _ t_460, htb _ t_461⟩
theorem cw_A_242 {args : Array Value} {s : State} (htb : ∀ w ∈ zTB, w.before args s = true) {R rm : Room} (h : rm.frames + 1 ≤ R.frames ∧ 8 + (2 + 11) + rm.locals ≤ R.locals) : CallW R s args R_A R_L 242 yL_hasAsked cL_hasAsked 2 (some .boolean) (.code yL_hasAsked cL_hasAsked 2 (some .boolean) :: zTB) rm rm.cells rm.slots 1 := ⟨(callB_of 1 htb (z_good t_505) rfl rfl rfl (htb _ t_21) (htb _ t_502) (by decide +kernel) h), htb _ t_503, htb _ t_504⟩
theorem cw_A_254 {args : Array Value} {s : State} (htb : ∀ w ∈ zTB, w.before args s = true) {R rm : Room} (h : rm.frames + 1 ≤ R.frames ∧ 8 + (4 + 11) + rm.locals ≤ R.locals) : CallW R s args R_A R_A 254 yA_addUp cA_addUp 4 none (.code yA_addUp cA_addUp 4 none :: zTB) rm rm.cells rm.slots 2 := ⟨(callB_of 2 htb (z_good t_534) rfl rfl rfl (htb _ t_1) (htb _ t_531) (by decide +kernel) h), htb _ t_533, htb _ ts_A_addUp⟩
theorem cw_A_262 {args : Array Value} {s : State} (htb : ∀ w ∈ zTB, w.before args s = true) {R rm : Room} (h : rm.frames + 1 ≤ R.frames ∧ 8 + (3 + 11) + rm.locals ≤ R.locals) : CallW R s args R_A R_A 262 yA_raiseSecond cA_raiseSecond 3 none (.code yA_raiseSecond cA_raiseSecond 3 none :: zTB) rm rm.cells rm.slots 2 := ⟨(callB_of 2 htb (z_good t_554) rfl rfl rfl (htb _ t_1) (htb _ t_551) (by decide +kernel) h), htb _ t_553, htb _ ts_A_raiseSecond⟩
theorem cw_A_265 {args : Array Value} {s : State} (htb : ∀ w ∈ zTB, w.before args s = true) {R rm : Room} (h : rm.frames + 1 ≤ R.frames ∧ 8 + (2 + 11) + rm.locals ≤ R.locals) : CallW R s args R_A R_L 265 yL_hasAnswer cL_hasAnswer 2 (some .boolean) (.code yL_hasAnswer cL_hasAnswer 2 (some .boolean) :: zTB) rm rm.cells rm.slots 1 := ⟨(callB_of 1 htb (z_good t_546) rfl rfl rfl (htb _ t_21) (htb _ t_543) (by decide +kernel) h), htb _ t_544, htb _ t_545⟩
theorem cw_A_268 {args : Array Value} {s : State} (htb : ∀ w ∈ zTB, w.before args s = true) {R rm : Room} (h : rm.frames + 1 ≤ R.frames ∧ 8 + (2 + 11) + rm.locals ≤ R.locals) : CallW R s args R_A R_P 268 yP_addClosed cP_addClosed 2 none (.code yP_addClosed cP_addClosed 2 none :: zTB) rm rm.cells rm.slots 1 := ⟨(callB_of 1 htb (z_good t_550) rfl rfl rfl (htb _ t_20) (htb _ t_547) (by decide +kernel) h), htb _ t_548, htb _ t_549⟩
theorem cw_A_31 {args : Array Value} {s : State} (htb : ∀ w ∈ zTB, w.before args s = true) {R rm : Room} (h : rm.frames + 1 ≤ R.frames ∧ 8 + (1 + 11) + rm.locals ≤ R.locals) : CallW R s args R_A R_Y 31 yY_size cY_size 1 (some .int) (.code yY_size cY_size 1 (some .int) :: zTB) rm rm.cells rm.slots 0 := ⟨(callB_of 0 htb (z_good t_162) rfl rfl rfl (htb _ t_4) (htb _ t_159) (by decide +kernel) h), htb _ t_160, htb _ t_161⟩
theorem cw_A_42 {args : Array Value} {s : State} (htb : ∀ w ∈ zTB, w.before args s = true) {R rm : Room} (h : rm.frames + 1 ≤ R.frames ∧ 8 + (3 + 11) + rm.locals ≤ R.locals) : CallB R s args R_A 42 yG_init cG_init 3 none (.code yG_init cG_init 3 none :: zTB) rm rm.cells rm.slots 2 ∧ (yG_init).name = "<init>" ∧ (Cond.instanceMethod yG_init).before args s = true := ⟨(callB_of 2 htb (z_good t_183) rfl rfl rfl (htb _ t_11) (htb _ t_181) (by decide +kernel) h), rfl, htb _ t_182⟩
theorem cw_A_45 {args : Array Value} {s : State} (htb : ∀ w ∈ zTB, w.before args s = true) {R rm : Room} (h : rm.frames + 1 ≤ R.frames ∧ 8 + (2 + 11) + rm.locals ≤ R.locals) : CallW R s args R_A R_Y 45 yY_add1 cY_add1 2 (some .boolean) (.code yY_add1 cY_add1 2 (some .boolean) :: zTB) rm rm.cells rm.slots 1 := ⟨(callB_of 1 htb (z_good t_207) rfl rfl rfl (htb _ t_4) (htb _ t_204) (by decide +kernel) h), htb _ t_205, htb _ t_206⟩
theorem cw_A_49 {args : Array Value} {s : State} (htb : ∀ w ∈ zTB, w.before args s = true) {R rm : Room} (h : rm.frames + 1 ≤ R.frames ∧ 8 + (2 + 11) + rm.locals ≤ R.locals) : CallW R s args R_A R_A 49 yA_groupOf cA_groupOf 2 (some (.object "AlertRows$Group")) (.code yA_groupOf cA_groupOf 2 (some (.object "AlertRows$Group")) :: zTB) rm rm.cells rm.slots 1 := ⟨(callB_of 1 htb (z_good t_274) rfl rfl rfl (htb _ t_1) (htb _ t_271) (by decide +kernel) h), htb _ t_273, htb _ ts_A_groupOf⟩
theorem cw_A_53 {args : Array Value} {s : State} (htb : ∀ w ∈ zTB, w.before args s = true) {R rm : Room} (h : rm.frames + 1 ≤ R.frames ∧ 8 + (2 + 11) + rm.locals ≤ R.locals) : CallW R s args R_A R_A 53 yA_requireGroup cA_requireGroup 2 none (.code yA_requireGroup cA_requireGroup 2 none :: zTB) rm rm.cells rm.slots 1 := ⟨(callB_of 1 htb (z_good t_278) rfl rfl rfl (htb _ t_1) (htb _ t_275) (by decide +kernel) h), htb _ t_277, htb _ ts_A_requireGroup⟩
theorem cw_A_70 {args : Array Value} {s : State} (htb : ∀ w ∈ zTB, w.before args s = true) {R rm : Room} (h : rm.frames + 1 ≤ R.frames ∧ 8 + (2 + 11) + rm.locals ≤ R.locals) : CallB R s args R_A 70 yP_init cP_init 2 none (.code yP_init cP_init 2 none :: zTB) rm rm.cells rm.slots 1 ∧ (yP_init).name = "<init>" ∧ (Cond.instanceMethod yP_init).before args s = true := ⟨(callB_of 1 htb (z_good t_337) rfl rfl rfl (htb _ t_20) (htb _ t_335) (by decide +kernel) h), rfl, htb _ t_336⟩
theorem cw_A_72 {args : Array Value} {s : State} (htb : ∀ w ∈ zTB, w.before args s = true) {R rm : Room} (h : rm.frames + 1 ≤ R.frames ∧ 8 + (2 + 11) + rm.locals ≤ R.locals) : CallW R s args R_A R_A 72 yA_personOf cA_personOf 2 (some (.object "AlertRows$Person")) (.code yA_personOf cA_personOf 2 (some (.object "AlertRows$Person")) :: zTB) rm rm.cells rm.slots 1 := ⟨(callB_of 1 htb (z_good t_375) rfl rfl rfl (htb _ t_1) (htb _ t_372) (by decide +kernel) h), htb _ t_374, htb _ ts_A_personOf⟩
theorem cw_A_78 {args : Array Value} {s : State} (htb : ∀ w ∈ zTB, w.before args s = true) {R rm : Room} (h : rm.frames + 1 ≤ R.frames ∧ 8 + (4 + 11) + rm.locals ≤ R.locals) : CallW R s args R_A R_P 78 yP_setWay cP_setWay 4 none (.code yP_setWay cP_setWay 4 none :: zTB) rm rm.cells rm.slots 2 := ⟨(callB_of 2 htb (z_good t_385) rfl rfl rfl (htb _ t_20) (htb _ t_382) (by decide +kernel) h), htb _ t_383, htb _ t_384⟩
theorem cw_A_9 {args : Array Value} {s : State} (htb : ∀ w ∈ zTB, w.before args s = true) {R rm : Room} (h : rm.frames + 1 ≤ R.frames ∧ 8 + (1 + 11) + rm.locals ≤ R.locals) : CallB R s args R_A 9 yY_init cY_init 1 none (.code yY_init cY_init 1 none :: zTB) rm rm.cells rm.slots 0 ∧ (yY_init).name = "<init>" ∧ (Cond.instanceMethod yY_init).before args s = true := ⟨(callB_of 0 htb (z_good t_35) rfl rfl rfl (htb _ t_4) (htb _ t_33) (by decide +kernel) h), rfl, htb _ t_34⟩
theorem cw_A_90 {args : Array Value} {s : State} (htb : ∀ w ∈ zTB, w.before args s = true) {R rm : Room} (h : rm.frames + 1 ≤ R.frames ∧ 8 + (4 + 11) + rm.locals ≤ R.locals) : CallW R s args R_A R_A 90 yA_wouldAskSomebody cA_wouldAskSomebody 4 (some .boolean) (.code yA_wouldAskSomebody cA_wouldAskSomebody 4 (some .boolean) :: zTB) rm rm.cells rm.slots 2 := ⟨(callB_of 2 htb (z_good t_404) rfl rfl rfl (htb _ t_1) (htb _ t_401) (by decide +kernel) h), htb _ t_403, htb _ ts_A_wouldAskSomebody⟩
theorem cw_A_98 {args : Array Value} {s : State} (htb : ∀ w ∈ zTB, w.before args s = true) {R rm : Room} (h : rm.frames + 1 ≤ R.frames ∧ 8 + (7 + 11) + rm.locals ≤ R.locals) : CallW R s args R_A R_A 98 yA_raise cA_raise 7 none (.code yA_raise cA_raise 7 none :: zTB) rm rm.cells rm.slots 3 := ⟨(callB_of 3 htb (z_good t_414) rfl rfl rfl (htb _ t_1) (htb _ t_411) (by decide +kernel) h), htb _ t_413, htb _ ts_A_raise⟩
theorem cw_L_38 {args : Array Value} {s : State} (htb : ∀ w ∈ zTB, w.before args s = true) {R rm : Room} (h : rm.frames + 1 ≤ R.frames ∧ 8 + (4 + 11) + rm.locals ≤ R.locals) : CallB R s args R_L 38 yYA_fill cYA_fill 4 none (.code yYA_fill cYA_fill 4 none :: zTB) rm rm.cells rm.slots 2 ∧ (Cond.static yYA_fill).before args s = true := ⟨(callB_of 2 htb (z_good t_423) rfl rfl rfl (htb _ t_14) (htb _ t_421) (by decide +kernel) h), htb _ t_422⟩
theorem cw_L_44 {args : Array Value} {s : State} (htb : ∀ w ∈ zTB, w.before args s = true) {R rm : Room} (h : rm.frames + 1 ≤ R.frames ∧ 8 + (2 + 11) + rm.locals ≤ R.locals) : CallW R s args R_L R_L 44 yL_reachOf cL_reachOf 2 (some .int) (.code yL_reachOf cL_reachOf 2 (some .int) :: zTB) rm rm.cells rm.slots 1 := ⟨(callB_of 1 htb (z_good t_487) rfl rfl rfl (htb _ t_21) (htb _ t_484) (by decide +kernel) h), htb _ t_485, htb _ t_486⟩
theorem cw_L_48 {args : Array Value} {s : State} (htb : ∀ w ∈ zTB, w.before args s = true) {R rm : Room} (h : rm.frames + 1 ≤ R.frames ∧ 8 + (2 + 11) + rm.locals ≤ R.locals) : CallW R s args R_L R_L 48 yL_hasReached cL_hasReached 2 (some .boolean) (.code yL_hasReached cL_hasReached 2 (some .boolean) :: zTB) rm rm.cells rm.slots 1 := ⟨(callB_of 1 htb (z_good t_483) rfl rfl rfl (htb _ t_21) (htb _ t_493) (by decide +kernel) h), htb _ t_481, htb _ t_482⟩
theorem cw_L_52 {args : Array Value} {s : State} (htb : ∀ w ∈ zTB, w.before args s = true) {R rm : Room} (h : rm.frames + 1 ≤ R.frames ∧ 8 + (7 + 11) + rm.locals ≤ R.locals) : CallB R s args R_L 52 yL_countFrom cL_countFrom 7 (some .int) (.code yL_countFrom cL_countFrom 7 (some .int) :: zTB) rm rm.cells rm.slots 2 ∧ (Cond.static yL_countFrom).before args s = true := ⟨(callB_of 2 htb (z_good t_530) rfl rfl rfl (htb _ t_21) (htb _ t_528) (by decide +kernel) h), htb _ t_529⟩
theorem cw_L_56 {args : Array Value} {s : State} (htb : ∀ w ∈ zTB, w.before args s = true) {R rm : Room} (h : rm.frames + 1 ≤ R.frames ∧ 8 + (6 + 11) + rm.locals ≤ R.locals) : CallW R s args R_L R_L 56 yL_comersBefore cL_comersBefore 6 (some .int) (.code yL_comersBefore cL_comersBefore 6 (some .int) :: zTB) rm rm.cells rm.slots 2 := ⟨(callB_of 2 htb (z_good t_585) rfl rfl rfl (htb _ t_21) (htb _ t_582) (by decide +kernel) h), htb _ t_584, htb _ ts_L_comersBefore⟩
theorem cw_M_101 {args : Array Value} {s : State} (htb : ∀ w ∈ zTB, w.before args s = true) {R rm : Room} (h : rm.frames + 1 ≤ R.frames ∧ 8 + (7 + 11) + rm.locals ≤ R.locals) : CallW R s args R_M R_M 101 yM_begin cM_begin 7 none (.code yM_begin cM_begin 7 none :: zTB) rm rm.cells rm.slots 3 := ⟨(callB_of 3 htb (z_good t_781) rfl rfl rfl (htb _ t_5) (htb _ t_778) (by decide +kernel) h), htb _ t_780, htb _ ts_M_begin⟩
theorem cw_M_105 {args : Array Value} {s : State} (htb : ∀ w ∈ zTB, w.before args s = true) {R rm : Room} (h : rm.frames + 1 ≤ R.frames ∧ 8 + (3 + 11) + rm.locals ≤ R.locals) : CallW R s args R_M R_M 105 yM_isReached cM_isReached 3 (some .boolean) (.code yM_isReached cM_isReached 3 (some .boolean) :: zTB) rm rm.cells rm.slots 2 := ⟨(callB_of 2 htb (z_good t_793) rfl rfl rfl (htb _ t_5) (htb _ t_790) (by decide +kernel) h), htb _ t_792, htb _ ts_M_isReached⟩
theorem cw_M_109 {args : Array Value} {s : State} (htb : ∀ w ∈ zTB, w.before args s = true) {R rm : Room} (h : rm.frames + 1 ≤ R.frames ∧ 8 + (2 + 11) + rm.locals ≤ R.locals) : CallW R s args R_M R_M 109 yM_isAlarm cM_isAlarm 2 (some .boolean) (.code yM_isAlarm cM_isAlarm 2 (some .boolean) :: zTB) rm rm.cells rm.slots 1 := ⟨(callB_of 1 htb (z_good t_789) rfl rfl rfl (htb _ t_5) (htb _ t_786) (by decide +kernel) h), htb _ t_788, htb _ ts_M_isAlarm⟩
theorem cw_M_112 {args : Array Value} {s : State} (htb : ∀ w ∈ zTB, w.before args s = true) {R rm : Room} (h : rm.frames + 1 ≤ R.frames ∧ 8 + (3 + 11) + rm.locals ≤ R.locals) : CallW R s args R_M R_M 112 yM_isThere cM_isThere 3 (some .boolean) (.code yM_isThere cM_isThere 3 (some .boolean) :: zTB) rm rm.cells rm.slots 2 := ⟨(callB_of 2 htb (z_good t_797) rfl rfl rfl (htb _ t_5) (htb _ t_794) (by decide +kernel) h), htb _ t_796, htb _ ts_M_isThere⟩
theorem cw_M_125 {args : Array Value} {s : State} (htb : ∀ w ∈ zTB, w.before args s = true) {R rm : Room} (h : rm.frames + 1 ≤ R.frames ∧ 8 + (6 + 11) + rm.locals ≤ R.locals) : CallW R s args R_M R_M 125 yM_many cM_many 6 (some .int) (.code yM_many cM_many 6 (some .int) :: zTB) rm rm.cells rm.slots 2 := ⟨(callB_of 2 htb (z_good t_806) rfl rfl rfl (htb _ t_5) (htb _ t_803) (by decide +kernel) h), htb _ t_805, htb _ ts_M_many⟩
theorem cw_M_129 {args : Array Value} {s : State} (htb : ∀ w ∈ zTB, w.before args s = true) {R rm : Room} (h : rm.frames + 1 ≤ R.frames ∧ 8 + (4 + 11) + rm.locals ≤ R.locals) : CallW R s args R_M R_M 129 yM_isSilent cM_isSilent 4 (some .boolean) (.code yM_isSilent cM_isSilent 4 (some .boolean) :: zTB) rm rm.cells rm.slots 1 := ⟨(callB_of 1 htb (z_good t_830) rfl rfl rfl (htb _ t_5) (htb _ t_827) (by decide +kernel) h), htb _ t_829, htb _ ts_M_isSilent⟩
theorem cw_M_69 {args : Array Value} {s : State} (htb : ∀ w ∈ zTB, w.before args s = true) {R rm : Room} (h : rm.frames + 1 ≤ R.frames ∧ 8 + (3 + 11) + rm.locals ≤ R.locals) : CallB R s args R_M 69 yM_in cM_in 3 (some .boolean) (.code yM_in cM_in 3 (some .boolean) :: zTB) rm rm.cells rm.slots 3 ∧ (Cond.static yM_in).before args s = true := ⟨(callB_of 3 htb (z_good t_737) rfl rfl rfl (htb _ t_5) (htb _ t_735) (by decide +kernel) h), htb _ t_736⟩
theorem cw_M_79 {args : Array Value} {s : State} (htb : ∀ w ∈ zTB, w.before args s = true) {R rm : Room} (h : rm.frames + 1 ≤ R.frames ∧ 8 + (4 + 11) + rm.locals ≤ R.locals) : CallW R s args R_M R_M 79 yM_goes cM_goes 4 (some .boolean) (.code yM_goes cM_goes 4 (some .boolean) :: zTB) rm rm.cells rm.slots 3 := ⟨(callB_of 3 htb (z_good t_741) rfl rfl rfl (htb _ t_5) (htb _ t_738) (by decide +kernel) h), htb _ t_740, htb _ ts_M_goes⟩
theorem cw_M_83 {args : Array Value} {s : State} (htb : ∀ w ∈ zTB, w.before args s = true) {R rm : Room} (h : rm.frames + 1 ≤ R.frames ∧ 8 + (2 + 11) + rm.locals ≤ R.locals) : CallW R s args R_M R_M 83 yM_isGroup cM_isGroup 2 (some .boolean) (.code yM_isGroup cM_isGroup 2 (some .boolean) :: zTB) rm rm.cells rm.slots 1 := ⟨(callB_of 1 htb (z_good t_749) rfl rfl rfl (htb _ t_5) (htb _ t_746) (by decide +kernel) h), htb _ t_748, htb _ ts_M_isGroup⟩
theorem cw_M_87 {args : Array Value} {s : State} (htb : ∀ w ∈ zTB, w.before args s = true) {R rm : Room} (h : rm.frames + 1 ≤ R.frames ∧ 8 + (2 + 11) + rm.locals ≤ R.locals) : CallW R s args R_M R_M 87 yM_isPerson cM_isPerson 2 (some .boolean) (.code yM_isPerson cM_isPerson 2 (some .boolean) :: zTB) rm rm.cells rm.slots 1 := ⟨(callB_of 1 htb (z_good t_761) rfl rfl rfl (htb _ t_5) (htb _ t_758) (by decide +kernel) h), htb _ t_760, htb _ ts_M_isPerson⟩
theorem cw_M_90 {args : Array Value} {s : State} (htb : ∀ w ∈ zTB, w.before args s = true) {R rm : Room} (h : rm.frames + 1 ≤ R.frames ∧ 8 + (4 + 11) + rm.locals ≤ R.locals) : CallW R s args R_M R_M 90 yM_asks cM_asks 4 (some .boolean) (.code yM_asks cM_asks 4 (some .boolean) :: zTB) rm rm.cells rm.slots 3 := ⟨(callB_of 3 htb (z_good t_777) rfl rfl rfl (htb _ t_5) (htb _ t_774) (by decide +kernel) h), htb _ t_776, htb _ ts_M_asks⟩
theorem cw_M_97 {args : Array Value} {s : State} (htb : ∀ w ∈ zTB, w.before args s = true) {R rm : Room} (h : rm.frames + 1 ≤ R.frames ∧ 8 + (4 + 11) + rm.locals ≤ R.locals) : CallW R s args R_M R_M 97 yM_asksAny cM_asksAny 4 (some .boolean) (.code yM_asksAny cM_asksAny 4 (some .boolean) :: zTB) rm rm.cells rm.slots 2 := ⟨(callB_of 2 htb (z_good t_773) rfl rfl rfl (htb _ t_5) (htb _ t_770) (by decide +kernel) h), htb _ t_772, htb _ ts_M_asksAny⟩
theorem cw_W_100 {args : Array Value} {s : State} (htb : ∀ w ∈ zTB, w.before args s = true) {R rm : Room} (h : rm.frames + 1 ≤ R.frames ∧ 8 + (6 + 11) + rm.locals ≤ R.locals) : vx_CSW R s args R_W 100 yW_answer cW_answer 6 (some .int) [(0, 12, 15, 21), (0, 12, 19, 13), (0, 12, 23, 23)] (.codeWith yW_answer cW_answer 6 (some .int) [(0, 12, 15, 21), (0, 12, 19, 13), (0, 12, 23, 23)] :: zTB) rm rm.cells rm.slots 5 := vx_cwSW 5 htb (z_goodW t_463 t_464 t_0 t_465) rfl rfl rfl (by decide +kernel) h
theorem cw_W_103 {args : Array Value} {s : State} (htb : ∀ w ∈ zTB, w.before args s = true) {R rm : Room} (h : rm.frames + 1 ≤ R.frames ∧ 8 + (7 + 11) + rm.locals ≤ R.locals) : CallW R s args R_W R_M 103 yM_answer cM_answer 7 (some .int) (.code yM_answer cM_answer 7 (some .int) :: zTB) rm rm.cells rm.slots 3 := ⟨(callB_of 3 htb (z_good t_785) rfl rfl rfl (htb _ t_5) (htb _ t_782) (by decide +kernel) h), htb _ t_783, htb _ t_784⟩
theorem cw_W_104 {args : Array Value} {s : State} (htb : ∀ w ∈ zTB, w.before args s = true) {R rm : Room} (h : rm.frames + 1 ≤ R.frames ∧ 8 + (4 + 11) + rm.locals ≤ R.locals) : vx_CSW R s args R_W 104 yW_tick cW_tick 4 (some .int) [(0, 9, 12, 13)] (.codeWith yW_tick cW_tick 4 (some .int) [(0, 9, 12, 13)] :: zTB) rm rm.cells rm.slots 3 := vx_cwSW 3 htb (z_goodW t_506 t_507 t_0 t_508) rfl rfl rfl (by decide +kernel) h
theorem cw_W_106 {args : Array Value} {s : State} (htb : ∀ w ∈ zTB, w.before args s = true) {R rm : Room} (h : rm.frames + 1 ≤ R.frames ∧ 8 + (6 + 11) + rm.locals ≤ R.locals) : CallW R s args R_W R_M 106 yM_tick cM_tick 6 (some .int) (.code yM_tick cM_tick 6 (some .int) :: zTB) rm rm.cells rm.slots 1 := ⟨(callB_of 1 htb (z_good t_801) rfl rfl rfl (htb _ t_5) (htb _ t_798) (by decide +kernel) h), htb _ t_799, htb _ t_800⟩
theorem cw_W_107 {args : Array Value} {s : State} (htb : ∀ w ∈ zTB, w.before args s = true) {R rm : Room} (h : rm.frames + 1 ≤ R.frames ∧ 8 + (5 + 11) + rm.locals ≤ R.locals) : vx_CSW R s args R_W 107 yW_alarmAt cW_alarmAt 5 (some .int) [(0, 10, 13, 21)] (.codeWith yW_alarmAt cW_alarmAt 5 (some .int) [(0, 10, 13, 21)] :: zTB) rm rm.cells rm.slots 4 := vx_cwSW 4 htb (z_goodW t_555 t_556 t_0 t_557) rfl rfl rfl (by decide +kernel) h
theorem cw_W_109 {args : Array Value} {s : State} (htb : ∀ w ∈ zTB, w.before args s = true) {R rm : Room} (h : rm.frames + 1 ≤ R.frames ∧ 8 + (3 + 11) + rm.locals ≤ R.locals) : CallW R s args R_W R_M 109 yM_alarmAt cM_alarmAt 3 (some .int) (.code yM_alarmAt cM_alarmAt 3 (some .int) :: zTB) rm rm.cells rm.slots 2 := ⟨(callB_of 2 htb (z_good t_810) rfl rfl rfl (htb _ t_5) (htb _ t_807) (by decide +kernel) h), htb _ t_808, htb _ t_809⟩
theorem cw_W_110 {args : Array Value} {s : State} (htb : ∀ w ∈ zTB, w.before args s = true) {R rm : Room} (h : rm.frames + 1 ≤ R.frames ∧ 8 + (5 + 11) + rm.locals ≤ R.locals) : vx_CSW R s args R_W 110 yW_comes cW_comes 5 (some .int) [(0, 10, 13, 21), (0, 10, 17, 13)] (.codeWith yW_comes cW_comes 5 (some .int) [(0, 10, 13, 21), (0, 10, 17, 13)] :: zTB) rm rm.cells rm.slots 4 := vx_cwSW 4 htb (z_goodW t_567 t_568 t_0 t_569) rfl rfl rfl (by decide +kernel) h
theorem cw_W_112 {args : Array Value} {s : State} (htb : ∀ w ∈ zTB, w.before args s = true) {R rm : Room} (h : rm.frames + 1 ≤ R.frames ∧ 8 + (9 + 11) + rm.locals ≤ R.locals) : CallW R s args R_W R_M 112 yM_comes cM_comes 9 (some .int) (.code yM_comes cM_comes 9 (some .int) :: zTB) rm rm.cells rm.slots 2 := ⟨(callB_of 2 htb (z_good t_814) rfl rfl rfl (htb _ t_5) (htb _ t_811) (by decide +kernel) h), htb _ t_812, htb _ t_813⟩
theorem cw_W_113 {args : Array Value} {s : State} (htb : ∀ w ∈ zTB, w.before args s = true) {R rm : Room} (h : rm.frames + 1 ≤ R.frames ∧ 8 + (5 + 11) + rm.locals ≤ R.locals) : vx_CSW R s args R_W 113 yW_reached cW_reached 5 (some .int) [(0, 10, 13, 21)] (.codeWith yW_reached cW_reached 5 (some .int) [(0, 10, 13, 21)] :: zTB) rm rm.cells rm.slots 4 := vx_cwSW 4 htb (z_goodW t_586 t_587 t_0 t_588) rfl rfl rfl (by decide +kernel) h
theorem cw_W_115 {args : Array Value} {s : State} (htb : ∀ w ∈ zTB, w.before args s = true) {R rm : Room} (h : rm.frames + 1 ≤ R.frames ∧ 8 + (3 + 11) + rm.locals ≤ R.locals) : CallW R s args R_W R_M 115 yM_reached cM_reached 3 (some .int) (.code yM_reached cM_reached 3 (some .int) :: zTB) rm rm.cells rm.slots 2 := ⟨(callB_of 2 htb (z_good t_818) rfl rfl rfl (htb _ t_5) (htb _ t_815) (by decide +kernel) h), htb _ t_816, htb _ t_817⟩
theorem cw_W_116 {args : Array Value} {s : State} (htb : ∀ w ∈ zTB, w.before args s = true) {R rm : Room} (h : rm.frames + 1 ≤ R.frames ∧ 8 + (5 + 11) + rm.locals ≤ R.locals) : vx_CSW R s args R_W 116 yW_share cW_share 5 (some .int) [(0, 10, 13, 21), (0, 10, 17, 59)] (.codeWith yW_share cW_share 5 (some .int) [(0, 10, 13, 21), (0, 10, 17, 59)] :: zTB) rm rm.cells rm.slots 4 := vx_cwSW 4 htb (z_goodW t_594 t_595 t_0 t_596) rfl rfl rfl (by decide +kernel) h
theorem cw_W_118 {args : Array Value} {s : State} (htb : ∀ w ∈ zTB, w.before args s = true) {R rm : Room} (h : rm.frames + 1 ≤ R.frames ∧ 8 + (8 + 11) + rm.locals ≤ R.locals) : CallW R s args R_W R_M 118 yM_share cM_share 8 (some .int) (.code yM_share cM_share 8 (some .int) :: zTB) rm rm.cells rm.slots 2 := ⟨(callB_of 2 htb (z_good t_822) rfl rfl rfl (htb _ t_5) (htb _ t_819) (by decide +kernel) h), htb _ t_820, htb _ t_821⟩
theorem cw_W_119 {args : Array Value} {s : State} (htb : ∀ w ∈ zTB, w.before args s = true) {R rm : Room} (h : rm.frames + 1 ≤ R.frames ∧ 8 + (4 + 11) + rm.locals ≤ R.locals) : vx_CSW R s args R_W 119 yW_never cW_never 4 (some .int) [(0, 9, 12, 13)] (.codeWith yW_never cW_never 4 (some .int) [(0, 9, 12, 13)] :: zTB) rm rm.cells rm.slots 3 := vx_cwSW 3 htb (z_goodW t_622 t_623 t_0 t_624) rfl rfl rfl (by decide +kernel) h
theorem cw_W_121 {args : Array Value} {s : State} (htb : ∀ w ∈ zTB, w.before args s = true) {R rm : Room} (h : rm.frames + 1 ≤ R.frames ∧ 8 + (4 + 11) + rm.locals ≤ R.locals) : CallW R s args R_W R_M 121 yM_never cM_never 4 (some .int) (.code yM_never cM_never 4 (some .int) :: zTB) rm rm.cells rm.slots 1 := ⟨(callB_of 1 htb (z_good t_826) rfl rfl rfl (htb _ t_5) (htb _ t_823) (by decide +kernel) h), htb _ t_824, htb _ t_825⟩
theorem cw_W_122 {args : Array Value} {s : State} (htb : ∀ w ∈ zTB, w.before args s = true) {R rm : Room} (h : rm.frames + 1 ≤ R.frames ∧ 8 + (4 + 11) + rm.locals ≤ R.locals) : vx_CSW R s args R_W 122 yW_count cW_count 4 (some .int) [(0, 9, 12, 21)] (.codeWith yW_count cW_count 4 (some .int) [(0, 9, 12, 21)] :: zTB) rm rm.cells rm.slots 3 := vx_cwSW 3 htb (z_goodW t_633 t_634 t_0 t_635) rfl rfl rfl (by decide +kernel) h
theorem cw_W_124 {args : Array Value} {s : State} (htb : ∀ w ∈ zTB, w.before args s = true) {R rm : Room} (h : rm.frames + 1 ≤ R.frames ∧ 8 + (4 + 11) + rm.locals ≤ R.locals) : CallW R s args R_W R_M 124 yM_count cM_count 4 (some .int) (.code yM_count cM_count 4 (some .int) :: zTB) rm rm.cells rm.slots 1 := ⟨(callB_of 1 htb (z_good t_834) rfl rfl rfl (htb _ t_5) (htb _ t_831) (by decide +kernel) h), htb _ t_832, htb _ t_833⟩
theorem cw_W_17 {args : Array Value} {s : State} (htb : ∀ w ∈ zTB, w.before args s = true) {R rm : Room} (h : rm.frames + 1 ≤ R.frames ∧ 8 + (4 + 11) + rm.locals ≤ R.locals) : CallW R s args R_W R_A 17 yA_next cA_next 4 none (.code yA_next cA_next 4 none :: zTB) rm rm.cells rm.slots 2 := ⟨(callB_of 2 htb (z_good t_270) rfl rfl rfl (htb _ t_1) (htb _ t_267) (by decide +kernel) h), htb _ t_268, htb _ t_269⟩
theorem cw_W_25 {args : Array Value} {s : State} (htb : ∀ w ∈ zTB, w.before args s = true) {R rm : Room} (h : rm.frames + 1 ≤ R.frames ∧ 8 + (2 + 11) + rm.locals ≤ R.locals) : CallW R s args R_W R_A 25 yA_person cA_person 2 (some .int) (.code yA_person cA_person 2 (some .int) :: zTB) rm rm.cells rm.slots 1 := ⟨(callB_of 1 htb (z_good t_331) rfl rfl rfl (htb _ t_1) (htb _ t_328) (by decide +kernel) h), htb _ t_329, htb _ t_330⟩
theorem cw_W_29 {args : Array Value} {s : State} (htb : ∀ w ∈ zTB, w.before args s = true) {R rm : Room} (h : rm.frames + 1 ≤ R.frames ∧ 8 + (5 + 11) + rm.locals ≤ R.locals) : CallW R s args R_W R_A 29 yA_way cA_way 5 (some .int) (.code yA_way cA_way 5 (some .int) :: zTB) rm rm.cells rm.slots 3 := ⟨(callB_of 3 htb (z_good t_371) rfl rfl rfl (htb _ t_1) (htb _ t_368) (by decide +kernel) h), htb _ t_369, htb _ t_370⟩
theorem cw_W_33 {args : Array Value} {s : State} (htb : ∀ w ∈ zTB, w.before args s = true) {R rm : Room} (h : rm.frames + 1 ≤ R.frames ∧ 8 + (4 + 11) + rm.locals ≤ R.locals) : CallW R s args R_W R_A 33 yA_is cA_is 4 none (.code yA_is cA_is 4 none :: zTB) rm rm.cells rm.slots 2 := ⟨(callB_of 2 htb (z_good t_392) rfl rfl rfl (htb _ t_1) (htb _ t_389) (by decide +kernel) h), htb _ t_390, htb _ t_391⟩
theorem cw_W_36 {args : Array Value} {s : State} (htb : ∀ w ∈ zTB, w.before args s = true) {R rm : Room} (h : rm.frames + 1 ≤ R.frames ∧ 8 + (3 + 11) + rm.locals ≤ R.locals) : CallW R s args R_W R_A 36 yA_alarm cA_alarm 3 (some .int) (.code yA_alarm cA_alarm 3 (some .int) :: zTB) rm rm.cells rm.slots 2 := ⟨(callB_of 2 htb (z_good t_400) rfl rfl rfl (htb _ t_1) (htb _ t_397) (by decide +kernel) h), htb _ t_398, htb _ t_399⟩
theorem cw_W_40 {args : Array Value} {s : State} (htb : ∀ w ∈ zTB, w.before args s = true) {R rm : Room} (h : rm.frames + 1 ≤ R.frames ∧ 8 + (5 + 11) + rm.locals ≤ R.locals) : CallW R s args R_W R_A 40 yA_answer cA_answer 5 (some .int) (.code yA_answer cA_answer 5 (some .int) :: zTB) rm rm.cells rm.slots 3 := ⟨(callB_of 3 htb (z_good t_469) rfl rfl rfl (htb _ t_1) (htb _ t_466) (by decide +kernel) h), htb _ t_467, htb _ t_468⟩
theorem cw_W_44 {args : Array Value} {s : State} (htb : ∀ w ∈ zTB, w.before args s = true) {R rm : Room} (h : rm.frames + 1 ≤ R.frames ∧ 8 + (6 + 11) + rm.locals ≤ R.locals) : CallW R s args R_W R_A 44 yA_tick cA_tick 6 (some .int) (.code yA_tick cA_tick 6 (some .int) :: zTB) rm rm.cells rm.slots 1 := ⟨(callB_of 1 htb (z_good t_512) rfl rfl rfl (htb _ t_1) (htb _ t_509) (by decide +kernel) h), htb _ t_510, htb _ t_511⟩
theorem cw_W_47 {args : Array Value} {s : State} (htb : ∀ w ∈ zTB, w.before args s = true) {R rm : Room} (h : rm.frames + 1 ≤ R.frames ∧ 8 + (4 + 11) + rm.locals ≤ R.locals) : CallW R s args R_W R_A 47 yA_alarmAt cA_alarmAt 4 (some .int) (.code yA_alarmAt cA_alarmAt 4 (some .int) :: zTB) rm rm.cells rm.slots 2 := ⟨(callB_of 2 htb (z_good t_561) rfl rfl rfl (htb _ t_1) (htb _ t_558) (by decide +kernel) h), htb _ t_559, htb _ t_560⟩
theorem cw_W_50 {args : Array Value} {s : State} (htb : ∀ w ∈ zTB, w.before args s = true) {R rm : Room} (h : rm.frames + 1 ≤ R.frames ∧ 8 + (4 + 11) + rm.locals ≤ R.locals) : CallW R s args R_W R_A 50 yA_comes cA_comes 4 (some .int) (.code yA_comes cA_comes 4 (some .int) :: zTB) rm rm.cells rm.slots 2 := ⟨(callB_of 2 htb (z_good t_573) rfl rfl rfl (htb _ t_1) (htb _ t_570) (by decide +kernel) h), htb _ t_571, htb _ t_572⟩
theorem cw_W_53 {args : Array Value} {s : State} (htb : ∀ w ∈ zTB, w.before args s = true) {R rm : Room} (h : rm.frames + 1 ≤ R.frames ∧ 8 + (4 + 11) + rm.locals ≤ R.locals) : CallW R s args R_W R_A 53 yA_reached cA_reached 4 (some .int) (.code yA_reached cA_reached 4 (some .int) :: zTB) rm rm.cells rm.slots 2 := ⟨(callB_of 2 htb (z_good t_592) rfl rfl rfl (htb _ t_1) (htb _ t_589) (by decide +kernel) h), htb _ t_590, htb _ t_591⟩
theorem cw_W_56 {args : Array Value} {s : State} (htb : ∀ w ∈ zTB, w.before args s = true) {R rm : Room} (h : rm.frames + 1 ≤ R.frames ∧ 8 + (5 + 11) + rm.locals ≤ R.locals) : CallW R s args R_W R_A 56 yA_share cA_share 5 (some .int) (.code yA_share cA_share 5 (some .int) :: zTB) rm rm.cells rm.slots 2 := ⟨(callB_of 2 htb (z_good t_601) rfl rfl rfl (htb _ t_1) (htb _ t_598) (by decide +kernel) h), htb _ t_599, htb _ t_600⟩
theorem cw_W_61 {args : Array Value} {s : State} (htb : ∀ w ∈ zTB, w.before args s = true) {R rm : Room} (h : rm.frames + 1 ≤ R.frames ∧ 8 + (4 + 11) + rm.locals ≤ R.locals) : CallW R s args R_W R_A 61 yA_never cA_never 4 (some .int) (.code yA_never cA_never 4 (some .int) :: zTB) rm rm.cells rm.slots 1 := ⟨(callB_of 1 htb (z_good t_628) rfl rfl rfl (htb _ t_1) (htb _ t_625) (by decide +kernel) h), htb _ t_626, htb _ t_627⟩
theorem cw_W_64 {args : Array Value} {s : State} (htb : ∀ w ∈ zTB, w.before args s = true) {R rm : Room} (h : rm.frames + 1 ≤ R.frames ∧ 8 + (2 + 11) + rm.locals ≤ R.locals) : CallW R s args R_W R_A 64 yA_count cA_count 2 (some .int) (.code yA_count cA_count 2 (some .int) :: zTB) rm rm.cells rm.slots 1 := ⟨(callB_of 1 htb (z_good t_639) rfl rfl rfl (htb _ t_1) (htb _ t_636) (by decide +kernel) h), htb _ t_637, htb _ t_638⟩
theorem cw_W_67 {args : Array Value} {s : State} (htb : ∀ w ∈ zTB, w.before args s = true) {R rm : Room} (h : rm.frames + 1 ≤ R.frames ∧ 8 + (1 + 11) + rm.locals ≤ R.locals) : CallB R s args R_W 67 yA_init cA_init 1 none (.code yA_init cA_init 1 none :: zTB) rm rm.cells rm.slots 0 ∧ (yA_init).name = "<init>" ∧ (Cond.instanceMethod yA_init).before args s = true := ⟨(callB_of 0 htb (z_good t_27) rfl rfl rfl (htb _ t_1) (htb _ t_25) (by decide +kernel) h), rfl, htb _ t_26⟩
theorem cw_W_7 {args : Array Value} {s : State} (htb : ∀ w ∈ zTB, w.before args s = true) {R rm : Room} (h : rm.frames + 1 ≤ R.frames ∧ 8 + (3 + 11) + rm.locals ≤ R.locals) : CallW R s args R_W R_A 7 yA_group cA_group 3 (some .int) (.code yA_group cA_group 3 (some .int) :: zTB) rm rm.cells rm.slots 2 := ⟨(callB_of 2 htb (z_good t_87) rfl rfl rfl (htb _ t_1) (htb _ t_84) (by decide +kernel) h), htb _ t_85, htb _ t_86⟩
theorem cw_W_70 {args : Array Value} {s : State} (htb : ∀ w ∈ zTB, w.before args s = true) {R rm : Room} (h : rm.frames + 1 ≤ R.frames ∧ 8 + (1 + 11) + rm.locals ≤ R.locals) : CallB R s args R_W 70 yM_init cM_init 1 none (.code yM_init cM_init 1 none :: zTB) rm rm.cells rm.slots 0 ∧ (yM_init).name = "<init>" ∧ (Cond.instanceMethod yM_init).before args s = true := ⟨(callB_of 0 htb (z_good t_649) rfl rfl rfl (htb _ t_5) (htb _ t_647) (by decide +kernel) h), rfl, htb _ t_648⟩
theorem cw_W_71 {args : Array Value} {s : State} (htb : ∀ w ∈ zTB, w.before args s = true) {R rm : Room} (h : rm.frames + 1 ≤ R.frames ∧ 8 + (5 + 11) + rm.locals ≤ R.locals) : vx_CSW R s args R_W 71 yW_group cW_group 5 (some .int) [(0, 10, 13, 13), (0, 10, 17, 15)] (.codeWith yW_group cW_group 5 (some .int) [(0, 10, 13, 13), (0, 10, 17, 15)] :: zTB) rm rm.cells rm.slots 4 := vx_cwSW 4 htb (z_goodW t_79 t_80 t_0 t_81) rfl rfl rfl (by decide +kernel) h
theorem cw_W_76 {args : Array Value} {s : State} (htb : ∀ w ∈ zTB, w.before args s = true) {R rm : Room} (h : rm.frames + 1 ≤ R.frames ∧ 8 + (3 + 11) + rm.locals ≤ R.locals) : CallW R s args R_W R_M 76 yM_group cM_group 3 (some .int) (.code yM_group cM_group 3 (some .int) :: zTB) rm rm.cells rm.slots 2 := ⟨(callB_of 2 htb (z_good t_734) rfl rfl rfl (htb _ t_5) (htb _ t_731) (by decide +kernel) h), htb _ t_732, htb _ t_733⟩
theorem cw_W_77 {args : Array Value} {s : State} (htb : ∀ w ∈ zTB, w.before args s = true) {R rm : Room} (h : rm.frames + 1 ≤ R.frames ∧ 8 + (1 + 11) + rm.locals ≤ R.locals) : CallW R s args R_W R_M 77 yM_thrown cM_thrown 1 (some .int) (.code yM_thrown cM_thrown 1 (some .int) :: zTB) rm rm.cells rm.slots 0 := ⟨(callB_of 0 htb (z_good t_730) rfl rfl rfl (htb _ t_5) (htb _ t_727) (by decide +kernel) h), htb _ t_728, htb _ t_729⟩
theorem cw_W_81 {args : Array Value} {s : State} (htb : ∀ w ∈ zTB, w.before args s = true) {R rm : Room} (h : rm.frames + 1 ≤ R.frames ∧ 8 + (4 + 11) + rm.locals ≤ R.locals) : vx_CSW R s args R_W 81 yW_next cW_next 4 (some .int) [(0, 6, 9, 21), (0, 6, 12, 23)] (.codeWith yW_next cW_next 4 (some .int) [(0, 6, 9, 21), (0, 6, 12, 23)] :: zTB) rm rm.cells rm.slots 3 := vx_cwSW 3 htb (z_goodW t_262 t_263 t_0 t_264) rfl rfl rfl (by decide +kernel) h
theorem cw_W_84 {args : Array Value} {s : State} (htb : ∀ w ∈ zTB, w.before args s = true) {R rm : Room} (h : rm.frames + 1 ≤ R.frames ∧ 8 + (3 + 11) + rm.locals ≤ R.locals) : CallW R s args R_W R_M 84 yM_next cM_next 3 none (.code yM_next cM_next 3 none :: zTB) rm rm.cells rm.slots 2 := ⟨(callB_of 2 htb (z_good t_745) rfl rfl rfl (htb _ t_5) (htb _ t_742) (by decide +kernel) h), htb _ t_743, htb _ t_744⟩
theorem cw_W_85 {args : Array Value} {s : State} (htb : ∀ w ∈ zTB, w.before args s = true) {R rm : Room} (h : rm.frames + 1 ≤ R.frames ∧ 8 + (4 + 11) + rm.locals ≤ R.locals) : vx_CSW R s args R_W 85 yW_person cW_person 4 (some .int) [(0, 9, 12, 21), (0, 9, 15, 15)] (.codeWith yW_person cW_person 4 (some .int) [(0, 9, 12, 21), (0, 9, 15, 15)] :: zTB) rm rm.cells rm.slots 3 := vx_cwSW 3 htb (z_goodW t_325 t_326 t_0 t_327) rfl rfl rfl (by decide +kernel) h
theorem cw_W_88 {args : Array Value} {s : State} (htb : ∀ w ∈ zTB, w.before args s = true) {R rm : Room} (h : rm.frames + 1 ≤ R.frames ∧ 8 + (2 + 11) + rm.locals ≤ R.locals) : CallW R s args R_W R_M 88 yM_person cM_person 2 (some .int) (.code yM_person cM_person 2 (some .int) :: zTB) rm rm.cells rm.slots 1 := ⟨(callB_of 1 htb (z_good t_753) rfl rfl rfl (htb _ t_5) (htb _ t_750) (by decide +kernel) h), htb _ t_751, htb _ t_752⟩
theorem cw_W_89 {args : Array Value} {s : State} (htb : ∀ w ∈ zTB, w.before args s = true) {R rm : Room} (h : rm.frames + 1 ≤ R.frames ∧ 8 + (6 + 11) + rm.locals ≤ R.locals) : vx_CSW R s args R_W 89 yW_way cW_way 6 (some .int) [(0, 12, 15, 21), (0, 12, 19, 13)] (.codeWith yW_way cW_way 6 (some .int) [(0, 12, 15, 21), (0, 12, 19, 13)] :: zTB) rm rm.cells rm.slots 5 := vx_cwSW 5 htb (z_goodW t_365 t_366 t_0 t_367) rfl rfl rfl (by decide +kernel) h
theorem cw_W_92 {args : Array Value} {s : State} (htb : ∀ w ∈ zTB, w.before args s = true) {R rm : Room} (h : rm.frames + 1 ≤ R.frames ∧ 8 + (5 + 11) + rm.locals ≤ R.locals) : CallW R s args R_W R_M 92 yM_way cM_way 5 (some .int) (.code yM_way cM_way 5 (some .int) :: zTB) rm rm.cells rm.slots 3 := ⟨(callB_of 3 htb (z_good t_757) rfl rfl rfl (htb _ t_5) (htb _ t_754) (by decide +kernel) h), htb _ t_755, htb _ t_756⟩
theorem cw_W_93 {args : Array Value} {s : State} (htb : ∀ w ∈ zTB, w.before args s = true) {R rm : Room} (h : rm.frames + 1 ≤ R.frames ∧ 8 + (4 + 11) + rm.locals ≤ R.locals) : vx_CSW R s args R_W 93 yW_is cW_is 4 (some .int) [(0, 6, 9, 21), (0, 6, 12, 13)] (.codeWith yW_is cW_is 4 (some .int) [(0, 6, 9, 21), (0, 6, 12, 13)] :: zTB) rm rm.cells rm.slots 3 := vx_cwSW 3 htb (z_goodW t_386 t_387 t_0 t_388) rfl rfl rfl (by decide +kernel) h
theorem cw_W_95 {args : Array Value} {s : State} (htb : ∀ w ∈ zTB, w.before args s = true) {R rm : Room} (h : rm.frames + 1 ≤ R.frames ∧ 8 + (3 + 11) + rm.locals ≤ R.locals) : CallW R s args R_W R_M 95 yM_is cM_is 3 none (.code yM_is cM_is 3 none :: zTB) rm rm.cells rm.slots 2 := ⟨(callB_of 2 htb (z_good t_765) rfl rfl rfl (htb _ t_5) (htb _ t_762) (by decide +kernel) h), htb _ t_763, htb _ t_764⟩
theorem cw_W_96 {args : Array Value} {s : State} (htb : ∀ w ∈ zTB, w.before args s = true) {R rm : Room} (h : rm.frames + 1 ≤ R.frames ∧ 8 + (5 + 11) + rm.locals ≤ R.locals) : vx_CSW R s args R_W 96 yW_alarm cW_alarm 5 (some .int) [(0, 10, 13, 21), (0, 10, 17, 23), (0, 10, 21, 15)] (.codeWith yW_alarm cW_alarm 5 (some .int) [(0, 10, 13, 21), (0, 10, 17, 23), (0, 10, 21, 15)] :: zTB) rm rm.cells rm.slots 4 := vx_cwSW 4 htb (z_goodW t_394 t_395 t_0 t_396) rfl rfl rfl (by decide +kernel) h
theorem cw_W_99 {args : Array Value} {s : State} (htb : ∀ w ∈ zTB, w.before args s = true) {R rm : Room} (h : rm.frames + 1 ≤ R.frames ∧ 8 + (3 + 11) + rm.locals ≤ R.locals) : CallW R s args R_W R_M 99 yM_alarm cM_alarm 3 (some .int) (.code yM_alarm cM_alarm 3 (some .int) :: zTB) rm rm.cells rm.slots 2 := ⟨(callB_of 2 htb (z_good t_769) rfl rfl rfl (htb _ t_5) (htb _ t_766) (by decide +kernel) h), htb _ t_767, htb _ t_768⟩
theorem cw_YA_300 {args : Array Value} {s : State} (htb : ∀ w ∈ zTB, w.before args s = true) {R rm : Room} (h : rm.frames + 1 ≤ R.frames ∧ 8 + (4 + 11) + rm.locals ≤ R.locals) : CallB R s args R_YA 300 yYA_copyOf3 cYA_copyOf3 4 (some (.array (.object "java/lang/Object"))) (.code yYA_copyOf3 cYA_copyOf3 4 (some (.array (.object "java/lang/Object"))) :: zTB) rm rm.cells rm.slots 3 ∧ (Cond.static yYA_copyOf3).before args s = true := ⟨(callB_of 3 htb (z_good t_250) rfl rfl rfl (htb _ t_14) (htb _ t_248) (by decide +kernel) h), htb _ t_249⟩
theorem cw_YA_304 {args : Array Value} {s : State} (htb : ∀ w ∈ zTB, w.before args s = true) {R rm : Room} (h : rm.frames + 1 ≤ R.frames ∧ 8 + (2 + 11) + rm.locals ≤ R.locals) : CallB R s args R_YA 304 yYM_min cYM_min 2 (some .int) (.code yYM_min cYM_min 2 (some .int) :: zTB) rm rm.cells rm.slots 2 ∧ (Cond.static yYM_min).before args s = true := ⟨(callB_of 2 htb (z_good t_256) rfl rfl rfl (htb _ t_13) (htb _ t_254) (by decide +kernel) h), htb _ t_255⟩
theorem cw_YL_1 {args : Array Value} {s : State} (htb : ∀ w ∈ zTB, w.before args s = true) {R rm : Room} (h : rm.frames + 1 ≤ R.frames ∧ 8 + (1 + 11) + rm.locals ≤ R.locals) : CallB R s args R_YL 1 yYC_init cYC_init 1 none (.code yYC_init cYC_init 1 none :: zTB) rm rm.cells rm.slots 0 ∧ (yYC_init).name = "<init>" ∧ (Cond.instanceMethod yYC_init).before args s = true := ⟨(callB_of 0 htb (z_good t_41) rfl rfl rfl (htb _ t_2) (htb _ t_39) (by decide +kernel) h), rfl, htb _ t_40⟩
theorem cw_YO_105 {args : Array Value} {s : State} (htb : ∀ w ∈ zTB, w.before args s = true) {R rm : Room} (h : rm.frames + 1 ≤ R.frames ∧ 8 + (3 + 11) + rm.locals ≤ R.locals) : CallB R s args R_YO 105 yYP_checkIndex cYP_checkIndex 3 (some .int) (.code yYP_checkIndex cYP_checkIndex 3 (some .int) :: zTB) rm rm.cells rm.slots 3 ∧ (Cond.static yYP_checkIndex).before args s = true := ⟨(callB_of 3 htb (z_good t_304) rfl rfl rfl (htb _ t_18) (htb _ t_302) (by decide +kernel) h), htb _ t_303⟩
theorem cw_YS_194 {args : Array Value} {s : State} (htb : ∀ w ∈ zTB, w.before args s = true) {R rm : Room} (h : rm.frames + 1 ≤ R.frames ∧ 8 + (2 + 11) + rm.locals ≤ R.locals) : CallB R s args R_YS 194 yYM_max cYM_max 2 (some .int) (.code yYM_max cYM_max 2 (some .int) :: zTB) rm rm.cells rm.slots 2 ∧ (Cond.static yYM_max).before args s = true := ⟨(callB_of 2 htb (z_good t_225) rfl rfl rfl (htb _ t_13) (htb _ t_223) (by decide +kernel) h), htb _ t_224⟩
theorem cw_Y_1 {args : Array Value} {s : State} (htb : ∀ w ∈ zTB, w.before args s = true) {R rm : Room} (h : rm.frames + 1 ≤ R.frames ∧ 8 + (1 + 11) + rm.locals ≤ R.locals) : CallB R s args R_Y 1 yYL_init cYL_init 1 none (.code yYL_init cYL_init 1 none :: zTB) rm rm.cells rm.slots 0 ∧ (yYL_init).name = "<init>" ∧ (Cond.instanceMethod yYL_init).before args s = true := ⟨(callB_of 0 htb (z_good t_38) rfl rfl rfl (htb _ t_3) (htb _ t_36) (by decide +kernel) h), rfl, htb _ t_37⟩
theorem cw_Y_118 {args : Array Value} {s : State} (htb : ∀ w ∈ zTB, w.before args s = true) {R rm : Room} (h : rm.frames + 1 ≤ R.frames ∧ 8 + (2 + 11) + rm.locals ≤ R.locals) : CallB R s args R_Y 118 yYO_checkIndex cYO_checkIndex 2 (some .int) (.code yYO_checkIndex cYO_checkIndex 2 (some .int) :: zTB) rm rm.cells rm.slots 2 ∧ (Cond.static yYO_checkIndex).before args s = true := ⟨(callB_of 2 htb (z_good t_301) rfl rfl rfl (htb _ t_17) (htb _ t_299) (by decide +kernel) h), htb _ t_300⟩
theorem cw_Y_123 {args : Array Value} {s : State} (htb : ∀ w ∈ zTB, w.before args s = true) {R rm : Room} (h : rm.frames + 1 ≤ R.frames ∧ 8 + (2 + 11) + rm.locals ≤ R.locals) : CallW R s args R_Y R_Y 123 yY_elementData cY_elementData 2 (some (.object "java/lang/Object")) (.code yY_elementData cY_elementData 2 (some (.object "java/lang/Object")) :: zTB) rm rm.cells rm.slots 1 := ⟨(callB_of 1 htb (z_good t_308) rfl rfl rfl (htb _ t_4) (htb _ t_305) (by decide +kernel) h), htb _ t_306, htb _ t_307⟩
theorem cw_Y_129 {args : Array Value} {s : State} (htb : ∀ w ∈ zTB, w.before args s = true) {R rm : Room} (h : rm.frames + 1 ≤ R.frames ∧ 8 + (1 + 11) + rm.locals ≤ R.locals) : CallW R s args R_Y R_Y 129 yY_grow0 cY_grow0 1 (some (.array (.object "java/lang/Object"))) (.code yY_grow0 cY_grow0 1 (some (.array (.object "java/lang/Object"))) :: zTB) rm rm.cells rm.slots 0 := ⟨(callB_of 0 htb (z_good t_215) rfl rfl rfl (htb _ t_4) (htb _ t_212) (by decide +kernel) h), htb _ t_214, htb _ ts_Y_grow0⟩
theorem cw_Y_131 {args : Array Value} {s : State} (htb : ∀ w ∈ zTB, w.before args s = true) {R rm : Room} (h : rm.frames + 1 ≤ R.frames ∧ 8 + (4 + 11) + rm.locals ≤ R.locals) : CallW R s args R_Y R_Y 131 yY_add3 cY_add3 4 none (.code yY_add3 cY_add3 4 none :: zTB) rm rm.cells rm.slots 3 := ⟨(callB_of 3 htb (z_good t_211) rfl rfl rfl (htb _ t_4) (htb _ t_208) (by decide +kernel) h), htb _ t_210, htb _ ts_Y_add3⟩
theorem cw_Y_66 {args : Array Value} {s : State} (htb : ∀ w ∈ zTB, w.before args s = true) {R rm : Room} (h : rm.frames + 1 ≤ R.frames ∧ 8 + (2 + 11) + rm.locals ≤ R.locals) : CallB R s args R_Y 66 yYA_copyOf2 cYA_copyOf2 2 (some (.array (.object "java/lang/Object"))) (.code yYA_copyOf2 cYA_copyOf2 2 (some (.array (.object "java/lang/Object"))) :: zTB) rm rm.cells rm.slots 2 ∧ (Cond.static yYA_copyOf2).before args s = true := ⟨(callB_of 2 htb (z_good t_232) rfl rfl rfl (htb _ t_14) (htb _ t_230) (by decide +kernel) h), htb _ t_231⟩
theorem cw_Y_69 {args : Array Value} {s : State} (htb : ∀ w ∈ zTB, w.before args s = true) {R rm : Room} (h : rm.frames + 1 ≤ R.frames ∧ 8 + (4 + 11) + rm.locals ≤ R.locals) : CallW R s args R_Y R_Y 69 yY_grow1 cY_grow1 4 (some (.array (.object "java/lang/Object"))) (.code yY_grow1 cY_grow1 4 (some (.array (.object "java/lang/Object"))) :: zTB) rm rm.cells rm.slots 1 := ⟨(callB_of 1 htb (z_good t_219) rfl rfl rfl (htb _ t_4) (htb _ t_216) (by decide +kernel) h), htb _ t_218, htb _ ts_Y_grow1⟩
theorem cw_Y_73 {args : Array Value} {s : State} (htb : ∀ w ∈ zTB, w.before args s = true) {R rm : Room} (h : rm.frames + 1 ≤ R.frames ∧ 8 + (4 + 11) + rm.locals ≤ R.locals) : CallB R s args R_Y 73 yYS_newLength cYS_newLength 4 (some .int) (.code yYS_newLength cYS_newLength 4 (some .int) :: zTB) rm rm.cells rm.slots 3 ∧ (Cond.static yYS_newLength).before args s = true := ⟨(callB_of 3 htb (z_good t_222) rfl rfl rfl (htb _ t_12) (htb _ t_220) (by decide +kernel) h), htb _ t_221⟩
theorem cw_Y_79 {args : Array Value} {s : State} (htb : ∀ w ∈ zTB, w.before args s = true) {R rm : Room} (h : rm.frames + 1 ≤ R.frames ∧ 8 + (2 + 11) + rm.locals ≤ R.locals) : CallB R s args R_Y 79 yYM_max cYM_max 2 (some .int) (.code yYM_max cYM_max 2 (some .int) :: zTB) rm rm.cells rm.slots 2 ∧ (Cond.static yYM_max).before args s = true := ⟨(callB_of 2 htb (z_good t_225) rfl rfl rfl (htb _ t_13) (htb _ t_260) (by decide +kernel) h), htb _ t_224⟩
theorem th_A_177 {args : Array Value} {s : State} (htb : ∀ w ∈ zTB, w.before args s = true) (hN : ∀ w ∈ zNW, va_Nw w s) : ∀ w ∈ vx_atS R_A 177 "java/lang/IllegalArgumentException" zEx, w.before args s = true := z_hat (by decide +kernel) htb hN
theorem th_A_202 {args : Array Value} {s : State} (htb : ∀ w ∈ zTB, w.before args s = true) (hN : ∀ w ∈ zNW, va_Nw w s) : ∀ w ∈ vx_atS R_A 202 "java/lang/ArithmeticException" zEx, w.before args s = true := z_hat (by decide +kernel) htb hN
theorem th_A_26 {args : Array Value} {s : State} (htb : ∀ w ∈ zTB, w.before args s = true) (hN : ∀ w ∈ zNW, va_Nw w s) : ∀ w ∈ vx_atS R_A 26 "java/lang/IndexOutOfBoundsException" zEx, w.before args s = true := z_hat (by decide +kernel) htb hN
theorem th_A_39 {args : Array Value} {s : State} (htb : ∀ w ∈ zTB, w.before args s = true) (hN : ∀ w ∈ zNW, va_Nw w s) : ∀ w ∈ vx_atS R_A 39 "java/lang/UnsupportedOperationException" zEx, w.before args s = true := z_hat (by decide +kernel) htb hN
theorem th_A_61 {args : Array Value} {s : State} (htb : ∀ w ∈ zTB, w.before args s = true) (hN : ∀ w ∈ zNW, va_Nw w s) : ∀ w ∈ vx_atS R_A 61 "java/lang/IllegalStateException" zEx, w.before args s = true := z_hat (by decide +kernel) htb hN
theorem thg_A_173_177 : ∀ w ∈ Cond.classLink R_A 173 "java/lang/IllegalArgumentException" :: Cond.initialized "java/lang/IllegalArgumentException" :: vx_atS R_A 177 "java/lang/IllegalArgumentException" zEx, vx_ot w = true := by decide +kernel
theorem thg_A_198_202 : ∀ w ∈ Cond.classLink R_A 198 "java/lang/ArithmeticException" :: Cond.initialized "java/lang/ArithmeticException" :: vx_atS R_A 202 "java/lang/ArithmeticException" zEx, vx_ot w = true := by decide +kernel
theorem thg_A_22_26 : ∀ w ∈ Cond.classLink R_A 22 "java/lang/IndexOutOfBoundsException" :: Cond.initialized "java/lang/IndexOutOfBoundsException" :: vx_atS R_A 26 "java/lang/IndexOutOfBoundsException" zEx, vx_ot w = true := by decide +kernel
theorem thg_A_35_39 : ∀ w ∈ Cond.classLink R_A 35 "java/lang/UnsupportedOperationException" :: Cond.initialized "java/lang/UnsupportedOperationException" :: vx_atS R_A 39 "java/lang/UnsupportedOperationException" zEx, vx_ot w = true := by decide +kernel
theorem thg_A_57_61 : ∀ w ∈ Cond.classLink R_A 57 "java/lang/IllegalStateException" :: Cond.initialized "java/lang/IllegalStateException" :: vx_atS R_A 61 "java/lang/IllegalStateException" zEx, vx_ot w = true := by decide +kernel
end
section
theorem dYC_init_0 : decode cYC_init 0 = .ok (.aload_n 0, 1) := by decide +kernel
theorem dYC_init_1 : decode cYC_init 1 = .ok (.invokespecial 1, 3) := by decide +kernel
theorem dYC_init_4 : decode cYC_init 4 = .ok (.return_, 1) := by decide +kernel
theorem dYL_init_0 : decode cYL_init 0 = .ok (.aload_n 0, 1) := by decide +kernel
theorem dYL_init_1 : decode cYL_init 1 = .ok (.invokespecial 1, 3) := by decide +kernel
theorem dYL_init_4 : decode cYL_init 4 = .ok (.aload_n 0, 1) := by decide +kernel
theorem dYL_init_5 : decode cYL_init 5 = .ok (.iconst 0, 1) := by decide +kernel
theorem dYL_init_6 : decode cYL_init 6 = .ok (.putfield 7, 3) := by decide +kernel
theorem dYL_init_9 : decode cYL_init 9 = .ok (.return_, 1) := by decide +kernel
theorem dY_init_0 : decode cY_init 0 = .ok (.aload_n 0, 1) := by decide +kernel
theorem dY_init_1 : decode cY_init 1 = .ok (.invokespecial 1, 3) := by decide +kernel
theorem dY_init_4 : decode cY_init 4 = .ok (.aload_n 0, 1) := by decide +kernel
theorem dY_init_5 : decode cY_init 5 = .ok (.getstatic 39, 3) := by decide +kernel
theorem dY_init_8 : decode cY_init 8 = .ok (.putfield 9, 3) := by decide +kernel
theorem dY_init_11 : decode cY_init 11 = .ok (.return_, 1) := by decide +kernel
theorem dY_size_0 : decode cY_size 0 = .ok (.aload_n 0, 1) := by decide +kernel
theorem dY_size_1 : decode cY_size 1 = .ok (.getfield 48, 3) := by decide +kernel
theorem dY_size_4 : decode cY_size 4 = .ok (.ireturn, 1) := by decide +kernel
theorem dG_init_0 : decode cG_init 0 = .ok (.aload_n 0, 1) := by decide +kernel
theorem dG_init_1 : decode cG_init 1 = .ok (.invokespecial 3, 3) := by decide +kernel
theorem dG_init_4 : decode cG_init 4 = .ok (.aload_n 0, 1) := by decide +kernel
theorem dG_init_5 : decode cG_init 5 = .ok (.iload_n 1, 1) := by decide +kernel
theorem dG_init_6 : decode cG_init 6 = .ok (.putfield 9, 3) := by decide +kernel
theorem dG_init_9 : decode cG_init 9 = .ok (.aload_n 0, 1) := by decide +kernel
theorem dG_init_10 : decode cG_init 10 = .ok (.iload_n 2, 1) := by decide +kernel
theorem dG_init_11 : decode cG_init 11 = .ok (.putfield 15, 3) := by decide +kernel
theorem dG_init_14 : decode cG_init 14 = .ok (.aload_n 0, 1) := by decide +kernel
theorem dG_init_15 : decode cG_init 15 = .ok (.iconst (-1), 1) := by decide +kernel
theorem dG_init_16 : decode cG_init 16 = .ok (.putfield 18, 3) := by decide +kernel
theorem dG_init_19 : decode cG_init 19 = .ok (.return_, 1) := by decide +kernel
theorem dYM_max_0 : decode cYM_max 0 = .ok (.iload_n 0, 1) := by decide +kernel
theorem dYM_max_1 : decode cYM_max 1 = .ok (.iload_n 1, 1) := by decide +kernel
theorem dYM_max_2 : decode cYM_max 2 = .ok (.if_icmp .lt 7, 3) := by decide +kernel
theorem dYM_max_5 : decode cYM_max 5 = .ok (.iload_n 0, 1) := by decide +kernel
theorem dYM_max_6 : decode cYM_max 6 = .ok (.goto 4, 3) := by decide +kernel
theorem dYM_max_9 : decode cYM_max 9 = .ok (.iload_n 1, 1) := by decide +kernel
theorem dYM_max_10 : decode cYM_max 10 = .ok (.ireturn, 1) := by decide +kernel
theorem dYS_newLength_0 : decode cYS_newLength 0 = .ok (.iload_n 0, 1) := by decide +kernel
theorem dYS_newLength_1 : decode cYS_newLength 1 = .ok (.iload_n 1, 1) := by decide +kernel
theorem dYS_newLength_2 : decode cYS_newLength 2 = .ok (.iload_n 2, 1) := by decide +kernel
theorem dYS_newLength_3 : decode cYS_newLength 3 = .ok (.invokestatic 194, 3) := by decide +kernel
theorem dYS_newLength_6 : decode cYS_newLength 6 = .ok (.iadd, 1) := by decide +kernel
theorem dYS_newLength_7 : decode cYS_newLength 7 = .ok (.istore_n 3, 1) := by decide +kernel
theorem dYS_newLength_8 : decode cYS_newLength 8 = .ok (.iconst 0, 1) := by decide +kernel
theorem dYS_newLength_9 : decode cYS_newLength 9 = .ok (.iload_n 3, 1) := by decide +kernel
theorem dYS_newLength_10 : decode cYS_newLength 10 = .ok (.if_icmp .ge 11, 3) := by decide +kernel
theorem dYS_newLength_13 : decode cYS_newLength 13 = .ok (.iload_n 3, 1) := by decide +kernel
theorem dYS_newLength_14 : decode cYS_newLength 14 = .ok (.ldc 200, 2) := by decide +kernel
theorem dYS_newLength_16 : decode cYS_newLength 16 = .ok (.if_icmp .gt 5, 3) := by decide +kernel
theorem dYS_newLength_19 : decode cYS_newLength 19 = .ok (.iload_n 3, 1) := by decide +kernel
theorem dYS_newLength_20 : decode cYS_newLength 20 = .ok (.ireturn, 1) := by decide +kernel
theorem dYM_min_0 : decode cYM_min 0 = .ok (.iload_n 0, 1) := by decide +kernel
theorem dYM_min_1 : decode cYM_min 1 = .ok (.iload_n 1, 1) := by decide +kernel
theorem dYM_min_2 : decode cYM_min 2 = .ok (.if_icmp .gt 7, 3) := by decide +kernel
theorem dYM_min_5 : decode cYM_min 5 = .ok (.iload_n 0, 1) := by decide +kernel
theorem dYM_min_6 : decode cYM_min 6 = .ok (.goto 4, 3) := by decide +kernel
theorem dYM_min_9 : decode cYM_min 9 = .ok (.iload_n 1, 1) := by decide +kernel
theorem dYM_min_10 : decode cYM_min 10 = .ok (.ireturn, 1) := by decide +kernel
theorem dYA_copyOf3_0 : decode cYA_copyOf3 0 = .ok (.aload_n 2, 1) := by decide +kernel
theorem dYA_copyOf3_1 : decode cYA_copyOf3 1 = .ok (.ldc 110, 2) := by decide +kernel
theorem dYA_copyOf3_3 : decode cYA_copyOf3 3 = .ok (.if_acmp .ne 10, 3) := by decide +kernel
theorem dYA_copyOf3_6 : decode cYA_copyOf3 6 = .ok (.iload_n 1, 1) := by decide +kernel
theorem dYA_copyOf3_7 : decode cYA_copyOf3 7 = .ok (.anewarray 2, 3) := by decide +kernel
theorem dYA_copyOf3_10 : decode cYA_copyOf3 10 = .ok (.goto 14, 3) := by decide +kernel
theorem dYA_copyOf3_24 : decode cYA_copyOf3 24 = .ok (.astore_n 3, 1) := by decide +kernel
theorem dYA_copyOf3_25 : decode cYA_copyOf3 25 = .ok (.aload_n 0, 1) := by decide +kernel
theorem dYA_copyOf3_26 : decode cYA_copyOf3 26 = .ok (.iconst 0, 1) := by decide +kernel
theorem dYA_copyOf3_27 : decode cYA_copyOf3 27 = .ok (.aload_n 3, 1) := by decide +kernel
theorem dYA_copyOf3_28 : decode cYA_copyOf3 28 = .ok (.iconst 0, 1) := by decide +kernel
theorem dYA_copyOf3_29 : decode cYA_copyOf3 29 = .ok (.aload_n 0, 1) := by decide +kernel
theorem dYA_copyOf3_30 : decode cYA_copyOf3 30 = .ok (.arraylength, 1) := by decide +kernel
theorem dYA_copyOf3_31 : decode cYA_copyOf3 31 = .ok (.iload_n 1, 1) := by decide +kernel
theorem dYA_copyOf3_32 : decode cYA_copyOf3 32 = .ok (.invokestatic 304, 3) := by decide +kernel
theorem dYA_copyOf3_35 : decode cYA_copyOf3 35 = .ok (.invokestatic 150, 3) := by decide +kernel
theorem dYA_copyOf3_38 : decode cYA_copyOf3 38 = .ok (.aload_n 3, 1) := by decide +kernel
theorem dYA_copyOf3_39 : decode cYA_copyOf3 39 = .ok (.areturn, 1) := by decide +kernel
theorem dYA_copyOf2_0 : decode cYA_copyOf2 0 = .ok (.aload_n 0, 1) := by decide +kernel
theorem dYA_copyOf2_1 : decode cYA_copyOf2 1 = .ok (.iload_n 1, 1) := by decide +kernel
theorem dYA_copyOf2_2 : decode cYA_copyOf2 2 = .ok (.aload_n 0, 1) := by decide +kernel
theorem dYA_copyOf2_3 : decode cYA_copyOf2 3 = .ok (.invokevirtual 86, 3) := by decide +kernel
theorem dYA_copyOf2_6 : decode cYA_copyOf2 6 = .ok (.invokestatic 300, 3) := by decide +kernel
theorem dYA_copyOf2_9 : decode cYA_copyOf2 9 = .ok (.areturn, 1) := by decide +kernel
theorem dY_grow1_0 : decode cY_grow1 0 = .ok (.aload_n 0, 1) := by decide +kernel
theorem dY_grow1_1 : decode cY_grow1 1 = .ok (.getfield 9, 3) := by decide +kernel
theorem dY_grow1_4 : decode cY_grow1 4 = .ok (.arraylength, 1) := by decide +kernel
theorem dY_grow1_5 : decode cY_grow1 5 = .ok (.istore_n 2, 1) := by decide +kernel
theorem dY_grow1_6 : decode cY_grow1 6 = .ok (.iload_n 2, 1) := by decide +kernel
theorem dY_grow1_7 : decode cY_grow1 7 = .ok (.ifCond .gt 13, 3) := by decide +kernel
theorem dY_grow1_10 : decode cY_grow1 10 = .ok (.aload_n 0, 1) := by decide +kernel
theorem dY_grow1_11 : decode cY_grow1 11 = .ok (.getfield 9, 3) := by decide +kernel
theorem dY_grow1_14 : decode cY_grow1 14 = .ok (.getstatic 39, 3) := by decide +kernel
theorem dY_grow1_17 : decode cY_grow1 17 = .ok (.if_acmp .eq 28, 3) := by decide +kernel
theorem dY_grow1_20 : decode cY_grow1 20 = .ok (.iload_n 2, 1) := by decide +kernel
theorem dY_grow1_21 : decode cY_grow1 21 = .ok (.iload_n 1, 1) := by decide +kernel
theorem dY_grow1_22 : decode cY_grow1 22 = .ok (.iload_n 2, 1) := by decide +kernel
theorem dY_grow1_23 : decode cY_grow1 23 = .ok (.isub, 1) := by decide +kernel
theorem dY_grow1_24 : decode cY_grow1 24 = .ok (.iload_n 2, 1) := by decide +kernel
theorem dY_grow1_25 : decode cY_grow1 25 = .ok (.iconst 1, 1) := by decide +kernel
theorem dY_grow1_26 : decode cY_grow1 26 = .ok (.ishr, 1) := by decide +kernel
theorem dY_grow1_27 : decode cY_grow1 27 = .ok (.invokestatic 73, 3) := by decide +kernel
theorem dY_grow1_30 : decode cY_grow1 30 = .ok (.istore_n 3, 1) := by decide +kernel
theorem dY_grow1_31 : decode cY_grow1 31 = .ok (.aload_n 0, 1) := by decide +kernel
theorem dY_grow1_32 : decode cY_grow1 32 = .ok (.aload_n 0, 1) := by decide +kernel
theorem dY_grow1_33 : decode cY_grow1 33 = .ok (.getfield 9, 3) := by decide +kernel
theorem dY_grow1_36 : decode cY_grow1 36 = .ok (.iload_n 3, 1) := by decide +kernel
theorem dY_grow1_37 : decode cY_grow1 37 = .ok (.invokestatic 66, 3) := by decide +kernel
theorem dY_grow1_40 : decode cY_grow1 40 = .ok (.dup_x1, 1) := by decide +kernel
theorem dY_grow1_41 : decode cY_grow1 41 = .ok (.putfield 9, 3) := by decide +kernel
theorem dY_grow1_44 : decode cY_grow1 44 = .ok (.areturn, 1) := by decide +kernel
theorem dY_grow1_45 : decode cY_grow1 45 = .ok (.aload_n 0, 1) := by decide +kernel
theorem dY_grow1_46 : decode cY_grow1 46 = .ok (.bipush 10, 2) := by decide +kernel
theorem dY_grow1_48 : decode cY_grow1 48 = .ok (.iload_n 1, 1) := by decide +kernel
theorem dY_grow1_49 : decode cY_grow1 49 = .ok (.invokestatic 79, 3) := by decide +kernel
theorem dY_grow1_52 : decode cY_grow1 52 = .ok (.anewarray 7, 3) := by decide +kernel
theorem dY_grow1_55 : decode cY_grow1 55 = .ok (.dup_x1, 1) := by decide +kernel
theorem dY_grow1_56 : decode cY_grow1 56 = .ok (.putfield 9, 3) := by decide +kernel
theorem dY_grow1_59 : decode cY_grow1 59 = .ok (.areturn, 1) := by decide +kernel
theorem dY_grow0_0 : decode cY_grow0 0 = .ok (.aload_n 0, 1) := by decide +kernel
theorem dY_grow0_1 : decode cY_grow0 1 = .ok (.aload_n 0, 1) := by decide +kernel
theorem dY_grow0_2 : decode cY_grow0 2 = .ok (.getfield 48, 3) := by decide +kernel
theorem dY_grow0_5 : decode cY_grow0 5 = .ok (.iconst 1, 1) := by decide +kernel
theorem dY_grow0_6 : decode cY_grow0 6 = .ok (.iadd, 1) := by decide +kernel
theorem dY_grow0_7 : decode cY_grow0 7 = .ok (.invokevirtual 69, 3) := by decide +kernel
theorem dY_grow0_10 : decode cY_grow0 10 = .ok (.areturn, 1) := by decide +kernel
theorem dY_add3_0 : decode cY_add3 0 = .ok (.iload_n 3, 1) := by decide +kernel
theorem dY_add3_1 : decode cY_add3 1 = .ok (.aload_n 2, 1) := by decide +kernel
theorem dY_add3_2 : decode cY_add3 2 = .ok (.arraylength, 1) := by decide +kernel
theorem dY_add3_3 : decode cY_add3 3 = .ok (.if_icmp .ne 8, 3) := by decide +kernel
theorem dY_add3_6 : decode cY_add3 6 = .ok (.aload_n 0, 1) := by decide +kernel
theorem dY_add3_7 : decode cY_add3 7 = .ok (.invokevirtual 129, 3) := by decide +kernel
theorem dY_add3_10 : decode cY_add3 10 = .ok (.astore_n 2, 1) := by decide +kernel
theorem dY_add3_11 : decode cY_add3 11 = .ok (.aload_n 2, 1) := by decide +kernel
theorem dY_add3_12 : decode cY_add3 12 = .ok (.iload_n 3, 1) := by decide +kernel
theorem dY_add3_13 : decode cY_add3 13 = .ok (.aload_n 1, 1) := by decide +kernel
theorem dY_add3_14 : decode cY_add3 14 = .ok (.aastore, 1) := by decide +kernel
theorem dY_add3_15 : decode cY_add3 15 = .ok (.aload_n 0, 1) := by decide +kernel
theorem dY_add3_16 : decode cY_add3 16 = .ok (.iload_n 3, 1) := by decide +kernel
theorem dY_add3_17 : decode cY_add3 17 = .ok (.iconst 1, 1) := by decide +kernel
theorem dY_add3_18 : decode cY_add3 18 = .ok (.iadd, 1) := by decide +kernel
theorem dY_add3_19 : decode cY_add3 19 = .ok (.putfield 48, 3) := by decide +kernel
theorem dY_add3_22 : decode cY_add3 22 = .ok (.return_, 1) := by decide +kernel
theorem dY_add1_0 : decode cY_add1 0 = .ok (.aload_n 0, 1) := by decide +kernel
theorem dY_add1_1 : decode cY_add1 1 = .ok (.dup, 1) := by decide +kernel
theorem dY_add1_2 : decode cY_add1 2 = .ok (.getfield 63, 3) := by decide +kernel
theorem dY_add1_5 : decode cY_add1 5 = .ok (.iconst 1, 1) := by decide +kernel
theorem dY_add1_6 : decode cY_add1 6 = .ok (.iadd, 1) := by decide +kernel
theorem dY_add1_7 : decode cY_add1 7 = .ok (.putfield 63, 3) := by decide +kernel
theorem dY_add1_10 : decode cY_add1 10 = .ok (.aload_n 0, 1) := by decide +kernel
theorem dY_add1_11 : decode cY_add1 11 = .ok (.aload_n 1, 1) := by decide +kernel
theorem dY_add1_12 : decode cY_add1 12 = .ok (.aload_n 0, 1) := by decide +kernel
theorem dY_add1_13 : decode cY_add1 13 = .ok (.getfield 9, 3) := by decide +kernel
theorem dY_add1_16 : decode cY_add1 16 = .ok (.aload_n 0, 1) := by decide +kernel
theorem dY_add1_17 : decode cY_add1 17 = .ok (.getfield 48, 3) := by decide +kernel
theorem dY_add1_20 : decode cY_add1 20 = .ok (.invokevirtual 131, 3) := by decide +kernel
theorem dY_add1_23 : decode cY_add1 23 = .ok (.iconst 1, 1) := by decide +kernel
theorem dY_add1_24 : decode cY_add1 24 = .ok (.ireturn, 1) := by decide +kernel
theorem dYP_checkIndex_0 : decode cYP_checkIndex 0 = .ok (.iload_n 0, 1) := by decide +kernel
theorem dYP_checkIndex_1 : decode cYP_checkIndex 1 = .ok (.ifCond .lt 8, 3) := by decide +kernel
theorem dYP_checkIndex_4 : decode cYP_checkIndex 4 = .ok (.iload_n 0, 1) := by decide +kernel
theorem dYP_checkIndex_5 : decode cYP_checkIndex 5 = .ok (.iload_n 1, 1) := by decide +kernel
theorem dYP_checkIndex_6 : decode cYP_checkIndex 6 = .ok (.if_icmp .lt 10, 3) := by decide +kernel
theorem dYP_checkIndex_16 : decode cYP_checkIndex 16 = .ok (.iload_n 0, 1) := by decide +kernel
theorem dYP_checkIndex_17 : decode cYP_checkIndex 17 = .ok (.ireturn, 1) := by decide +kernel
theorem dYO_checkIndex_0 : decode cYO_checkIndex 0 = .ok (.iload_n 0, 1) := by decide +kernel
theorem dYO_checkIndex_1 : decode cYO_checkIndex 1 = .ok (.iload_n 1, 1) := by decide +kernel
theorem dYO_checkIndex_2 : decode cYO_checkIndex 2 = .ok (.aconst_null, 1) := by decide +kernel
theorem dYO_checkIndex_3 : decode cYO_checkIndex 3 = .ok (.invokestatic 105, 3) := by decide +kernel
theorem dYO_checkIndex_6 : decode cYO_checkIndex 6 = .ok (.ireturn, 1) := by decide +kernel
theorem dY_elementData_0 : decode cY_elementData 0 = .ok (.aload_n 0, 1) := by decide +kernel
theorem dY_elementData_1 : decode cY_elementData 1 = .ok (.getfield 9, 3) := by decide +kernel
theorem dY_elementData_4 : decode cY_elementData 4 = .ok (.iload_n 1, 1) := by decide +kernel
theorem dY_elementData_5 : decode cY_elementData 5 = .ok (.aaload, 1) := by decide +kernel
theorem dY_elementData_6 : decode cY_elementData 6 = .ok (.areturn, 1) := by decide +kernel
theorem dY_get_0 : decode cY_get 0 = .ok (.iload_n 1, 1) := by decide +kernel
theorem dY_get_1 : decode cY_get 1 = .ok (.aload_n 0, 1) := by decide +kernel
theorem dY_get_2 : decode cY_get 2 = .ok (.getfield 48, 3) := by decide +kernel
theorem dY_get_5 : decode cY_get 5 = .ok (.invokestatic 118, 3) := by decide +kernel
theorem dY_get_8 : decode cY_get 8 = .ok (.pop, 1) := by decide +kernel
theorem dY_get_9 : decode cY_get 9 = .ok (.aload_n 0, 1) := by decide +kernel
theorem dY_get_10 : decode cY_get 10 = .ok (.iload_n 1, 1) := by decide +kernel
theorem dY_get_11 : decode cY_get 11 = .ok (.invokevirtual 123, 3) := by decide +kernel
theorem dY_get_14 : decode cY_get 14 = .ok (.areturn, 1) := by decide +kernel
theorem dP_init_0 : decode cP_init 0 = .ok (.aload_n 0, 1) := by decide +kernel
theorem dP_init_1 : decode cP_init 1 = .ok (.invokespecial 3, 3) := by decide +kernel
theorem dP_init_4 : decode cP_init 4 = .ok (.aload_n 0, 1) := by decide +kernel
theorem dP_init_5 : decode cP_init 5 = .ok (.iload_n 1, 1) := by decide +kernel
theorem dP_init_6 : decode cP_init 6 = .ok (.putfield 9, 3) := by decide +kernel
theorem dP_init_9 : decode cP_init 9 = .ok (.aload_n 0, 1) := by decide +kernel
theorem dP_init_10 : decode cP_init 10 = .ok (.iconst 3, 1) := by decide +kernel
theorem dP_init_11 : decode cP_init 11 = .ok (.newarray .int, 2) := by decide +kernel
theorem dP_init_13 : decode cP_init 13 = .ok (.putfield 15, 3) := by decide +kernel
theorem dP_init_16 : decode cP_init 16 = .ok (.aload_n 0, 1) := by decide +kernel
theorem dP_init_17 : decode cP_init 17 = .ok (.iconst 3, 1) := by decide +kernel
theorem dP_init_18 : decode cP_init 18 = .ok (.newarray .boolean, 2) := by decide +kernel
theorem dP_init_20 : decode cP_init 20 = .ok (.putfield 19, 3) := by decide +kernel
theorem dP_init_23 : decode cP_init 23 = .ok (.aload_n 0, 1) := by decide +kernel
theorem dP_init_24 : decode cP_init 24 = .ok (.iconst 0, 1) := by decide +kernel
theorem dP_init_25 : decode cP_init 25 = .ok (.putfield 23, 3) := by decide +kernel
theorem dP_init_28 : decode cP_init 28 = .ok (.return_, 1) := by decide +kernel
theorem dP_setWay_0 : decode cP_setWay 0 = .ok (.iconst 0, 1) := by decide +kernel
theorem dP_setWay_1 : decode cP_setWay 1 = .ok (.istore_n 3, 1) := by decide +kernel
theorem dP_setWay_2 : decode cP_setWay 2 = .ok (.iload_n 3, 1) := by decide +kernel
theorem dP_setWay_3 : decode cP_setWay 3 = .ok (.aload_n 0, 1) := by decide +kernel
theorem dP_setWay_4 : decode cP_setWay 4 = .ok (.getfield 26, 3) := by decide +kernel
theorem dP_setWay_7 : decode cP_setWay 7 = .ok (.if_icmp .ge 24, 3) := by decide +kernel
theorem dP_setWay_10 : decode cP_setWay 10 = .ok (.iload_n 3, 1) := by decide +kernel
theorem dP_setWay_11 : decode cP_setWay 11 = .ok (.iconst 3, 1) := by decide +kernel
theorem dP_setWay_12 : decode cP_setWay 12 = .ok (.if_icmp .ge 19, 3) := by decide +kernel
theorem dP_setWay_15 : decode cP_setWay 15 = .ok (.aload_n 0, 1) := by decide +kernel
theorem dP_setWay_16 : decode cP_setWay 16 = .ok (.getfield 15, 3) := by decide +kernel
theorem dP_setWay_19 : decode cP_setWay 19 = .ok (.iload_n 3, 1) := by decide +kernel
theorem dP_setWay_20 : decode cP_setWay 20 = .ok (.iaload, 1) := by decide +kernel
theorem dP_setWay_21 : decode cP_setWay 21 = .ok (.iload_n 1, 1) := by decide +kernel
theorem dP_setWay_22 : decode cP_setWay 22 = .ok (.if_icmp .eq 9, 3) := by decide +kernel
theorem dP_setWay_25 : decode cP_setWay 25 = .ok (.iinc 3 1, 3) := by decide +kernel
theorem dP_setWay_28 : decode cP_setWay 28 = .ok (.goto (-26), 3) := by decide +kernel
theorem dP_setWay_31 : decode cP_setWay 31 = .ok (.iload_n 3, 1) := by decide +kernel
theorem dP_setWay_32 : decode cP_setWay 32 = .ok (.iconst 3, 1) := by decide +kernel
theorem dP_setWay_33 : decode cP_setWay 33 = .ok (.if_icmp .lt 4, 3) := by decide +kernel
theorem dP_setWay_36 : decode cP_setWay 36 = .ok (.return_, 1) := by decide +kernel
theorem dP_setWay_37 : decode cP_setWay 37 = .ok (.aload_n 0, 1) := by decide +kernel
theorem dP_setWay_38 : decode cP_setWay 38 = .ok (.getfield 15, 3) := by decide +kernel
theorem dP_setWay_41 : decode cP_setWay 41 = .ok (.iload_n 3, 1) := by decide +kernel
theorem dP_setWay_42 : decode cP_setWay 42 = .ok (.iload_n 1, 1) := by decide +kernel
theorem dP_setWay_43 : decode cP_setWay 43 = .ok (.iastore, 1) := by decide +kernel
theorem dP_setWay_44 : decode cP_setWay 44 = .ok (.aload_n 0, 1) := by decide +kernel
theorem dP_setWay_45 : decode cP_setWay 45 = .ok (.getfield 19, 3) := by decide +kernel
theorem dP_setWay_48 : decode cP_setWay 48 = .ok (.iload_n 3, 1) := by decide +kernel
theorem dP_setWay_49 : decode cP_setWay 49 = .ok (.iload_n 2, 1) := by decide +kernel
theorem dP_setWay_50 : decode cP_setWay 50 = .ok (.bastore, 1) := by decide +kernel
theorem dP_setWay_51 : decode cP_setWay 51 = .ok (.iload_n 3, 1) := by decide +kernel
theorem dP_setWay_52 : decode cP_setWay 52 = .ok (.aload_n 0, 1) := by decide +kernel
theorem dP_setWay_53 : decode cP_setWay 53 = .ok (.getfield 26, 3) := by decide +kernel
theorem dP_setWay_56 : decode cP_setWay 56 = .ok (.if_icmp .ne 13, 3) := by decide +kernel
theorem dP_setWay_59 : decode cP_setWay 59 = .ok (.aload_n 0, 1) := by decide +kernel
theorem dP_setWay_60 : decode cP_setWay 60 = .ok (.dup, 1) := by decide +kernel
theorem dP_setWay_61 : decode cP_setWay 61 = .ok (.getfield 26, 3) := by decide +kernel
theorem dP_setWay_64 : decode cP_setWay 64 = .ok (.iconst 1, 1) := by decide +kernel
theorem dP_setWay_65 : decode cP_setWay 65 = .ok (.iadd, 1) := by decide +kernel
theorem dP_setWay_66 : decode cP_setWay 66 = .ok (.putfield 26, 3) := by decide +kernel
theorem dP_setWay_69 : decode cP_setWay 69 = .ok (.return_, 1) := by decide +kernel
theorem dP_wouldBeAsked_0 : decode cP_wouldBeAsked 0 = .ok (.aload_n 0, 1) := by decide +kernel
theorem dP_wouldBeAsked_1 : decode cP_wouldBeAsked 1 = .ok (.getfield 9, 3) := by decide +kernel
theorem dP_wouldBeAsked_4 : decode cP_wouldBeAsked 4 = .ok (.iload_n 1, 1) := by decide +kernel
theorem dP_wouldBeAsked_5 : decode cP_wouldBeAsked 5 = .ok (.if_icmp .ne 26, 3) := by decide +kernel
theorem dP_wouldBeAsked_8 : decode cP_wouldBeAsked 8 = .ok (.aload_n 0, 1) := by decide +kernel
theorem dP_wouldBeAsked_9 : decode cP_wouldBeAsked 9 = .ok (.getfield 23, 3) := by decide +kernel
theorem dP_wouldBeAsked_12 : decode cP_wouldBeAsked 12 = .ok (.ifCond .eq 15, 3) := by decide +kernel
theorem dP_wouldBeAsked_15 : decode cP_wouldBeAsked 15 = .ok (.iload_n 2, 1) := by decide +kernel
theorem dP_wouldBeAsked_16 : decode cP_wouldBeAsked 16 = .ok (.ifCond .eq 15, 3) := by decide +kernel
theorem dP_wouldBeAsked_19 : decode cP_wouldBeAsked 19 = .ok (.aload_n 0, 1) := by decide +kernel
theorem dP_wouldBeAsked_20 : decode cP_wouldBeAsked 20 = .ok (.getfield 23, 3) := by decide +kernel
theorem dP_wouldBeAsked_23 : decode cP_wouldBeAsked 23 = .ok (.iconst 1, 1) := by decide +kernel
theorem dP_wouldBeAsked_24 : decode cP_wouldBeAsked 24 = .ok (.if_icmp .ne 7, 3) := by decide +kernel
theorem dP_wouldBeAsked_27 : decode cP_wouldBeAsked 27 = .ok (.iconst 1, 1) := by decide +kernel
theorem dP_wouldBeAsked_28 : decode cP_wouldBeAsked 28 = .ok (.goto 4, 3) := by decide +kernel
theorem dP_wouldBeAsked_31 : decode cP_wouldBeAsked 31 = .ok (.iconst 0, 1) := by decide +kernel
theorem dP_wouldBeAsked_32 : decode cP_wouldBeAsked 32 = .ok (.ireturn, 1) := by decide +kernel
theorem dYA_fill_0 : decode cYA_fill 0 = .ok (.iconst 0, 1) := by decide +kernel
theorem dYA_fill_1 : decode cYA_fill 1 = .ok (.istore_n 2, 1) := by decide +kernel
theorem dYA_fill_2 : decode cYA_fill 2 = .ok (.aload_n 0, 1) := by decide +kernel
theorem dYA_fill_3 : decode cYA_fill 3 = .ok (.arraylength, 1) := by decide +kernel
theorem dYA_fill_4 : decode cYA_fill 4 = .ok (.istore_n 3, 1) := by decide +kernel
theorem dYA_fill_5 : decode cYA_fill 5 = .ok (.iload_n 2, 1) := by decide +kernel
theorem dYA_fill_6 : decode cYA_fill 6 = .ok (.iload_n 3, 1) := by decide +kernel
theorem dYA_fill_7 : decode cYA_fill 7 = .ok (.if_icmp .ge 13, 3) := by decide +kernel
theorem dYA_fill_10 : decode cYA_fill 10 = .ok (.aload_n 0, 1) := by decide +kernel
theorem dYA_fill_11 : decode cYA_fill 11 = .ok (.iload_n 2, 1) := by decide +kernel
theorem dYA_fill_12 : decode cYA_fill 12 = .ok (.iload_n 1, 1) := by decide +kernel
theorem dYA_fill_13 : decode cYA_fill 13 = .ok (.iastore, 1) := by decide +kernel
theorem dYA_fill_14 : decode cYA_fill 14 = .ok (.iinc 2 1, 3) := by decide +kernel
theorem dYA_fill_17 : decode cYA_fill 17 = .ok (.goto (-12), 3) := by decide +kernel
theorem dYA_fill_20 : decode cYA_fill 20 = .ok (.return_, 1) := by decide +kernel
theorem dL_init_0 : decode cL_init 0 = .ok (.aload_n 0, 1) := by decide +kernel
theorem dL_init_1 : decode cL_init 1 = .ok (.invokespecial 3, 3) := by decide +kernel
theorem dL_init_4 : decode cL_init 4 = .ok (.aload_n 0, 1) := by decide +kernel
theorem dL_init_5 : decode cL_init 5 = .ok (.iload_n 1, 1) := by decide +kernel
theorem dL_init_6 : decode cL_init 6 = .ok (.putfield 9, 3) := by decide +kernel
theorem dL_init_9 : decode cL_init 9 = .ok (.aload_n 0, 1) := by decide +kernel
theorem dL_init_10 : decode cL_init 10 = .ok (.iload_n 2, 1) := by decide +kernel
theorem dL_init_11 : decode cL_init 11 = .ok (.putfield 15, 3) := by decide +kernel
theorem dL_init_14 : decode cL_init 14 = .ok (.aload_n 0, 1) := by decide +kernel
theorem dL_init_15 : decode cL_init 15 = .ok (.iload_n 3, 1) := by decide +kernel
theorem dL_init_16 : decode cL_init 16 = .ok (.putfield 19, 3) := by decide +kernel
theorem dL_init_19 : decode cL_init 19 = .ok (.aload_n 0, 1) := by decide +kernel
theorem dL_init_20 : decode cL_init 20 = .ok (.iload 4, 2) := by decide +kernel
theorem dL_init_22 : decode cL_init 22 = .ok (.putfield 22, 3) := by decide +kernel
theorem dL_init_25 : decode cL_init 25 = .ok (.aload_n 0, 1) := by decide +kernel
theorem dL_init_26 : decode cL_init 26 = .ok (.iload 5, 2) := by decide +kernel
theorem dL_init_28 : decode cL_init 28 = .ok (.putfield 25, 3) := by decide +kernel
theorem dL_init_31 : decode cL_init 31 = .ok (.aload_n 0, 1) := by decide +kernel
theorem dL_init_32 : decode cL_init 32 = .ok (.iconst 0, 1) := by decide +kernel
theorem dL_init_33 : decode cL_init 33 = .ok (.putfield 28, 3) := by decide +kernel
theorem dL_init_36 : decode cL_init 36 = .ok (.aload_n 0, 1) := by decide +kernel
theorem dL_init_37 : decode cL_init 37 = .ok (.bipush 60, 2) := by decide +kernel
theorem dL_init_39 : decode cL_init 39 = .ok (.newarray .int, 2) := by decide +kernel
theorem dL_init_41 : decode cL_init 41 = .ok (.putfield 31, 3) := by decide +kernel
theorem dL_init_44 : decode cL_init 44 = .ok (.aload_n 0, 1) := by decide +kernel
theorem dL_init_45 : decode cL_init 45 = .ok (.bipush 60, 2) := by decide +kernel
theorem dL_init_47 : decode cL_init 47 = .ok (.newarray .int, 2) := by decide +kernel
theorem dL_init_49 : decode cL_init 49 = .ok (.putfield 35, 3) := by decide +kernel
theorem dL_init_52 : decode cL_init 52 = .ok (.aload_n 0, 1) := by decide +kernel
theorem dL_init_53 : decode cL_init 53 = .ok (.getfield 31, 3) := by decide +kernel
theorem dL_init_56 : decode cL_init 56 = .ok (.bipush (-2), 2) := by decide +kernel
theorem dL_init_58 : decode cL_init 58 = .ok (.invokestatic 38, 3) := by decide +kernel
theorem dL_init_61 : decode cL_init 61 = .ok (.aload_n 0, 1) := by decide +kernel
theorem dL_init_62 : decode cL_init 62 = .ok (.getfield 35, 3) := by decide +kernel
theorem dL_init_65 : decode cL_init 65 = .ok (.bipush (-2), 2) := by decide +kernel
theorem dL_init_67 : decode cL_init 67 = .ok (.invokestatic 38, 3) := by decide +kernel
theorem dL_init_70 : decode cL_init 70 = .ok (.return_, 1) := by decide +kernel
theorem dP_reachNow_0 : decode cP_reachNow 0 = .ok (.iconst 0, 1) := by decide +kernel
theorem dP_reachNow_1 : decode cP_reachNow 1 = .ok (.istore_n 1, 1) := by decide +kernel
theorem dP_reachNow_2 : decode cP_reachNow 2 = .ok (.iload_n 1, 1) := by decide +kernel
theorem dP_reachNow_3 : decode cP_reachNow 3 = .ok (.aload_n 0, 1) := by decide +kernel
theorem dP_reachNow_4 : decode cP_reachNow 4 = .ok (.getfield 26, 3) := by decide +kernel
theorem dP_reachNow_7 : decode cP_reachNow 7 = .ok (.if_icmp .ge 36, 3) := by decide +kernel
theorem dP_reachNow_10 : decode cP_reachNow 10 = .ok (.iload_n 1, 1) := by decide +kernel
theorem dP_reachNow_11 : decode cP_reachNow 11 = .ok (.iconst 3, 1) := by decide +kernel
theorem dP_reachNow_12 : decode cP_reachNow 12 = .ok (.if_icmp .ge 31, 3) := by decide +kernel
theorem dP_reachNow_15 : decode cP_reachNow 15 = .ok (.aload_n 0, 1) := by decide +kernel
theorem dP_reachNow_16 : decode cP_reachNow 16 = .ok (.getfield 19, 3) := by decide +kernel
theorem dP_reachNow_19 : decode cP_reachNow 19 = .ok (.iload_n 1, 1) := by decide +kernel
theorem dP_reachNow_20 : decode cP_reachNow 20 = .ok (.baload, 1) := by decide +kernel
theorem dP_reachNow_21 : decode cP_reachNow 21 = .ok (.ifCond .eq 16, 3) := by decide +kernel
theorem dP_reachNow_24 : decode cP_reachNow 24 = .ok (.sipush 200, 3) := by decide +kernel
theorem dP_reachNow_27 : decode cP_reachNow 27 = .ok (.iload_n 1, 1) := by decide +kernel
theorem dP_reachNow_28 : decode cP_reachNow 28 = .ok (.imul, 1) := by decide +kernel
theorem dP_reachNow_29 : decode cP_reachNow 29 = .ok (.aload_n 0, 1) := by decide +kernel
theorem dP_reachNow_30 : decode cP_reachNow 30 = .ok (.getfield 15, 3) := by decide +kernel
theorem dP_reachNow_33 : decode cP_reachNow 33 = .ok (.iload_n 1, 1) := by decide +kernel
theorem dP_reachNow_34 : decode cP_reachNow 34 = .ok (.iaload, 1) := by decide +kernel
theorem dP_reachNow_35 : decode cP_reachNow 35 = .ok (.iadd, 1) := by decide +kernel
theorem dP_reachNow_36 : decode cP_reachNow 36 = .ok (.ireturn, 1) := by decide +kernel
theorem dP_reachNow_37 : decode cP_reachNow 37 = .ok (.iinc 1 1, 3) := by decide +kernel
theorem dP_reachNow_40 : decode cP_reachNow 40 = .ok (.goto (-38), 3) := by decide +kernel
theorem dP_reachNow_43 : decode cP_reachNow 43 = .ok (.iconst (-1), 1) := by decide +kernel
theorem dP_reachNow_44 : decode cP_reachNow 44 = .ok (.ireturn, 1) := by decide +kernel
theorem dL_ask_0 : decode cL_ask 0 = .ok (.iload_n 1, 1) := by decide +kernel
theorem dL_ask_1 : decode cL_ask 1 = .ok (.ifCond .lt 19, 3) := by decide +kernel
theorem dL_ask_4 : decode cL_ask 4 = .ok (.iload_n 1, 1) := by decide +kernel
theorem dL_ask_5 : decode cL_ask 5 = .ok (.aload_n 0, 1) := by decide +kernel
theorem dL_ask_6 : decode cL_ask 6 = .ok (.getfield 31, 3) := by decide +kernel
theorem dL_ask_9 : decode cL_ask 9 = .ok (.arraylength, 1) := by decide +kernel
theorem dL_ask_10 : decode cL_ask 10 = .ok (.if_icmp .ge 10, 3) := by decide +kernel
theorem dL_ask_13 : decode cL_ask 13 = .ok (.aload_n 0, 1) := by decide +kernel
theorem dL_ask_14 : decode cL_ask 14 = .ok (.getfield 31, 3) := by decide +kernel
theorem dL_ask_17 : decode cL_ask 17 = .ok (.iload_n 1, 1) := by decide +kernel
theorem dL_ask_18 : decode cL_ask 18 = .ok (.iload_n 2, 1) := by decide +kernel
theorem dL_ask_19 : decode cL_ask 19 = .ok (.iastore, 1) := by decide +kernel
theorem dL_ask_20 : decode cL_ask 20 = .ok (.return_, 1) := by decide +kernel
theorem dL_reachOf_0 : decode cL_reachOf 0 = .ok (.iload_n 1, 1) := by decide +kernel
theorem dL_reachOf_1 : decode cL_reachOf 1 = .ok (.ifCond .lt 21, 3) := by decide +kernel
theorem dL_reachOf_4 : decode cL_reachOf 4 = .ok (.iload_n 1, 1) := by decide +kernel
theorem dL_reachOf_5 : decode cL_reachOf 5 = .ok (.aload_n 0, 1) := by decide +kernel
theorem dL_reachOf_6 : decode cL_reachOf 6 = .ok (.getfield 31, 3) := by decide +kernel
theorem dL_reachOf_9 : decode cL_reachOf 9 = .ok (.arraylength, 1) := by decide +kernel
theorem dL_reachOf_10 : decode cL_reachOf 10 = .ok (.if_icmp .ge 12, 3) := by decide +kernel
theorem dL_reachOf_13 : decode cL_reachOf 13 = .ok (.aload_n 0, 1) := by decide +kernel
theorem dL_reachOf_14 : decode cL_reachOf 14 = .ok (.getfield 31, 3) := by decide +kernel
theorem dL_reachOf_17 : decode cL_reachOf 17 = .ok (.iload_n 1, 1) := by decide +kernel
theorem dL_reachOf_18 : decode cL_reachOf 18 = .ok (.iaload, 1) := by decide +kernel
theorem dL_reachOf_19 : decode cL_reachOf 19 = .ok (.goto 5, 3) := by decide +kernel
theorem dL_reachOf_22 : decode cL_reachOf 22 = .ok (.bipush (-2), 2) := by decide +kernel
theorem dL_reachOf_24 : decode cL_reachOf 24 = .ok (.ireturn, 1) := by decide +kernel
theorem dL_hasReached_0 : decode cL_hasReached 0 = .ok (.aload_n 0, 1) := by decide +kernel
theorem dL_hasReached_1 : decode cL_hasReached 1 = .ok (.iload_n 1, 1) := by decide +kernel
theorem dL_hasReached_2 : decode cL_hasReached 2 = .ok (.invokevirtual 44, 3) := by decide +kernel
theorem dL_hasReached_5 : decode cL_hasReached 5 = .ok (.ifCond .lt 7, 3) := by decide +kernel
theorem dL_hasReached_8 : decode cL_hasReached 8 = .ok (.iconst 1, 1) := by decide +kernel
theorem dL_hasReached_9 : decode cL_hasReached 9 = .ok (.goto 4, 3) := by decide +kernel
theorem dL_hasReached_12 : decode cL_hasReached 12 = .ok (.iconst 0, 1) := by decide +kernel
theorem dL_hasReached_13 : decode cL_hasReached 13 = .ok (.ireturn, 1) := by decide +kernel
theorem dL_hasReachedBy_0 : decode cL_hasReachedBy 0 = .ok (.aload_n 0, 1) := by decide +kernel
theorem dL_hasReachedBy_1 : decode cL_hasReachedBy 1 = .ok (.iload_n 2, 1) := by decide +kernel
theorem dL_hasReachedBy_2 : decode cL_hasReachedBy 2 = .ok (.invokevirtual 48, 3) := by decide +kernel
theorem dL_hasReachedBy_5 : decode cL_hasReachedBy 5 = .ok (.ifCond .eq 24, 3) := by decide +kernel
theorem dL_hasReachedBy_8 : decode cL_hasReachedBy 8 = .ok (.iload_n 1, 1) := by decide +kernel
theorem dL_hasReachedBy_9 : decode cL_hasReachedBy 9 = .ok (.aload_n 0, 1) := by decide +kernel
theorem dL_hasReachedBy_10 : decode cL_hasReachedBy 10 = .ok (.getfield 19, 3) := by decide +kernel
theorem dL_hasReachedBy_13 : decode cL_hasReachedBy 13 = .ok (.isub, 1) := by decide +kernel
theorem dL_hasReachedBy_14 : decode cL_hasReachedBy 14 = .ok (.aload_n 0, 1) := by decide +kernel
theorem dL_hasReachedBy_15 : decode cL_hasReachedBy 15 = .ok (.iload_n 2, 1) := by decide +kernel
theorem dL_hasReachedBy_16 : decode cL_hasReachedBy 16 = .ok (.invokevirtual 44, 3) := by decide +kernel
theorem dL_hasReachedBy_19 : decode cL_hasReachedBy 19 = .ok (.bipush 10, 2) := by decide +kernel
theorem dL_hasReachedBy_21 : decode cL_hasReachedBy 21 = .ok (.idiv, 1) := by decide +kernel
theorem dL_hasReachedBy_22 : decode cL_hasReachedBy 22 = .ok (.if_icmp .lt 7, 3) := by decide +kernel
theorem dL_hasReachedBy_25 : decode cL_hasReachedBy 25 = .ok (.iconst 1, 1) := by decide +kernel
theorem dL_hasReachedBy_26 : decode cL_hasReachedBy 26 = .ok (.goto 4, 3) := by decide +kernel
theorem dL_hasReachedBy_29 : decode cL_hasReachedBy 29 = .ok (.iconst 0, 1) := by decide +kernel
theorem dL_hasReachedBy_30 : decode cL_hasReachedBy 30 = .ok (.ireturn, 1) := by decide +kernel
theorem dL_note_0 : decode cL_note 0 = .ok (.iload_n 1, 1) := by decide +kernel
theorem dL_note_1 : decode cL_note 1 = .ok (.ifCond .lt 19, 3) := by decide +kernel
theorem dL_note_4 : decode cL_note 4 = .ok (.iload_n 1, 1) := by decide +kernel
theorem dL_note_5 : decode cL_note 5 = .ok (.aload_n 0, 1) := by decide +kernel
theorem dL_note_6 : decode cL_note 6 = .ok (.getfield 35, 3) := by decide +kernel
theorem dL_note_9 : decode cL_note 9 = .ok (.arraylength, 1) := by decide +kernel
theorem dL_note_10 : decode cL_note 10 = .ok (.if_icmp .ge 10, 3) := by decide +kernel
theorem dL_note_13 : decode cL_note 13 = .ok (.aload_n 0, 1) := by decide +kernel
theorem dL_note_14 : decode cL_note 14 = .ok (.getfield 35, 3) := by decide +kernel
theorem dL_note_17 : decode cL_note 17 = .ok (.iload_n 1, 1) := by decide +kernel
theorem dL_note_18 : decode cL_note 18 = .ok (.iload_n 2, 1) := by decide +kernel
theorem dL_note_19 : decode cL_note 19 = .ok (.iastore, 1) := by decide +kernel
theorem dL_note_20 : decode cL_note 20 = .ok (.return_, 1) := by decide +kernel
theorem dL_hasAsked_0 : decode cL_hasAsked 0 = .ok (.aload_n 0, 1) := by decide +kernel
theorem dL_hasAsked_1 : decode cL_hasAsked 1 = .ok (.iload_n 1, 1) := by decide +kernel
theorem dL_hasAsked_2 : decode cL_hasAsked 2 = .ok (.invokevirtual 44, 3) := by decide +kernel
theorem dL_hasAsked_5 : decode cL_hasAsked 5 = .ok (.bipush (-2), 2) := by decide +kernel
theorem dL_hasAsked_7 : decode cL_hasAsked 7 = .ok (.if_icmp .eq 7, 3) := by decide +kernel
theorem dL_hasAsked_10 : decode cL_hasAsked 10 = .ok (.iconst 1, 1) := by decide +kernel
theorem dL_hasAsked_11 : decode cL_hasAsked 11 = .ok (.goto 4, 3) := by decide +kernel
theorem dL_hasAsked_14 : decode cL_hasAsked 14 = .ok (.iconst 0, 1) := by decide +kernel
theorem dL_hasAsked_15 : decode cL_hasAsked 15 = .ok (.ireturn, 1) := by decide +kernel
theorem dL_countFrom_0 : decode cL_countFrom 0 = .ok (.iconst 0, 1) := by decide +kernel
theorem dL_countFrom_1 : decode cL_countFrom 1 = .ok (.istore_n 2, 1) := by decide +kernel
theorem dL_countFrom_2 : decode cL_countFrom 2 = .ok (.aload_n 0, 1) := by decide +kernel
theorem dL_countFrom_3 : decode cL_countFrom 3 = .ok (.astore_n 3, 1) := by decide +kernel
theorem dL_countFrom_4 : decode cL_countFrom 4 = .ok (.aload_n 3, 1) := by decide +kernel
theorem dL_countFrom_5 : decode cL_countFrom 5 = .ok (.arraylength, 1) := by decide +kernel
theorem dL_countFrom_6 : decode cL_countFrom 6 = .ok (.istore 4, 2) := by decide +kernel
theorem dL_countFrom_8 : decode cL_countFrom 8 = .ok (.iconst 0, 1) := by decide +kernel
theorem dL_countFrom_9 : decode cL_countFrom 9 = .ok (.istore 5, 2) := by decide +kernel
theorem dL_countFrom_11 : decode cL_countFrom 11 = .ok (.iload 5, 2) := by decide +kernel
theorem dL_countFrom_13 : decode cL_countFrom 13 = .ok (.iload 4, 2) := by decide +kernel
theorem dL_countFrom_15 : decode cL_countFrom 15 = .ok (.if_icmp .ge 24, 3) := by decide +kernel
theorem dL_countFrom_18 : decode cL_countFrom 18 = .ok (.aload_n 3, 1) := by decide +kernel
theorem dL_countFrom_19 : decode cL_countFrom 19 = .ok (.iload 5, 2) := by decide +kernel
theorem dL_countFrom_21 : decode cL_countFrom 21 = .ok (.iaload, 1) := by decide +kernel
theorem dL_countFrom_22 : decode cL_countFrom 22 = .ok (.istore 6, 2) := by decide +kernel
theorem dL_countFrom_24 : decode cL_countFrom 24 = .ok (.iload 6, 2) := by decide +kernel
theorem dL_countFrom_26 : decode cL_countFrom 26 = .ok (.iload_n 1, 1) := by decide +kernel
theorem dL_countFrom_27 : decode cL_countFrom 27 = .ok (.if_icmp .lt 6, 3) := by decide +kernel
theorem dL_countFrom_30 : decode cL_countFrom 30 = .ok (.iinc 2 1, 3) := by decide +kernel
theorem dL_countFrom_33 : decode cL_countFrom 33 = .ok (.iinc 5 1, 3) := by decide +kernel
theorem dL_countFrom_36 : decode cL_countFrom 36 = .ok (.goto (-25), 3) := by decide +kernel
theorem dL_countFrom_39 : decode cL_countFrom 39 = .ok (.iload_n 2, 1) := by decide +kernel
theorem dL_countFrom_40 : decode cL_countFrom 40 = .ok (.ireturn, 1) := by decide +kernel
theorem dL_comingPersons_0 : decode cL_comingPersons 0 = .ok (.aload_n 0, 1) := by decide +kernel
theorem dL_comingPersons_1 : decode cL_comingPersons 1 = .ok (.getfield 35, 3) := by decide +kernel
theorem dL_comingPersons_4 : decode cL_comingPersons 4 = .ok (.iconst 0, 1) := by decide +kernel
theorem dL_comingPersons_5 : decode cL_comingPersons 5 = .ok (.invokestatic 52, 3) := by decide +kernel
theorem dL_comingPersons_8 : decode cL_comingPersons 8 = .ok (.ireturn, 1) := by decide +kernel
theorem dL_askedPersons_0 : decode cL_askedPersons 0 = .ok (.aload_n 0, 1) := by decide +kernel
theorem dL_askedPersons_1 : decode cL_askedPersons 1 = .ok (.getfield 31, 3) := by decide +kernel
theorem dL_askedPersons_4 : decode cL_askedPersons 4 = .ok (.iconst (-1), 1) := by decide +kernel
theorem dL_askedPersons_5 : decode cL_askedPersons 5 = .ok (.invokestatic 52, 3) := by decide +kernel
theorem dL_askedPersons_8 : decode cL_askedPersons 8 = .ok (.ireturn, 1) := by decide +kernel
theorem dL_answeredPersons_0 : decode cL_answeredPersons 0 = .ok (.aload_n 0, 1) := by decide +kernel
theorem dL_answeredPersons_1 : decode cL_answeredPersons 1 = .ok (.getfield 35, 3) := by decide +kernel
theorem dL_answeredPersons_4 : decode cL_answeredPersons 4 = .ok (.iconst (-1), 1) := by decide +kernel
theorem dL_answeredPersons_5 : decode cL_answeredPersons 5 = .ok (.invokestatic 52, 3) := by decide +kernel
theorem dL_answeredPersons_8 : decode cL_answeredPersons 8 = .ok (.ireturn, 1) := by decide +kernel
theorem dL_hasAnswer_0 : decode cL_hasAnswer 0 = .ok (.iload_n 1, 1) := by decide +kernel
theorem dL_hasAnswer_1 : decode cL_hasAnswer 1 = .ok (.ifCond .lt 27, 3) := by decide +kernel
theorem dL_hasAnswer_4 : decode cL_hasAnswer 4 = .ok (.iload_n 1, 1) := by decide +kernel
theorem dL_hasAnswer_5 : decode cL_hasAnswer 5 = .ok (.aload_n 0, 1) := by decide +kernel
theorem dL_hasAnswer_6 : decode cL_hasAnswer 6 = .ok (.getfield 35, 3) := by decide +kernel
theorem dL_hasAnswer_9 : decode cL_hasAnswer 9 = .ok (.arraylength, 1) := by decide +kernel
theorem dL_hasAnswer_10 : decode cL_hasAnswer 10 = .ok (.if_icmp .ge 18, 3) := by decide +kernel
theorem dL_hasAnswer_13 : decode cL_hasAnswer 13 = .ok (.aload_n 0, 1) := by decide +kernel
theorem dL_hasAnswer_14 : decode cL_hasAnswer 14 = .ok (.getfield 35, 3) := by decide +kernel
theorem dL_hasAnswer_17 : decode cL_hasAnswer 17 = .ok (.iload_n 1, 1) := by decide +kernel
theorem dL_hasAnswer_18 : decode cL_hasAnswer 18 = .ok (.iaload, 1) := by decide +kernel
theorem dL_hasAnswer_19 : decode cL_hasAnswer 19 = .ok (.bipush (-2), 2) := by decide +kernel
theorem dL_hasAnswer_21 : decode cL_hasAnswer 21 = .ok (.if_icmp .eq 7, 3) := by decide +kernel
theorem dL_hasAnswer_24 : decode cL_hasAnswer 24 = .ok (.iconst 1, 1) := by decide +kernel
theorem dL_hasAnswer_25 : decode cL_hasAnswer 25 = .ok (.goto 4, 3) := by decide +kernel
theorem dL_hasAnswer_28 : decode cL_hasAnswer 28 = .ok (.iconst 0, 1) := by decide +kernel
theorem dL_hasAnswer_29 : decode cL_hasAnswer 29 = .ok (.ireturn, 1) := by decide +kernel
theorem dP_addClosed_0 : decode cP_addClosed 0 = .ok (.aload_n 0, 1) := by decide +kernel
theorem dP_addClosed_1 : decode cP_addClosed 1 = .ok (.dup, 1) := by decide +kernel
theorem dP_addClosed_2 : decode cP_addClosed 2 = .ok (.getfield 29, 3) := by decide +kernel
theorem dP_addClosed_5 : decode cP_addClosed 5 = .ok (.iconst 1, 1) := by decide +kernel
theorem dP_addClosed_6 : decode cP_addClosed 6 = .ok (.iadd, 1) := by decide +kernel
theorem dP_addClosed_7 : decode cP_addClosed 7 = .ok (.putfield 29, 3) := by decide +kernel
theorem dP_addClosed_10 : decode cP_addClosed 10 = .ok (.iload_n 1, 1) := by decide +kernel
theorem dP_addClosed_11 : decode cP_addClosed 11 = .ok (.ifCond .eq 13, 3) := by decide +kernel
theorem dP_addClosed_14 : decode cP_addClosed 14 = .ok (.aload_n 0, 1) := by decide +kernel
theorem dP_addClosed_15 : decode cP_addClosed 15 = .ok (.dup, 1) := by decide +kernel
theorem dP_addClosed_16 : decode cP_addClosed 16 = .ok (.getfield 32, 3) := by decide +kernel
theorem dP_addClosed_19 : decode cP_addClosed 19 = .ok (.iconst 1, 1) := by decide +kernel
theorem dP_addClosed_20 : decode cP_addClosed 20 = .ok (.iadd, 1) := by decide +kernel
theorem dP_addClosed_21 : decode cP_addClosed 21 = .ok (.putfield 32, 3) := by decide +kernel
theorem dP_addClosed_24 : decode cP_addClosed 24 = .ok (.return_, 1) := by decide +kernel
theorem dL_reachedPersons_0 : decode cL_reachedPersons 0 = .ok (.aload_n 0, 1) := by decide +kernel
theorem dL_reachedPersons_1 : decode cL_reachedPersons 1 = .ok (.getfield 31, 3) := by decide +kernel
theorem dL_reachedPersons_4 : decode cL_reachedPersons 4 = .ok (.iconst 0, 1) := by decide +kernel
theorem dL_reachedPersons_5 : decode cL_reachedPersons 5 = .ok (.invokestatic 52, 3) := by decide +kernel
theorem dL_reachedPersons_8 : decode cL_reachedPersons 8 = .ok (.ireturn, 1) := by decide +kernel
theorem dL_comersBefore_0 : decode cL_comersBefore 0 = .ok (.iconst 0, 1) := by decide +kernel
theorem dL_comersBefore_1 : decode cL_comersBefore 1 = .ok (.istore_n 3, 1) := by decide +kernel
theorem dL_comersBefore_2 : decode cL_comersBefore 2 = .ok (.iconst 0, 1) := by decide +kernel
theorem dL_comersBefore_3 : decode cL_comersBefore 3 = .ok (.istore 4, 2) := by decide +kernel
theorem dL_comersBefore_5 : decode cL_comersBefore 5 = .ok (.iload 4, 2) := by decide +kernel
theorem dL_comersBefore_7 : decode cL_comersBefore 7 = .ok (.aload_n 0, 1) := by decide +kernel
theorem dL_comersBefore_8 : decode cL_comersBefore 8 = .ok (.getfield 35, 3) := by decide +kernel
theorem dL_comersBefore_11 : decode cL_comersBefore 11 = .ok (.arraylength, 1) := by decide +kernel
theorem dL_comersBefore_12 : decode cL_comersBefore 12 = .ok (.if_icmp .ge 44, 3) := by decide +kernel
theorem dL_comersBefore_15 : decode cL_comersBefore 15 = .ok (.aload_n 0, 1) := by decide +kernel
theorem dL_comersBefore_16 : decode cL_comersBefore 16 = .ok (.getfield 35, 3) := by decide +kernel
theorem dL_comersBefore_19 : decode cL_comersBefore 19 = .ok (.iload 4, 2) := by decide +kernel
theorem dL_comersBefore_21 : decode cL_comersBefore 21 = .ok (.iaload, 1) := by decide +kernel
theorem dL_comersBefore_22 : decode cL_comersBefore 22 = .ok (.istore 5, 2) := by decide +kernel
theorem dL_comersBefore_24 : decode cL_comersBefore 24 = .ok (.iload 5, 2) := by decide +kernel
theorem dL_comersBefore_26 : decode cL_comersBefore 26 = .ok (.ifCond .lt 24, 3) := by decide +kernel
theorem dL_comersBefore_29 : decode cL_comersBefore 29 = .ok (.iload 5, 2) := by decide +kernel
theorem dL_comersBefore_31 : decode cL_comersBefore 31 = .ok (.iload_n 2, 1) := by decide +kernel
theorem dL_comersBefore_32 : decode cL_comersBefore 32 = .ok (.if_icmp .lt 15, 3) := by decide +kernel
theorem dL_comersBefore_35 : decode cL_comersBefore 35 = .ok (.iload 5, 2) := by decide +kernel
theorem dL_comersBefore_37 : decode cL_comersBefore 37 = .ok (.iload_n 2, 1) := by decide +kernel
theorem dL_comersBefore_38 : decode cL_comersBefore 38 = .ok (.if_icmp .ne 12, 3) := by decide +kernel
theorem dL_comersBefore_41 : decode cL_comersBefore 41 = .ok (.iload 4, 2) := by decide +kernel
theorem dL_comersBefore_43 : decode cL_comersBefore 43 = .ok (.iload_n 1, 1) := by decide +kernel
theorem dL_comersBefore_44 : decode cL_comersBefore 44 = .ok (.if_icmp .ge 6, 3) := by decide +kernel
theorem dL_comersBefore_47 : decode cL_comersBefore 47 = .ok (.iinc 3 1, 3) := by decide +kernel
theorem dL_comersBefore_50 : decode cL_comersBefore 50 = .ok (.iinc 4 1, 3) := by decide +kernel
theorem dL_comersBefore_53 : decode cL_comersBefore 53 = .ok (.goto (-48), 3) := by decide +kernel
theorem dL_comersBefore_56 : decode cL_comersBefore 56 = .ok (.iload_n 3, 1) := by decide +kernel
theorem dL_comersBefore_57 : decode cL_comersBefore 57 = .ok (.ireturn, 1) := by decide +kernel
theorem dL_comerAt_0 : decode cL_comerAt 0 = .ok (.iconst 0, 1) := by decide +kernel
theorem dL_comerAt_1 : decode cL_comerAt 1 = .ok (.istore_n 2, 1) := by decide +kernel
theorem dL_comerAt_2 : decode cL_comerAt 2 = .ok (.iload_n 2, 1) := by decide +kernel
theorem dL_comerAt_3 : decode cL_comerAt 3 = .ok (.aload_n 0, 1) := by decide +kernel
theorem dL_comerAt_4 : decode cL_comerAt 4 = .ok (.getfield 35, 3) := by decide +kernel
theorem dL_comerAt_7 : decode cL_comerAt 7 = .ok (.arraylength, 1) := by decide +kernel
theorem dL_comerAt_8 : decode cL_comerAt 8 = .ok (.if_icmp .ge 38, 3) := by decide +kernel
theorem dL_comerAt_11 : decode cL_comerAt 11 = .ok (.aload_n 0, 1) := by decide +kernel
theorem dL_comerAt_12 : decode cL_comerAt 12 = .ok (.getfield 35, 3) := by decide +kernel
theorem dL_comerAt_15 : decode cL_comerAt 15 = .ok (.iload_n 2, 1) := by decide +kernel
theorem dL_comerAt_16 : decode cL_comerAt 16 = .ok (.iaload, 1) := by decide +kernel
theorem dL_comerAt_17 : decode cL_comerAt 17 = .ok (.istore_n 3, 1) := by decide +kernel
theorem dL_comerAt_18 : decode cL_comerAt 18 = .ok (.iload_n 3, 1) := by decide +kernel
theorem dL_comerAt_19 : decode cL_comerAt 19 = .ok (.ifCond .lt 21, 3) := by decide +kernel
theorem dL_comerAt_22 : decode cL_comerAt 22 = .ok (.aload_n 0, 1) := by decide +kernel
theorem dL_comerAt_23 : decode cL_comerAt 23 = .ok (.iload_n 2, 1) := by decide +kernel
theorem dL_comerAt_24 : decode cL_comerAt 24 = .ok (.iload_n 3, 1) := by decide +kernel
theorem dL_comerAt_25 : decode cL_comerAt 25 = .ok (.invokevirtual 56, 3) := by decide +kernel
theorem dL_comerAt_28 : decode cL_comerAt 28 = .ok (.iload_n 1, 1) := by decide +kernel
theorem dL_comerAt_29 : decode cL_comerAt 29 = .ok (.if_icmp .ne 11, 3) := by decide +kernel
theorem dL_comerAt_32 : decode cL_comerAt 32 = .ok (.sipush 1000, 3) := by decide +kernel
theorem dL_comerAt_35 : decode cL_comerAt 35 = .ok (.iload_n 2, 1) := by decide +kernel
theorem dL_comerAt_36 : decode cL_comerAt 36 = .ok (.imul, 1) := by decide +kernel
theorem dL_comerAt_37 : decode cL_comerAt 37 = .ok (.iload_n 3, 1) := by decide +kernel
theorem dL_comerAt_38 : decode cL_comerAt 38 = .ok (.iadd, 1) := by decide +kernel
theorem dL_comerAt_39 : decode cL_comerAt 39 = .ok (.ireturn, 1) := by decide +kernel
theorem dL_comerAt_40 : decode cL_comerAt 40 = .ok (.iinc 2 1, 3) := by decide +kernel
theorem dL_comerAt_43 : decode cL_comerAt 43 = .ok (.goto (-41), 3) := by decide +kernel
theorem dL_comerAt_46 : decode cL_comerAt 46 = .ok (.iconst (-1), 1) := by decide +kernel
theorem dL_comerAt_47 : decode cL_comerAt 47 = .ok (.ireturn, 1) := by decide +kernel
theorem dP_neverAnswers_0 : decode cP_neverAnswers 0 = .ok (.aload_n 0, 1) := by decide +kernel
theorem dP_neverAnswers_1 : decode cP_neverAnswers 1 = .ok (.getfield 29, 3) := by decide +kernel
theorem dP_neverAnswers_4 : decode cP_neverAnswers 4 = .ok (.iconst 3, 1) := by decide +kernel
theorem dP_neverAnswers_5 : decode cP_neverAnswers 5 = .ok (.if_icmp .lt 14, 3) := by decide +kernel
theorem dP_neverAnswers_8 : decode cP_neverAnswers 8 = .ok (.aload_n 0, 1) := by decide +kernel
theorem dP_neverAnswers_9 : decode cP_neverAnswers 9 = .ok (.getfield 32, 3) := by decide +kernel
theorem dP_neverAnswers_12 : decode cP_neverAnswers 12 = .ok (.ifCond .ne 7, 3) := by decide +kernel
theorem dP_neverAnswers_15 : decode cP_neverAnswers 15 = .ok (.iconst 1, 1) := by decide +kernel
theorem dP_neverAnswers_16 : decode cP_neverAnswers 16 = .ok (.goto 4, 3) := by decide +kernel
theorem dP_neverAnswers_19 : decode cP_neverAnswers 19 = .ok (.iconst 0, 1) := by decide +kernel
theorem dP_neverAnswers_20 : decode cP_neverAnswers 20 = .ok (.ireturn, 1) := by decide +kernel
end
section
abbrev r_YC_init : Room := { frames := 1, cells := 0, slots := 0, locals := 40 }
def w_YC_init (e0 : Nat) (post : zM → Prop) (M : zM) (h0 : Nat) : Prop := post M
set_option maxHeartbeats 4000000 in
set_option maxRecDepth 100000 in
theorem k_YC_init {l : Launch} {D : va_G} {tc : Nat → ClassId} {A : Nat → Prop} {post : zM → Prop} {M : zM} {h0 : Nat} (hw : w_YC_init (tc 9) post M h0) : Met l yYC_init (.code yYC_init cYC_init 1 none :: zTB) r_YC_init (va_Pc [.ref h0] (zI D tc A M)) (va_Qv post (zB D tc A) A) 0 0 A := by
  refine Met.ofW (cc := cYC_init) (maxL := 1) (ret := none) (by decide +kernel) rfl ?_
  intro p e s m args below meth c s₁ B hml hv
  obtain ⟨rfl, hA, hM, hG⟩ := hv
  have C0 := zC_of (D := D) (tc := tc) (A := A) B hml (zC_ex B) hA hG
  obtain ⟨hx, hb, hml, hr, hown, htb, hlk, hA, hG, hin, hex⟩ := id C0
  have hK := hG.1
  have hS : va_S A s.heap s.heap [] := va_S.rf
  have hl := lv_entry ([.ref h0]) (n := 1) (Nat.le_of_ble_eq_true rfl)
  rw [lg_entry_eq]
  generalize (lg_sl ([.ref h0]) ++ List.replicate (1 - (lg_sl ([.ref h0])).length) Slot.unset).toArray = ls at hl ⊢
  have hl : lv_has ls 1 [(0, .ref h0)] := hl
  refine lv_aload_n hx hb dYC_init_0 rfl (lv_at hl 0 rfl) ?_
  refine W.objInit hx hb hown (htb _ t_42) (htb _ t_29) (htb _ t_30) rfl (by rw [hml]; exact hl.1) rfl dYC_init_1 (Nat.le_of_ble_eq_true rfl) (Nat.le_of_ble_eq_true rfl) ?_
  exact W.vret hx hb hr (fun t ht hW => ⟨⟨_, rfl, hw, zB_of ht hM⟩, hS.F ht⟩) hS.2.2 dYC_init_4
abbrev r_YL_init : Room := { frames := 2, cells := 0, slots := 0, locals := 60 }
def w_YL_init (e0 : Nat) (post : zM → Prop) (M : zM) (h0 : Nat) : Prop := w_YC_init e0 (fun M1 => wPF M1 h0 5 2 (.int 0) (fun M5 => post M5)) M h0
set_option maxHeartbeats 4000000 in
set_option maxRecDepth 100000 in
theorem k_YL_init {l : Launch} {D : va_G} {tc : Nat → ClassId} {A : Nat → Prop} {post : zM → Prop} {M : zM} {h0 : Nat} (hw : w_YL_init (tc 9) post M h0) : Met l yYL_init (.code yYL_init cYL_init 1 none :: zTB) r_YL_init (va_Pc [.ref h0] (zI D tc A M)) (va_Qv post (zB D tc A) A) 0 0 A := by
  refine Met.ofW (cc := cYL_init) (maxL := 1) (ret := none) (by decide +kernel) rfl ?_
  intro p e s m args below meth c s₁ B hml hv
  obtain ⟨rfl, hA, hM, hG⟩ := hv
  have C0 := zC_of (D := D) (tc := tc) (A := A) B hml (zC_ex B) hA hG
  obtain ⟨hx, hb, hml, hr, hown, htb, hlk, hA, hG, hin, hex⟩ := id C0
  have hK := hG.1
  have hS : va_S A s.heap s.heap [] := va_S.rf
  have hl := lv_entry ([.ref h0]) (n := 1) (Nat.le_of_ble_eq_true rfl)
  rw [lg_entry_eq]
  generalize (lg_sl ([.ref h0]) ++ List.replicate (1 - (lg_sl ([.ref h0])).length) Slot.unset).toArray = ls at hl ⊢
  have hl : lv_has ls 1 [(0, .ref h0)] := hl
  refine lv_aload_n hx hb dYL_init_0 rfl (lv_at hl 0 rfl) ?_
  refine va_callv (va_runI (As := []) (rest := []) ⟨hx, hb, hml, hown, htb⟩ (k_YC_init (l := l) (D := D) (tc := tc) (A := A) hw) (cw_YL_1 htb ⟨Nat.le_of_ble_eq_true rfl, Nat.le_of_ble_eq_true rfl⟩) (z_preS hG hA hS hM) rfl rfl hl.1 rfl (lv_room (Nat.le_of_ble_eq_true rfl)) dYL_init_1 ⟨Nat.le_refl _, Nat.le_refl _⟩) hS (fun _ _ h => h) (fun _ h => h) (fun M1 t H locs ht hvm hw hB _ _ hS => ?_)
  have hM : zP D vwCl tc A M1 H := by rw [← ht]; exact hB
  refine lv_aload_n hx hb dYL_init_4 rfl (lv_at hl 0 rfl) ?_
  refine lv_iconst (v := 0) hx hb dYL_init_5 (by decide +kernel) ?_
  obtain ⟨fs2, h3, hl4, hw⟩ := hw
  refine z_put (ty := .int) hx hb htb inw_Y ty_Y tyok_Y nmok_Y hown hK hM hS h3 rfl 2 (by decide) (htb _ t_47) (fun _ h9 => h9) rfl (by decide +kernel) rfl rfl hl4 dYL_init_6 (fun H locs hM hS => ?_)
  exact W.vret hx hb hr (fun t ht hW => ⟨⟨_, rfl, hw, zB_of ht hM⟩, hS.F ht⟩) hS.2.2 dYL_init_9
abbrev r_Y_init : Room := { frames := 3, cells := 0, slots := 0, locals := 80 }
def w_Y_init (e0 : Nat) (post : zM → Prop) (M : zM) (h0 : Nat) : Prop := w_YL_init e0 (fun M1 => wPF M1 h0 5 0 (.ref e0) (fun M5 => post M5)) M h0
set_option maxHeartbeats 4000000 in
set_option maxRecDepth 100000 in
theorem k_Y_init {l : Launch} {D : va_G} {tc : Nat → ClassId} {A : Nat → Prop} {post : zM → Prop} {M : zM} {h0 : Nat} (hw : w_Y_init (tc 9) post M h0) : Met l yY_init (.code yY_init cY_init 1 none :: zTB) r_Y_init (va_Pc [.ref h0] (zI D tc A M)) (va_Qv post (zB D tc A) A) 0 0 A := by
  refine Met.ofW (cc := cY_init) (maxL := 1) (ret := none) (by decide +kernel) rfl ?_
  intro p e s m args below meth c s₁ B hml hv
  obtain ⟨rfl, hA, hM, hG⟩ := hv
  have C0 := zC_of (D := D) (tc := tc) (A := A) B hml (zC_ex B) hA hG
  obtain ⟨hx, hb, hml, hr, hown, htb, hlk, hA, hG, hin, hex⟩ := id C0
  have hK := hG.1
  have hS : va_S A s.heap s.heap [] := va_S.rf
  have hl := lv_entry ([.ref h0]) (n := 1) (Nat.le_of_ble_eq_true rfl)
  rw [lg_entry_eq]
  generalize (lg_sl ([.ref h0]) ++ List.replicate (1 - (lg_sl ([.ref h0])).length) Slot.unset).toArray = ls at hl ⊢
  have hl : lv_has ls 1 [(0, .ref h0)] := hl
  refine lv_aload_n hx hb dY_init_0 rfl (lv_at hl 0 rfl) ?_
  refine va_callv (va_runI (As := []) (rest := []) ⟨hx, hb, hml, hown, htb⟩ (k_YL_init (l := l) (D := D) (tc := tc) (A := A) hw) (cw_Y_1 htb ⟨Nat.le_of_ble_eq_true rfl, Nat.le_of_ble_eq_true rfl⟩) (z_preS hG hA hS hM) rfl rfl hl.1 rfl (lv_room (Nat.le_of_ble_eq_true rfl)) dY_init_1 ⟨Nat.le_refl _, Nat.le_refl _⟩) hS (fun _ _ h => h) (fun _ h => h) (fun M1 t H locs ht hvm hw hB _ _ hS => ?_)
  have hM : zP D vwCl tc A M1 H := by rw [← ht]; exact hB
  refine lv_aload_n hx hb dY_init_4 rfl (lv_at hl 0 rfl) ?_
  refine va_gets hx hb hG.2.2.2.2.2.1 hS hown (htb _ t_43) (fun _ h9 => h9) dY_init_5 ?_
  obtain ⟨fs2, h3, hl4, hw⟩ := hw
  refine z_put (ty := (.array (.object "java/lang/Object"))) hx hb htb inw_Y ty_Y tyok_Y nmok_Y hown hK hM hS h3 rfl 0 (by decide) (htb _ t_45) (fun _ h9 => h9) rfl (by decide +kernel) rfl rfl hl4 dY_init_8 (fun H locs hM hS => ?_)
  exact W.vret hx hb hr (fun t ht hW => ⟨⟨_, rfl, hw, zB_of ht hM⟩, hS.F ht⟩) hS.2.2 dY_init_11
abbrev r_Y_size : Room := { frames := 0, cells := 0, slots := 0, locals := 0 }
def w_Y_size (e0 : Nat) (post : Int32 → zM → Prop) (M : zM) (h0 : Nat) : Prop := wGI M h0 5 1 (fun v1 => post v1 M)
set_option maxHeartbeats 4000000 in
set_option maxRecDepth 100000 in
theorem k_Y_size {l : Launch} {D : va_G} {tc : Nat → ClassId} {A : Nat → Prop} {post : Int32 → zM → Prop} {M : zM} {h0 : Nat} (hw : w_Y_size (tc 9) post M h0) : Met l yY_size (.code yY_size cY_size 1 (some .int) :: zTB) r_Y_size (va_Pc [.ref h0] (zI D tc A M)) (va_Qi post (zB D tc A) A) 0 0 A := by
  refine Met.ofW (cc := cY_size) (maxL := 1) (ret := (some .int)) (by decide +kernel) rfl ?_
  intro p e s m args below meth c s₁ B hml hv
  obtain ⟨rfl, hA, hM, hG⟩ := hv
  have C0 := zC_of (D := D) (tc := tc) (A := A) B hml (zC_ex B) hA hG
  obtain ⟨hx, hb, hml, hr, hown, htb, hlk, hA, hG, hin, hex⟩ := id C0
  have hK := hG.1
  have hS : va_S A s.heap s.heap [] := va_S.rf
  have hl := lv_entry ([.ref h0]) (n := 1) (Nat.le_of_ble_eq_true rfl)
  rw [lg_entry_eq]
  generalize (lg_sl ([.ref h0]) ++ List.replicate (1 - (lg_sl ([.ref h0])).length) Slot.unset).toArray = ls at hl ⊢
  have hl : lv_has ls 1 [(0, .ref h0)] := hl
  refine lv_aload_n hx hb dY_size_0 rfl (lv_at hl 0 rfl) ?_
  obtain ⟨fs2, v1, h3, e4, hw⟩ := hw
  refine z_get hx hb htb inw_Y hown hK hM h3 rfl 1 (by decide) (htb _ t_46) (fun _ h9 => h9) e4 dY_size_1 ?_
  exact W.iret hx hb hr (fun t ht hW => ⟨⟨_, _, rfl, hw, zB_of ht hM⟩, hS.F ht⟩) hS.2.2 dY_size_4
abbrev r_YM_max : Room := { frames := 0, cells := 0, slots := 0, locals := 0 }
def w_YM_max (e0 : Nat) (post : Int32 → zM → Prop) (M : zM) (x0 : Int32) (x1 : Int32) : Prop := ((x0 < x1) → post x1 M) ∧ (¬ (x0 < x1) → post x0 M)
set_option maxHeartbeats 4000000 in
set_option maxRecDepth 100000 in
theorem k_YM_max {l : Launch} {D : va_G} {tc : Nat → ClassId} {A : Nat → Prop} {post : Int32 → zM → Prop} {M : zM} {x0 : Int32} {x1 : Int32} (hw : w_YM_max (tc 9) post M x0 x1) : Met l yYM_max (.code yYM_max cYM_max 2 (some .int) :: zTB) r_YM_max (va_Pc [.int x0, .int x1] (zI D tc A M)) (va_Qi post (zB D tc A) A) 0 0 A := by
  refine va_MetF (cc := cYM_max) (maxL := 2) (ret := (some .int)) (by decide +kernel) rfl ?_
  intro p e s m args below meth c s₁ B hml hv
  obtain ⟨rfl, hA, hM, hG⟩ := hv
  have C0 := zC_of (D := D) (tc := tc) (A := A) B hml (zC_ex B) hA hG
  obtain ⟨hx, hb, hml, hr, hown, htb, hlk, hA, hG, hin, hex⟩ := id C0
  have hK := hG.1
  have hS : va_S A s.heap s.heap [] := va_S.rf
  have hl := lv_entry ([.int x0, .int x1]) (n := 2) (Nat.le_of_ble_eq_true rfl)
  rw [lg_entry_eq]
  generalize (lg_sl ([.int x0, .int x1]) ++ List.replicate (2 - (lg_sl ([.int x0, .int x1])).length) Slot.unset).toArray = ls at hl ⊢
  have hl : lv_has ls 2 [(0, .int x0), (1, .int x1)] := hl
  refine lv_iload_n hx hb dYM_max_0 rfl (lv_at hl 0 rfl) ?_
  refine lv_iload_n hx hb dYM_max_1 rfl (lv_at hl 1 rfl) ?_
  refine lv_icmp_lt (tgt := 9) hx hb dYM_max_2 (by decide) (fun hq => ?_) (fun hq => ?_)
  · have hw := hw.1 hq
    refine lv_iload_n hx hb dYM_max_9 rfl (lv_at hl 1 rfl) ?_
    exact W.iret hx hb hr (fun t ht hW => ⟨⟨_, _, rfl, hw, zB_of ht hM⟩, hS.F ht⟩) hS.2.2 dYM_max_10
  · have hw := hw.2 hq
    refine lv_iload_n hx hb dYM_max_5 rfl (lv_at hl 0 rfl) ?_
    refine lv_goto (tgt := 10) hx hb dYM_max_6 (by decide) ?_
    exact W.iret hx hb hr (fun t ht hW => ⟨⟨_, _, rfl, hw, zB_of ht hM⟩, hS.F ht⟩) hS.2.2 dYM_max_10
abbrev r_YS_newLength : Room := { frames := 1, cells := 0, slots := 0, locals := 21 }
def w_YS_newLength_j21 (e0 : Nat) (post : Int32 → zM → Prop) (M : zM) : Prop := False
abbrev J_YS_newLength_21 (p : Program) (l : Launch) (e : Env) (s : State) (m : MethodId) (args : Array Value) (below : List Frame) (meth : Method) (c : Code) (D : va_G) (tc : Nat → ClassId) (A : Nat → Prop) (Q : State → Prop) (K : zM → Prop) : Prop := ∀ (M : zM) (H : Heap) (locs : List Loc) (ls : Array Slot), zP D vwCl tc A M H → va_S A s.heap H locs → lv_has ls 4 [] → K M → W p l e (r_YS_newLength) s m args below meth c H locs 0 0 Q (F0 m 21 ls [])
set_option maxHeartbeats 4000000 in
set_option maxRecDepth 100000 in
theorem k_YS_newLength_j21 {p : Program} {l : Launch} {e : Env} {s : State} {m : MethodId} {args : Array Value} {below : List Frame} {meth : Method} {c : Code} {D : va_G} {tc : Nat → ClassId} {A : Nat → Prop} {post : Int32 → zM → Prop} (C0 : zC R_YS cYS_newLength 4 (some .int) "newLength" D tc A p l s m args meth c) : J_YS_newLength_21 p l e s m args below meth c D tc A (MQ below (va_Qi post (zB D tc A) A) args s 0 0 A) (w_YS_newLength_j21 (tc 9) post) := by
  obtain ⟨hx, hb, hml, hr, hown, htb, hlk, hA, hG, hin, hex⟩ := id C0
  have hK := hG.1
  intro M H locs ls hM hS hl hw
  exact hw.elim
def w_YS_newLength (e0 : Nat) (post : Int32 → zM → Prop) (M : zM) (x0 : Int32) (x1 : Int32) (x2 : Int32) : Prop := w_YM_max e0 (fun r2 M1 => (((x0 + r2) ≤ 0) → w_YS_newLength_j21 e0 post M1) ∧ (¬ ((x0 + r2) ≤ 0) → ((2147483639 < (x0 + r2)) → w_YS_newLength_j21 e0 post M1) ∧ (¬ (2147483639 < (x0 + r2)) → post (x0 + r2) M1))) M x1 x2
set_option maxHeartbeats 4000000 in
set_option maxRecDepth 100000 in
theorem k_YS_newLength {l : Launch} {D : va_G} {tc : Nat → ClassId} {A : Nat → Prop} {post : Int32 → zM → Prop} {M : zM} {x0 : Int32} {x1 : Int32} {x2 : Int32} (hw : w_YS_newLength (tc 9) post M x0 x1 x2) : Met l yYS_newLength (.code yYS_newLength cYS_newLength 4 (some .int) :: zTB) r_YS_newLength (va_Pc [.int x0, .int x1, .int x2] (zI D tc A M)) (va_Qi post (zB D tc A) A) 0 0 A := by
  refine Met.ofW (cc := cYS_newLength) (maxL := 4) (ret := (some .int)) (by decide +kernel) rfl ?_
  intro p e s m args below meth c s₁ B hml hv
  obtain ⟨rfl, hA, hM, hG⟩ := hv
  have C0 := zC_of (D := D) (tc := tc) (A := A) B hml (zC_ex B) hA hG
  obtain ⟨hx, hb, hml, hr, hown, htb, hlk, hA, hG, hin, hex⟩ := id C0
  have hK := hG.1
  have hS : va_S A s.heap s.heap [] := va_S.rf
  have hl := lv_entry ([.int x0, .int x1, .int x2]) (n := 4) (Nat.le_of_ble_eq_true rfl)
  rw [lg_entry_eq]
  generalize (lg_sl ([.int x0, .int x1, .int x2]) ++ List.replicate (4 - (lg_sl ([.int x0, .int x1, .int x2])).length) Slot.unset).toArray = ls at hl ⊢
  have hl : lv_has ls 4 [(0, .int x0), (1, .int x1), (2, .int x2)] := hl
  refine lv_iload_n hx hb dYS_newLength_0 rfl (lv_at hl 0 rfl) ?_
  refine lv_iload_n hx hb dYS_newLength_1 rfl (lv_at hl 1 rfl) ?_
  refine lv_iload_n hx hb dYS_newLength_2 rfl (lv_at hl 2 rfl) ?_
  refine va_calli (va_runS (As := [.int x1, .int x2]) (rest := [.int x0]) ⟨hx, hb, hml, hown, htb⟩ (k_YM_max (l := l) (D := D) (tc := tc) (A := A) hw) (cw_YS_194 htb ⟨Nat.le_of_ble_eq_true rfl, Nat.le_of_ble_eq_true rfl⟩) (z_preS hG hA hS hM) rfl rfl hl.1 rfl (lv_room (Nat.le_of_ble_eq_true rfl)) dYS_newLength_3 ⟨Nat.le_refl _, Nat.le_refl _⟩) hS (fun _ _ h => h) (fun _ h => h) (fun r2 M1 t H locs ht hvm hw hB _ _ hS => ?_)
  have hM : zP D vwCl tc A M1 H := by rw [← ht]; exact hB
  refine lv_iadd hx hb dYS_newLength_6 ?_
  refine lv_istore_n (lv' := [(3, .int (x0 + r2)), (0, .int x0), (1, .int x1), (2, .int x2)]) hx hb dYS_newLength_7 rfl hl (by decide) rfl (fun ls hl => ?_)
  refine lv_iconst (v := 0) hx hb dYS_newLength_8 (by decide +kernel) ?_
  refine lv_iload_n hx hb dYS_newLength_9 rfl (lv_at hl 0 rfl) ?_
  refine lv_icmp_ge (tgt := 21) hx hb dYS_newLength_10 (by decide) (fun hq => ?_) (fun hq => ?_)
  · have hw := hw.1 hq
    exact k_YS_newLength_j21 C0  _  _ _ _ hM hS (lv_sub hl [] rfl) hw
  · have hw := hw.2 hq
    refine lv_iload_n hx hb dYS_newLength_13 rfl (lv_at hl 0 rfl) ?_
    refine lv_ldc (v := 2147483639) hx hb hown (htb _ t_226) dYS_newLength_14 ?_
    refine lv_icmp_gt (tgt := 21) hx hb dYS_newLength_16 (by decide) (fun hq => ?_) (fun hq => ?_)
    · have hw := hw.1 hq
      exact k_YS_newLength_j21 C0  _  _ _ _ hM hS (lv_sub hl [] rfl) hw
    · have hw := hw.2 hq
      refine lv_iload_n hx hb dYS_newLength_19 rfl (lv_at hl 0 rfl) ?_
      exact W.iret hx hb hr (fun t ht hW => ⟨⟨_, _, rfl, hw, zB_of ht hM⟩, hS.F ht⟩) hS.2.2 dYS_newLength_20
abbrev r_YM_min : Room := { frames := 0, cells := 0, slots := 0, locals := 0 }
def w_YM_min (e0 : Nat) (post : Int32 → zM → Prop) (M : zM) (x0 : Int32) (x1 : Int32) : Prop := ((x1 < x0) → post x1 M) ∧ (¬ (x1 < x0) → post x0 M)
set_option maxHeartbeats 4000000 in
set_option maxRecDepth 100000 in
theorem k_YM_min {l : Launch} {D : va_G} {tc : Nat → ClassId} {A : Nat → Prop} {post : Int32 → zM → Prop} {M : zM} {x0 : Int32} {x1 : Int32} (hw : w_YM_min (tc 9) post M x0 x1) : Met l yYM_min (.code yYM_min cYM_min 2 (some .int) :: zTB) r_YM_min (va_Pc [.int x0, .int x1] (zI D tc A M)) (va_Qi post (zB D tc A) A) 0 0 A := by
  refine va_MetF (cc := cYM_min) (maxL := 2) (ret := (some .int)) (by decide +kernel) rfl ?_
  intro p e s m args below meth c s₁ B hml hv
  obtain ⟨rfl, hA, hM, hG⟩ := hv
  have C0 := zC_of (D := D) (tc := tc) (A := A) B hml (zC_ex B) hA hG
  obtain ⟨hx, hb, hml, hr, hown, htb, hlk, hA, hG, hin, hex⟩ := id C0
  have hK := hG.1
  have hS : va_S A s.heap s.heap [] := va_S.rf
  have hl := lv_entry ([.int x0, .int x1]) (n := 2) (Nat.le_of_ble_eq_true rfl)
  rw [lg_entry_eq]
  generalize (lg_sl ([.int x0, .int x1]) ++ List.replicate (2 - (lg_sl ([.int x0, .int x1])).length) Slot.unset).toArray = ls at hl ⊢
  have hl : lv_has ls 2 [(0, .int x0), (1, .int x1)] := hl
  refine lv_iload_n hx hb dYM_min_0 rfl (lv_at hl 0 rfl) ?_
  refine lv_iload_n hx hb dYM_min_1 rfl (lv_at hl 1 rfl) ?_
  refine lv_icmp_gt (tgt := 9) hx hb dYM_min_2 (by decide) (fun hq => ?_) (fun hq => ?_)
  · have hw := hw.1 hq
    refine lv_iload_n hx hb dYM_min_9 rfl (lv_at hl 1 rfl) ?_
    exact W.iret hx hb hr (fun t ht hW => ⟨⟨_, _, rfl, hw, zB_of ht hM⟩, hS.F ht⟩) hS.2.2 dYM_min_10
  · have hw := hw.2 hq
    refine lv_iload_n hx hb dYM_min_5 rfl (lv_at hl 0 rfl) ?_
    refine lv_goto (tgt := 10) hx hb dYM_min_6 (by decide) ?_
    exact W.iret hx hb hr (fun t ht hW => ⟨⟨_, _, rfl, hw, zB_of ht hM⟩, hS.F ht⟩) hS.2.2 dYM_min_10
abbrev r_YA_copyOf3 (mc ms : Nat) : Room := { frames := 1, cells := mc, slots := ms, locals := 60 }
def w_YA_copyOf3 (e0 : Nat) (post : Option Nat → zM → Prop) (mc : Nat) (ms : Nat) (M : zM) (h0 : Nat) (x1 : Int32) : Prop := wNQ M x1 mc ms (fun q1 M7 => wAE M7 e0 h0 (fun v8 => w_YM_min e0 (fun r11 M10 => wCP M10 h0 0 q1 0 r11 (fun M12 => post (some q1) M12)) M7 v8 x1))
set_option maxHeartbeats 4000000 in
set_option maxRecDepth 100000 in
theorem k_YA_copyOf3 {l : Launch} {D : va_G} {tc : Nat → ClassId} {A : Nat → Prop} {mc ms : Nat} {post : Option Nat → zM → Prop} {M : zM} {h0 : Nat} {x1 : Int32} (hw : w_YA_copyOf3 (tc 9) post mc ms M h0 x1) : Met l yYA_copyOf3 (.code yYA_copyOf3 cYA_copyOf3 4 (some (.array (.object "java/lang/Object"))) :: zTB) (r_YA_copyOf3 mc ms) (va_Pc [.ref h0, .int x1, .ref (tc 8)] (zI D tc A M)) (va_Qq post (zB D tc A) A) mc ms A := by
  refine Met.ofW (cc := cYA_copyOf3) (maxL := 4) (ret := (some (.array (.object "java/lang/Object")))) (by decide +kernel) rfl ?_
  intro p e s m args below meth c s₁ B hml hv
  obtain ⟨rfl, hA, hM, hG⟩ := hv
  have C0 := zC_of (D := D) (tc := tc) (A := A) B hml (zC_ex B) hA hG
  obtain ⟨hx, hb, hml, hr, hown, htb, hlk, hA, hG, hin, hex⟩ := id C0
  have hK := hG.1
  have hS : va_S A s.heap s.heap [] := va_S.rf
  have hl := lv_entry ([.ref h0, .int x1, .ref (tc 8)]) (n := 4) (Nat.le_of_ble_eq_true rfl)
  rw [lg_entry_eq]
  generalize (lg_sl ([.ref h0, .int x1, .ref (tc 8)]) ++ List.replicate (4 - (lg_sl ([.ref h0, .int x1, .ref (tc 8)])).length) Slot.unset).toArray = ls at hl ⊢
  have hl : lv_has ls 4 [(0, .ref h0), (1, .int x1), (2, .ref (tc 8))] := hl
  refine lv_aload_n hx hb dYA_copyOf3_0 rfl (lv_at hl 2 rfl) ?_
  refine va_ldcM hx hb hown (htb _ t_251) hG.2.2.2.2.2.2.2.2.1 dYA_copyOf3_1 ?_
  refine lv_acmp_ne (rx := some (tc 8)) (ry := some (tc 8)) (tgt := 13) hx hb dYA_copyOf3_3 (by decide) (fun hq => absurd rfl hq) (fun _ => ?_)
  refine lv_iload_n hx hb dYA_copyOf3_6 rfl (lv_at hl 1 rfl) ?_
  obtain ⟨h2, h3, h4, h5, hw⟩ := hw
  refine z_newq hx hb hown (htb _ t_253) hG hK hM hS hA h2 h3 (show 0 + 1 ≤ mc by omega) (show 0 + x1.toNatClampNeg ≤ ms by omega) dYA_copyOf3_7 (fun q1 H hn6 hM hS => ?_)
  have hw := hw q1 hn6
  refine lv_goto (tgt := 24) hx hb dYA_copyOf3_10 (by decide) ?_
  refine lv_astore_n (lv' := [(3, .ref q1), (0, .ref h0), (1, .int x1), (2, .ref (tc 8))]) hx hb dYA_copyOf3_24 rfl hl (by decide) rfl (fun ls hl => ?_)
  refine lv_aload_n hx hb dYA_copyOf3_25 rfl (lv_at hl 1 rfl) ?_
  refine lv_iconst (v := 0) hx hb dYA_copyOf3_26 (by decide +kernel) ?_
  refine lv_aload_n hx hb dYA_copyOf3_27 rfl (lv_at hl 0 rfl) ?_
  refine lv_iconst (v := 0) hx hb dYA_copyOf3_28 (by decide +kernel) ?_
  refine lv_aload_n hx hb dYA_copyOf3_29 rfl (lv_at hl 1 rfl) ?_
  obtain ⟨v8, h9, hw⟩ := hw
  refine z_alenE hx hb hK hM hG hS h9 dYA_copyOf3_30 ?_
  refine lv_iload_n hx hb dYA_copyOf3_31 rfl (lv_at hl 2 rfl) ?_
  refine va_calli (va_runS (As := [.int v8, .int x1]) (rest := [.int 0, .ref q1, .int 0, .ref h0]) ⟨hx, hb, hml, hown, htb⟩ (k_YM_min (l := l) (D := D) (tc := tc) (A := A) hw) (cw_YA_304 htb ⟨Nat.le_of_ble_eq_true rfl, Nat.le_of_ble_eq_true rfl⟩) (z_preS hG hA hS hM) rfl rfl hl.1 rfl (lv_room (Nat.le_of_ble_eq_true rfl)) dYA_copyOf3_32 ⟨show (0 + 1) + 0 ≤ mc by omega, show (0 + x1.toNatClampNeg) + 0 ≤ ms by omega⟩) hS (fun _ _ h => h) (fun _ h => h) (fun r11 M10 t H locs ht hvm hw hB _ _ hS => ?_)
  have hM : zP D vwCl tc A M10 H := by rw [← ht]; exact hB
  obtain ⟨n01, n02, f01, f02, h01, h02, h03, h04, h05, h06, h07, h08, hw⟩ := hw
  refine z_copy hx hb (hml.trans hl.1.symm) hown (htb _ t_257) (htb _ t_259) (htb _ t_258) (htb _ t_15) hK hG hM hS h01 h02 h03 h04 h05 h06 h07 h08 (by decide) (by decide +kernel) dYA_copyOf3_35 (fun H locs hM hS => ?_)
  refine lv_aload_n hx hb dYA_copyOf3_38 rfl (lv_at hl 0 rfl) ?_
  refine W.widen (k := mc) (n := ms) (by omega) (by omega) ?_
  exact W.aret (v := va_rf (some q1)) hx hb hr (by first | exact Or.inl ⟨_, rfl⟩ | exact Or.inr ⟨_, rfl⟩) (va_rf_or _) (fun t ht hW => ⟨⟨_, _, rfl, hw, zB_of ht hM⟩, hS.F ht⟩) hS.2.2 dYA_copyOf3_39
abbrev r_YA_copyOf2 (mc ms : Nat) : Room := { frames := 2, cells := mc, slots := ms, locals := 83 }
def w_YA_copyOf2 (e0 : Nat) (post : Option Nat → zM → Prop) (mc : Nat) (ms : Nat) (M : zM) (h0 : Nat) (x1 : Int32) : Prop := wIA M h0 ∧ ∃ mc4 ms5 : Nat, mc4 ≤ mc ∧ ms5 ≤ ms ∧ w_YA_copyOf3 e0 (fun r6 M3 => wSm r6 (fun a7 => post (some a7) M3)) mc4 ms5 M h0 x1
set_option maxHeartbeats 4000000 in
set_option maxRecDepth 100000 in
theorem k_YA_copyOf2 {l : Launch} {D : va_G} {tc : Nat → ClassId} {A : Nat → Prop} {mc ms : Nat} {post : Option Nat → zM → Prop} {M : zM} {h0 : Nat} {x1 : Int32} (hw : w_YA_copyOf2 (tc 9) post mc ms M h0 x1) : Met l yYA_copyOf2 (.code yYA_copyOf2 cYA_copyOf2 2 (some (.array (.object "java/lang/Object"))) :: zTB) (r_YA_copyOf2 mc ms) (va_Pc [.ref h0, .int x1] (zI D tc A M)) (va_Qq post (zB D tc A) A) mc ms A := by
  refine Met.ofW (cc := cYA_copyOf2) (maxL := 2) (ret := (some (.array (.object "java/lang/Object")))) (by decide +kernel) rfl ?_
  intro p e s m args below meth c s₁ B hml hv
  obtain ⟨rfl, hA, hM, hG⟩ := hv
  have C0 := zC_of (D := D) (tc := tc) (A := A) B hml (zC_ex B) hA hG
  obtain ⟨hx, hb, hml, hr, hown, htb, hlk, hA, hG, hin, hex⟩ := id C0
  have hK := hG.1
  have hS : va_S A s.heap s.heap [] := va_S.rf
  have hl := lv_entry ([.ref h0, .int x1]) (n := 2) (Nat.le_of_ble_eq_true rfl)
  rw [lg_entry_eq]
  generalize (lg_sl ([.ref h0, .int x1]) ++ List.replicate (2 - (lg_sl ([.ref h0, .int x1])).length) Slot.unset).toArray = ls at hl ⊢
  have hl : lv_has ls 2 [(0, .ref h0), (1, .int x1)] := hl
  refine lv_aload_n hx hb dYA_copyOf2_0 rfl (lv_at hl 0 rfl) ?_
  refine lv_iload_n hx hb dYA_copyOf2_1 rfl (lv_at hl 1 rfl) ?_
  refine lv_aload_n hx hb dYA_copyOf2_2 rfl (lv_at hl 0 rfl) ?_
  obtain ⟨⟨w1, h2⟩, hw⟩ := hw
  refine z_getC hx hb (hml.trans hl.1.symm) hown htb (htb _ t_233) hK hG hM h2 (by decide) (by decide) dYA_copyOf2_3 ?_
  obtain ⟨mc4, ms5, hbmc4, hbms5, hw⟩ := hw
  refine va_callq (va_runS (As := [.ref h0, .int x1, .ref (tc 8)]) (rest := []) ⟨hx, hb, hml, hown, htb⟩ (k_YA_copyOf3 (l := l) (D := D) (tc := tc) (A := A) hw) (cw_YA_300 htb ⟨Nat.le_of_ble_eq_true rfl, Nat.le_of_ble_eq_true rfl⟩) (z_preS hG hA hS hM) rfl rfl hl.1 rfl (lv_room (Nat.le_of_ble_eq_true rfl)) dYA_copyOf2_6 ⟨show 0 + mc4 ≤ mc by omega, show 0 + ms5 ≤ ms by omega⟩) hS (fun _ _ h => h) (fun _ h => h) (fun r6 M3 t H locs ht hvm hw hB _ _ hS => ?_)
  have hM : zP D vwCl tc A M3 H := by rw [← ht]; exact hB
  obtain ⟨a7, rfl, hw⟩ := hw
  refine W.widen (k := mc) (n := ms) (by omega) (by omega) ?_
  exact W.aret (v := va_rf (some a7)) hx hb hr (by first | exact Or.inl ⟨_, rfl⟩ | exact Or.inr ⟨_, rfl⟩) (va_rf_or _) (fun t ht hW => ⟨⟨_, _, rfl, hw, zB_of ht hM⟩, hS.F ht⟩) hS.2.2 dYA_copyOf2_9
abbrev r_Y_grow1 (mc ms : Nat) : Room := { frames := 3, cells := mc, slots := ms, locals := 104 }
def w_Y_grow1_j20 (e0 : Nat) (post : Option Nat → zM → Prop) (mc : Nat) (ms : Nat) (M : zM) (l0 : Nat) (l1 : Int32) (l2 : Int32) : Prop := w_YS_newLength e0 (fun r2 M1 => wGR M1 l0 5 0 (fun v3 => ∃ mc8 ms9 : Nat, mc8 ≤ mc ∧ ms9 ≤ ms ∧ w_YA_copyOf2 e0 (fun r10 M7 => wSm r10 (fun a11 => wPF M7 l0 5 0 (.ref a11) (fun M15 => post (some a11) M15))) mc8 ms9 M1 v3 r2)) M l2 (l1 - l2) (l2 >>> (1 &&& 31))
abbrev J_Y_grow1_20 (p : Program) (l : Launch) (e : Env) (s : State) (m : MethodId) (args : Array Value) (below : List Frame) (meth : Method) (c : Code) (D : va_G) (tc : Nat → ClassId) (A : Nat → Prop) (mcT msT : Nat) (Q : State → Prop) (K : Nat → Nat → zM → Nat → Int32 → Int32 → Prop) : Prop := ∀ (mc : Nat) (ms : Nat) (M : zM) (l0 : Nat) (l1 : Int32) (l2 : Int32) (H : Heap) (locs : List Loc) (cells slots : Nat) (ls : Array Slot), cells + mc ≤ mcT → slots + ms ≤ msT → zP D vwCl tc A M H → va_S A s.heap H locs → lv_has ls 4 [(0, .ref l0), (1, .int l1), (2, .int l2)] → K mc ms M l0 l1 l2 → W p l e (r_Y_grow1 mcT msT) s m args below meth c H locs cells slots Q (F0 m 20 ls [])
set_option maxHeartbeats 4000000 in
set_option maxRecDepth 100000 in
theorem k_Y_grow1_j20 {p : Program} {l : Launch} {e : Env} {s : State} {m : MethodId} {args : Array Value} {below : List Frame} {meth : Method} {c : Code} {D : va_G} {tc : Nat → ClassId} {A : Nat → Prop} {mcT msT : Nat} {post : Option Nat → zM → Prop} (C0 : zC R_Y cY_grow1 4 (some (.array (.object "java/lang/Object"))) "grow" D tc A p l s m args meth c) : J_Y_grow1_20 p l e s m args below meth c D tc A mcT msT (MQ below (va_Qq post (zB D tc A) A) args s mcT msT A) (w_Y_grow1_j20 (tc 9) post) := by
  obtain ⟨hx, hb, hml, hr, hown, htb, hlk, hA, hG, hin, hex⟩ := id C0
  have hK := hG.1
  intro mc ms M l0 l1 l2 H locs cells slots ls hbc hbs hM hS hl hw
  refine lv_iload_n hx hb dY_grow1_20 rfl (lv_at hl 2 rfl) ?_
  refine lv_iload_n hx hb dY_grow1_21 rfl (lv_at hl 1 rfl) ?_
  refine lv_iload_n hx hb dY_grow1_22 rfl (lv_at hl 2 rfl) ?_
  refine lv_isub hx hb dY_grow1_23 ?_
  refine lv_iload_n hx hb dY_grow1_24 rfl (lv_at hl 2 rfl) ?_
  refine lv_iconst (v := 1) hx hb dY_grow1_25 (by decide +kernel) ?_
  refine lv_ishr hx hb dY_grow1_26 ?_
  refine va_calli (va_runS (As := [.int l2, .int (l1 - l2), .int (l2 >>> (1 &&& 31))]) (rest := []) ⟨hx, hb, hml, hown, htb⟩ (k_YS_newLength (l := l) (D := D) (tc := tc) (A := A) hw) (cw_Y_73 htb ⟨Nat.le_of_ble_eq_true rfl, Nat.le_of_ble_eq_true rfl⟩) (z_preS hG hA hS hM) rfl rfl hl.1 rfl (lv_room (Nat.le_of_ble_eq_true rfl)) dY_grow1_27 ⟨show cells + 0 ≤ mcT by omega, show slots + 0 ≤ msT by omega⟩) hS (fun _ _ h => h) (fun _ h => h) (fun r2 M1 t H locs ht hvm hw hB _ _ hS => ?_)
  have hM : zP D vwCl tc A M1 H := by rw [← ht]; exact hB
  refine lv_istore_n (lv' := [(3, .int r2), (0, .ref l0), (1, .int l1), (2, .int l2)]) hx hb dY_grow1_30 rfl hl (by decide) rfl (fun ls hl => ?_)
  refine lv_aload_n hx hb dY_grow1_31 rfl (lv_at hl 1 rfl) ?_
  refine lv_aload_n hx hb dY_grow1_32 rfl (lv_at hl 1 rfl) ?_
  obtain ⟨fs4, v3, h5, e6, hw⟩ := hw
  refine z_get hx hb htb inw_Y hown hK hM h5 rfl 0 (by decide) (htb _ t_45) (fun _ h9 => h9) e6 dY_grow1_33 ?_
  refine lv_iload_n hx hb dY_grow1_36 rfl (lv_at hl 0 rfl) ?_
  obtain ⟨mc8, ms9, hbmc8, hbms9, hw⟩ := hw
  refine va_callq (va_runS (As := [.ref v3, .int r2]) (rest := [.ref l0]) ⟨hx, hb, hml, hown, htb⟩ (k_YA_copyOf2 (l := l) (D := D) (tc := tc) (A := A) hw) (cw_Y_66 htb ⟨Nat.le_of_ble_eq_true rfl, Nat.le_of_ble_eq_true rfl⟩) (z_preS hG hA hS hM) rfl rfl hl.1 rfl (lv_room (Nat.le_of_ble_eq_true rfl)) dY_grow1_37 ⟨show cells + mc8 ≤ mcT by omega, show slots + ms9 ≤ msT by omega⟩) hS (fun _ _ h => h) (fun _ h => h) (fun r10 M7 t H locs ht hvm hw hB _ _ hS => ?_)
  have hM : zP D vwCl tc A M7 H := by rw [← ht]; exact hB
  obtain ⟨a11, rfl, hw⟩ := hw
  refine lv_dup_x1 hx hb dY_grow1_40 rfl rfl ?_
  obtain ⟨fs12, h13, hl14, hw⟩ := hw
  refine z_put (ty := (.array (.object "java/lang/Object"))) hx hb htb inw_Y ty_Y tyok_Y nmok_Y hown hK hM hS h13 rfl 0 (by decide) (htb _ t_45) (fun _ h9 => h9) rfl (by decide +kernel) rfl rfl hl14 dY_grow1_41 (fun H locs hM hS => ?_)
  refine W.widen (k := mcT) (n := msT) (by omega) (by omega) ?_
  exact W.aret (v := va_rf (some a11)) hx hb hr (by first | exact Or.inl ⟨_, rfl⟩ | exact Or.inr ⟨_, rfl⟩) (va_rf_or _) (fun t ht hW => ⟨⟨_, _, rfl, hw, zB_of ht hM⟩, hS.F ht⟩) hS.2.2 dY_grow1_44
def w_Y_grow1 (e0 : Nat) (post : Option Nat → zM → Prop) (mc : Nat) (ms : Nat) (M : zM) (h0 : Nat) (x1 : Int32) : Prop := wGR M h0 5 0 (fun v1 => wAE M e0 v1 (fun v5 => ((0 < v5) → w_Y_grow1_j20 e0 post mc ms M h0 x1 v5) ∧ (¬ (0 < v5) → wGR M h0 5 0 (fun v7 => ((some v7 = some e0) → w_YM_max e0 (fun r12 M11 => wNQ M11 r12 mc ms (fun q13 M19 => wPF M19 h0 5 0 (.ref q13) (fun M23 => post (some q13) M23))) M 10 x1) ∧ (¬ (some v7 = some e0) → w_Y_grow1_j20 e0 post mc ms M h0 x1 v5)))))
set_option maxHeartbeats 4000000 in
set_option maxRecDepth 100000 in
theorem k_Y_grow1 {l : Launch} {D : va_G} {tc : Nat → ClassId} {A : Nat → Prop} {mc ms : Nat} {post : Option Nat → zM → Prop} {M : zM} {h0 : Nat} {x1 : Int32} (hw : w_Y_grow1 (tc 9) post mc ms M h0 x1) : Met l yY_grow1 (.code yY_grow1 cY_grow1 4 (some (.array (.object "java/lang/Object"))) :: zTB) (r_Y_grow1 mc ms) (va_Pc [.ref h0, .int x1] (zI D tc A M)) (va_Qq post (zB D tc A) A) mc ms A := by
  refine Met.ofW (cc := cY_grow1) (maxL := 4) (ret := (some (.array (.object "java/lang/Object")))) (by decide +kernel) rfl ?_
  intro p e s m args below meth c s₁ B hml hv
  obtain ⟨rfl, hA, hM, hG⟩ := hv
  have C0 := zC_of (D := D) (tc := tc) (A := A) B hml (zC_ex B) hA hG
  obtain ⟨hx, hb, hml, hr, hown, htb, hlk, hA, hG, hin, hex⟩ := id C0
  have hK := hG.1
  have hS : va_S A s.heap s.heap [] := va_S.rf
  have hl := lv_entry ([.ref h0, .int x1]) (n := 4) (Nat.le_of_ble_eq_true rfl)
  rw [lg_entry_eq]
  generalize (lg_sl ([.ref h0, .int x1]) ++ List.replicate (4 - (lg_sl ([.ref h0, .int x1])).length) Slot.unset).toArray = ls at hl ⊢
  have hl : lv_has ls 4 [(0, .ref h0), (1, .int x1)] := hl
  refine lv_aload_n hx hb dY_grow1_0 rfl (lv_at hl 0 rfl) ?_
  obtain ⟨fs2, v1, h3, e4, hw⟩ := hw
  refine z_get hx hb htb inw_Y hown hK hM h3 rfl 0 (by decide) (htb _ t_45) (fun _ h9 => h9) e4 dY_grow1_1 ?_
  obtain ⟨v5, h6, hw⟩ := hw
  refine z_alenE hx hb hK hM hG hS h6 dY_grow1_4 ?_
  refine lv_istore_n (lv' := [(2, .int v5), (0, .ref h0), (1, .int x1)]) hx hb dY_grow1_5 rfl hl (by decide) rfl (fun ls hl => ?_)
  refine lv_iload_n hx hb dY_grow1_6 rfl (lv_at hl 0 rfl) ?_
  refine lv_if_gt (tgt := 20) hx hb dY_grow1_7 (by decide) (fun hq => ?_) (fun hq => ?_)
  · have hw := hw.1 hq
    exact k_Y_grow1_j20 C0  _ _ _ _ _ _ _ _ _ _ _ (show 0 + mc ≤ mc by omega) (show 0 + ms ≤ ms by omega) hM hS (lv_sub hl [1, 2, 0] rfl) hw
  · have hw := hw.2 hq
    refine lv_aload_n hx hb dY_grow1_10 rfl (lv_at hl 1 rfl) ?_
    obtain ⟨fs8, v7, h9, e10, hw⟩ := hw
    refine z_get hx hb htb inw_Y hown hK hM h9 rfl 0 (by decide) (htb _ t_45) (fun _ h9 => h9) e10 dY_grow1_11 ?_
    refine va_gets hx hb hG.2.2.2.2.2.1 hS hown (htb _ t_43) (fun _ h9 => h9) dY_grow1_14 ?_
    refine lv_acmp_eq (rx := some v7) (ry := some (tc 9)) (tgt := 45) hx hb dY_grow1_17 (by decide) (fun hq => ?_) (fun hq => ?_)
    · have hw := hw.1 hq
      refine lv_aload_n hx hb dY_grow1_45 rfl (lv_at hl 1 rfl) ?_
      refine lv_bipush (v := 10) hx hb dY_grow1_46 (by decide +kernel) ?_
      refine lv_iload_n hx hb dY_grow1_48 rfl (lv_at hl 2 rfl) ?_
      refine va_calli (va_runS (As := [.int 10, .int x1]) (rest := [.ref h0]) ⟨hx, hb, hml, hown, htb⟩ (k_YM_max (l := l) (D := D) (tc := tc) (A := A) hw) (cw_Y_79 htb ⟨Nat.le_of_ble_eq_true rfl, Nat.le_of_ble_eq_true rfl⟩) (z_preS hG hA hS hM) rfl rfl hl.1 rfl (lv_room (Nat.le_of_ble_eq_true rfl)) dY_grow1_49 ⟨show 0 + 0 ≤ mc by omega, show 0 + 0 ≤ ms by omega⟩) hS (fun _ _ h => h) (fun _ h => h) (fun r12 M11 t H locs ht hvm hw hB _ _ hS => ?_)
      have hM : zP D vwCl tc A M11 H := by rw [← ht]; exact hB
      obtain ⟨h14, h15, h16, h17, hw⟩ := hw
      refine z_newq hx hb hown (htb _ t_261) hG hK hM hS hA h14 h15 (show 0 + 1 ≤ mc by omega) (show 0 + r12.toNatClampNeg ≤ ms by omega) dY_grow1_52 (fun q13 H hn18 hM hS => ?_)
      have hw := hw q13 hn18
      refine lv_dup_x1 hx hb dY_grow1_55 rfl rfl ?_
      obtain ⟨fs20, h21, hl22, hw⟩ := hw
      refine z_put (ty := (.array (.object "java/lang/Object"))) hx hb htb inw_Y ty_Y tyok_Y nmok_Y hown hK hM hS h21 rfl 0 (by decide) (htb _ t_45) (fun _ h9 => h9) rfl (by decide +kernel) rfl rfl hl22 dY_grow1_56 (fun H locs hM hS => ?_)
      refine W.widen (k := mc) (n := ms) (by omega) (by omega) ?_
      exact W.aret (v := va_rf (some q13)) hx hb hr (by first | exact Or.inl ⟨_, rfl⟩ | exact Or.inr ⟨_, rfl⟩) (va_rf_or _) (fun t ht hW => ⟨⟨_, _, rfl, hw, zB_of ht hM⟩, hS.F ht⟩) hS.2.2 dY_grow1_59
    · have hw := hw.2 hq
      exact k_Y_grow1_j20 C0  _ _ _ _ _ _ _ _ _ _ _ (show 0 + mc ≤ mc by omega) (show 0 + ms ≤ ms by omega) hM hS (lv_sub hl [1, 2, 0] rfl) hw
abbrev r_Y_grow0 (mc ms : Nat) : Room := { frames := 4, cells := mc, slots := ms, locals := 127 }
def w_Y_grow0 (e0 : Nat) (post : Option Nat → zM → Prop) (mc : Nat) (ms : Nat) (M : zM) (h0 : Nat) : Prop := wGI M h0 5 1 (fun v1 => wIs M h0 5 ∧ ∃ mc6 ms7 : Nat, mc6 ≤ mc ∧ ms7 ≤ ms ∧ w_Y_grow1 e0 (fun r8 M5 => wSm r8 (fun a9 => post (some a9) M5)) mc6 ms7 M h0 (v1 + 1))
set_option maxHeartbeats 4000000 in
set_option maxRecDepth 100000 in
theorem k_Y_grow0 {l : Launch} {D : va_G} {tc : Nat → ClassId} {A : Nat → Prop} {mc ms : Nat} {post : Option Nat → zM → Prop} {M : zM} {h0 : Nat} (hw : w_Y_grow0 (tc 9) post mc ms M h0) : Met l yY_grow0 (.code yY_grow0 cY_grow0 1 (some (.array (.object "java/lang/Object"))) :: zTB) (r_Y_grow0 mc ms) (va_Pc [.ref h0] (zI D tc A M)) (va_Qq post (zB D tc A) A) mc ms A := by
  refine Met.ofW (cc := cY_grow0) (maxL := 1) (ret := (some (.array (.object "java/lang/Object")))) (by decide +kernel) rfl ?_
  intro p e s m args below meth c s₁ B hml hv
  obtain ⟨rfl, hA, hM, hG⟩ := hv
  have C0 := zC_of (D := D) (tc := tc) (A := A) B hml (zC_ex B) hA hG
  obtain ⟨hx, hb, hml, hr, hown, htb, hlk, hA, hG, hin, hex⟩ := id C0
  have hK := hG.1
  have hS : va_S A s.heap s.heap [] := va_S.rf
  have hl := lv_entry ([.ref h0]) (n := 1) (Nat.le_of_ble_eq_true rfl)
  rw [lg_entry_eq]
  generalize (lg_sl ([.ref h0]) ++ List.replicate (1 - (lg_sl ([.ref h0])).length) Slot.unset).toArray = ls at hl ⊢
  have hl : lv_has ls 1 [(0, .ref h0)] := hl
  refine lv_aload_n hx hb dY_grow0_0 rfl (lv_at hl 0 rfl) ?_
  refine lv_aload_n hx hb dY_grow0_1 rfl (lv_at hl 0 rfl) ?_
  obtain ⟨fs2, v1, h3, e4, hw⟩ := hw
  refine z_get hx hb htb inw_Y hown hK hM h3 rfl 1 (by decide) (htb _ t_46) (fun _ h9 => h9) e4 dY_grow0_2 ?_
  refine lv_iconst (v := 1) hx hb dY_grow0_5 (by decide +kernel) ?_
  refine lv_iadd hx hb dY_grow0_6 ?_
  obtain ⟨⟨fs10, h11⟩, hw⟩ := hw
  obtain ⟨mc6, ms7, hbmc6, hbms7, hw⟩ := hw
  refine va_callq (va_runV (As := [.int (v1 + 1)]) (rest := []) ⟨hx, hb, hml, hown, htb⟩ (k_Y_grow1 (l := l) (D := D) (tc := tc) (A := A) hw) (cw_Y_69 htb ⟨Nat.le_of_ble_eq_true rfl, Nat.le_of_ble_eq_true rfl⟩) (z_preV hG hA hS hM h11 rfl) rfl rfl hl.1 rfl (lv_room (Nat.le_of_ble_eq_true rfl)) dY_grow0_7 ⟨show 0 + mc6 ≤ mc by omega, show 0 + ms7 ≤ ms by omega⟩) hS (fun _ _ h => h) (fun _ h => h) (fun r8 M5 t H locs ht hvm hw hB _ _ hS => ?_)
  have hM : zP D vwCl tc A M5 H := by rw [← ht]; exact hB
  obtain ⟨a9, rfl, hw⟩ := hw
  refine W.widen (k := mc) (n := ms) (by omega) (by omega) ?_
  exact W.aret (v := va_rf (some a9)) hx hb hr (by first | exact Or.inl ⟨_, rfl⟩ | exact Or.inr ⟨_, rfl⟩) (va_rf_or _) (fun t ht hW => ⟨⟨_, _, rfl, hw, zB_of ht hM⟩, hS.F ht⟩) hS.2.2 dY_grow0_10
abbrev r_Y_add3 (mc ms : Nat) : Room := { frames := 5, cells := mc, slots := ms, locals := 147 }
def w_Y_add3_j11 (e0 : Nat) (post : zM → Prop) (mc : Nat) (ms : Nat) (M : zM) (l0 : Nat) (l1 : Nat) (l2 : Nat) (l3 : Int32) : Prop := wSQ M l2 l3 l1 (fun M9 => wPF M9 l0 5 1 (.int (l3 + 1)) (fun M13 => post M13))
abbrev J_Y_add3_11 (p : Program) (l : Launch) (e : Env) (s : State) (m : MethodId) (args : Array Value) (below : List Frame) (meth : Method) (c : Code) (D : va_G) (tc : Nat → ClassId) (A : Nat → Prop) (mcT msT : Nat) (Q : State → Prop) (K : Nat → Nat → zM → Nat → Nat → Nat → Int32 → Prop) : Prop := ∀ (mc : Nat) (ms : Nat) (M : zM) (l0 : Nat) (l1 : Nat) (l2 : Nat) (l3 : Int32) (H : Heap) (locs : List Loc) (cells slots : Nat) (ls : Array Slot), cells + mc ≤ mcT → slots + ms ≤ msT → zP D vwCl tc A M H → va_S A s.heap H locs → lv_has ls 4 [(0, .ref l0), (1, .ref l1), (2, .ref l2), (3, .int l3)] → K mc ms M l0 l1 l2 l3 → W p l e (r_Y_add3 mcT msT) s m args below meth c H locs cells slots Q (F0 m 11 ls [])
set_option maxHeartbeats 4000000 in
set_option maxRecDepth 100000 in
theorem k_Y_add3_j11 {p : Program} {l : Launch} {e : Env} {s : State} {m : MethodId} {args : Array Value} {below : List Frame} {meth : Method} {c : Code} {D : va_G} {tc : Nat → ClassId} {A : Nat → Prop} {mcT msT : Nat} {post : zM → Prop} (C0 : zC R_Y cY_add3 4 none "add" D tc A p l s m args meth c) : J_Y_add3_11 p l e s m args below meth c D tc A mcT msT (MQ below (va_Qv post (zB D tc A) A) args s mcT msT A) (w_Y_add3_j11 (tc 9) post) := by
  obtain ⟨hx, hb, hml, hr, hown, htb, hlk, hA, hG, hin, hex⟩ := id C0
  have hK := hG.1
  intro mc ms M l0 l1 l2 l3 H locs cells slots ls hbc hbs hM hS hl hw
  refine lv_aload_n hx hb dY_add3_11 rfl (lv_at hl 2 rfl) ?_
  refine lv_iload_n hx hb dY_add3_12 rfl (lv_at hl 3 rfl) ?_
  refine lv_aload_n hx hb dY_add3_13 rfl (lv_at hl 1 rfl) ?_
  obtain ⟨n1, f2, ci3, fs4, h5, hi6, hv7, h8, hw⟩ := hw
  refine z_astq hx hb hK hG hM hS h5 hi6 hv7 h8 dY_add3_14 (fun H locs hM hS => ?_)
  refine lv_aload_n hx hb dY_add3_15 rfl (lv_at hl 0 rfl) ?_
  refine lv_iload_n hx hb dY_add3_16 rfl (lv_at hl 3 rfl) ?_
  refine lv_iconst (v := 1) hx hb dY_add3_17 (by decide +kernel) ?_
  refine lv_iadd hx hb dY_add3_18 ?_
  obtain ⟨fs10, h11, hl12, hw⟩ := hw
  refine z_put (ty := .int) hx hb htb inw_Y ty_Y tyok_Y nmok_Y hown hK hM hS h11 rfl 1 (by decide) (htb _ t_46) (fun _ h9 => h9) rfl (by decide +kernel) rfl rfl hl12 dY_add3_19 (fun H locs hM hS => ?_)
  refine W.widen (k := mcT) (n := msT) (by omega) (by omega) ?_
  exact W.vret hx hb hr (fun t ht hW => ⟨⟨_, rfl, hw, zB_of ht hM⟩, hS.F ht⟩) hS.2.2 dY_add3_22
def w_Y_add3 (e0 : Nat) (post : zM → Prop) (mc : Nat) (ms : Nat) (M : zM) (h0 : Nat) (h1 : Nat) (h2 : Nat) (x3 : Int32) : Prop := wAE M e0 h2 (fun v1 => ((x3 = v1) → wIs M h0 5 ∧ ∃ mc4 ms5 : Nat, mc4 ≤ mc ∧ ms5 ≤ ms ∧ w_Y_grow0 e0 (fun r6 M3 => wSm r6 (fun a7 => w_Y_add3_j11 e0 post (mc - mc4) (ms - ms5) M3 h0 h1 a7 x3)) mc4 ms5 M h0) ∧ (¬ (x3 = v1) → w_Y_add3_j11 e0 post mc ms M h0 h1 h2 x3))
set_option maxHeartbeats 4000000 in
set_option maxRecDepth 100000 in
theorem k_Y_add3 {l : Launch} {D : va_G} {tc : Nat → ClassId} {A : Nat → Prop} {mc ms : Nat} {post : zM → Prop} {M : zM} {h0 : Nat} {h1 : Nat} {h2 : Nat} {x3 : Int32} (hw : w_Y_add3 (tc 9) post mc ms M h0 h1 h2 x3) : Met l yY_add3 (.code yY_add3 cY_add3 4 none :: zTB) (r_Y_add3 mc ms) (va_Pc [.ref h0, .ref h1, .ref h2, .int x3] (zI D tc A M)) (va_Qv post (zB D tc A) A) mc ms A := by
  refine Met.ofW (cc := cY_add3) (maxL := 4) (ret := none) (by decide +kernel) rfl ?_
  intro p e s m args below meth c s₁ B hml hv
  obtain ⟨rfl, hA, hM, hG⟩ := hv
  have C0 := zC_of (D := D) (tc := tc) (A := A) B hml (zC_ex B) hA hG
  obtain ⟨hx, hb, hml, hr, hown, htb, hlk, hA, hG, hin, hex⟩ := id C0
  have hK := hG.1
  have hS : va_S A s.heap s.heap [] := va_S.rf
  have hl := lv_entry ([.ref h0, .ref h1, .ref h2, .int x3]) (n := 4) (Nat.le_of_ble_eq_true rfl)
  rw [lg_entry_eq]
  generalize (lg_sl ([.ref h0, .ref h1, .ref h2, .int x3]) ++ List.replicate (4 - (lg_sl ([.ref h0, .ref h1, .ref h2, .int x3])).length) Slot.unset).toArray = ls at hl ⊢
  have hl : lv_has ls 4 [(0, .ref h0), (1, .ref h1), (2, .ref h2), (3, .int x3)] := hl
  refine lv_iload_n hx hb dY_add3_0 rfl (lv_at hl 3 rfl) ?_
  refine lv_aload_n hx hb dY_add3_1 rfl (lv_at hl 2 rfl) ?_
  obtain ⟨v1, h2, hw⟩ := hw
  refine z_alenE hx hb hK hM hG hS h2 dY_add3_2 ?_
  refine lv_icmp_ne (tgt := 11) hx hb dY_add3_3 (by decide) (fun hq => ?_) (fun hq => ?_)
  · have hw := hw.2 hq
    exact k_Y_add3_j11 C0  _ _ _ _ _ _ _ _ _ _ _ _ (show 0 + mc ≤ mc by omega) (show 0 + ms ≤ ms by omega) hM hS (lv_sub hl [0, 1, 2, 3] rfl) hw
  · have hw := hw.1 hq
    refine lv_aload_n hx hb dY_add3_6 rfl (lv_at hl 0 rfl) ?_
    obtain ⟨⟨fs8, h9⟩, hw⟩ := hw
    obtain ⟨mc4, ms5, hbmc4, hbms5, hw⟩ := hw
    refine va_callq (va_runV (As := []) (rest := []) ⟨hx, hb, hml, hown, htb⟩ (k_Y_grow0 (l := l) (D := D) (tc := tc) (A := A) hw) (cw_Y_129 htb ⟨Nat.le_of_ble_eq_true rfl, Nat.le_of_ble_eq_true rfl⟩) (z_preV hG hA hS hM h9 rfl) rfl rfl hl.1 rfl (lv_room (Nat.le_of_ble_eq_true rfl)) dY_add3_7 ⟨show 0 + mc4 ≤ mc by omega, show 0 + ms5 ≤ ms by omega⟩) hS (fun _ _ h => h) (fun _ h => h) (fun r6 M3 t H locs ht hvm hw hB _ _ hS => ?_)
    have hM : zP D vwCl tc A M3 H := by rw [← ht]; exact hB
    obtain ⟨a7, rfl, hw⟩ := hw
    refine lv_astore_n (lv' := [(2, .ref a7), (0, .ref h0), (1, .ref h1), (3, .int x3)]) hx hb dY_add3_10 rfl hl (by decide) rfl (fun ls hl => ?_)
    exact k_Y_add3_j11 C0  _ _ _ _ _ _ _ _ _ _ _ _ (show (0 + mc4) + (mc - mc4) ≤ mc by omega) (show (0 + ms5) + (ms - ms5) ≤ ms by omega) hM hS (lv_sub hl [1, 2, 0, 3] rfl) hw
abbrev r_Y_add1 (mc ms : Nat) : Room := { frames := 6, cells := mc, slots := ms, locals := 170 }
def w_Y_add1 (e0 : Nat) (post : Int32 → zM → Prop) (mc : Nat) (ms : Nat) (M : zM) (h0 : Nat) (h1 : Nat) : Prop := wGI M h0 5 2 (fun v1 => wPF M h0 5 2 (.int (v1 + 1)) (fun M8 => wGR M8 h0 5 0 (fun v9 => wGI M8 h0 5 1 (fun v13 => wIs M8 h0 5 ∧ ∃ mc18 ms19 : Nat, mc18 ≤ mc ∧ ms19 ≤ ms ∧ w_Y_add3 e0 (fun M17 => post 1 M17) mc18 ms19 M8 h0 h1 v9 v13))))
set_option maxHeartbeats 4000000 in
set_option maxRecDepth 100000 in
theorem k_Y_add1 {l : Launch} {D : va_G} {tc : Nat → ClassId} {A : Nat → Prop} {mc ms : Nat} {post : Int32 → zM → Prop} {M : zM} {h0 : Nat} {h1 : Nat} (hw : w_Y_add1 (tc 9) post mc ms M h0 h1) : Met l yY_add1 (.code yY_add1 cY_add1 2 (some .boolean) :: zTB) (r_Y_add1 mc ms) (va_Pc [.ref h0, .ref h1] (zI D tc A M)) (va_Qi post (zB D tc A) A) mc ms A := by
  refine Met.ofW (cc := cY_add1) (maxL := 2) (ret := (some .boolean)) (by decide +kernel) rfl ?_
  intro p e s m args below meth c s₁ B hml hv
  obtain ⟨rfl, hA, hM, hG⟩ := hv
  have C0 := zC_of (D := D) (tc := tc) (A := A) B hml (zC_ex B) hA hG
  obtain ⟨hx, hb, hml, hr, hown, htb, hlk, hA, hG, hin, hex⟩ := id C0
  have hK := hG.1
  have hS : va_S A s.heap s.heap [] := va_S.rf
  have hl := lv_entry ([.ref h0, .ref h1]) (n := 2) (Nat.le_of_ble_eq_true rfl)
  rw [lg_entry_eq]
  generalize (lg_sl ([.ref h0, .ref h1]) ++ List.replicate (2 - (lg_sl ([.ref h0, .ref h1])).length) Slot.unset).toArray = ls at hl ⊢
  have hl : lv_has ls 2 [(0, .ref h0), (1, .ref h1)] := hl
  refine lv_aload_n hx hb dY_add1_0 rfl (lv_at hl 0 rfl) ?_
  refine lv_dup hx hb dY_add1_1 rfl ?_
  obtain ⟨fs2, v1, h3, e4, hw⟩ := hw
  refine z_get hx hb htb inw_Y hown hK hM h3 rfl 2 (by decide) (htb _ t_48) (u_same (htb _ t_49)) e4 dY_add1_2 ?_
  refine lv_iconst (v := 1) hx hb dY_add1_5 (by decide +kernel) ?_
  refine lv_iadd hx hb dY_add1_6 ?_
  obtain ⟨fs5, h6, hl7, hw⟩ := hw
  refine z_put (ty := .int) hx hb htb inw_Y ty_Y tyok_Y nmok_Y hown hK hM hS h6 rfl 2 (by decide) (htb _ t_48) (u_same (htb _ t_49)) rfl (by decide +kernel) rfl rfl hl7 dY_add1_7 (fun H locs hM hS => ?_)
  refine lv_aload_n hx hb dY_add1_10 rfl (lv_at hl 0 rfl) ?_
  refine lv_aload_n hx hb dY_add1_11 rfl (lv_at hl 1 rfl) ?_
  refine lv_aload_n hx hb dY_add1_12 rfl (lv_at hl 0 rfl) ?_
  obtain ⟨fs10, v9, h11, e12, hw⟩ := hw
  refine z_get hx hb htb inw_Y hown hK hM h11 rfl 0 (by decide) (htb _ t_45) (fun _ h9 => h9) e12 dY_add1_13 ?_
  refine lv_aload_n hx hb dY_add1_16 rfl (lv_at hl 0 rfl) ?_
  obtain ⟨fs14, v13, h15, e16, hw⟩ := hw
  refine z_get hx hb htb inw_Y hown hK hM h15 rfl 1 (by decide) (htb _ t_46) (fun _ h9 => h9) e16 dY_add1_17 ?_
  obtain ⟨⟨fs20, h21⟩, hw⟩ := hw
  obtain ⟨mc18, ms19, hbmc18, hbms19, hw⟩ := hw
  refine va_callv (va_runV (As := [.ref h1, .ref v9, .int v13]) (rest := []) ⟨hx, hb, hml, hown, htb⟩ (k_Y_add3 (l := l) (D := D) (tc := tc) (A := A) hw) (cw_Y_131 htb ⟨Nat.le_of_ble_eq_true rfl, Nat.le_of_ble_eq_true rfl⟩) (z_preV hG hA hS hM h21 rfl) rfl rfl hl.1 rfl (lv_room (Nat.le_of_ble_eq_true rfl)) dY_add1_20 ⟨show 0 + mc18 ≤ mc by omega, show 0 + ms19 ≤ ms by omega⟩) hS (fun _ _ h => h) (fun _ h => h) (fun M17 t H locs ht hvm hw hB _ _ hS => ?_)
  have hM : zP D vwCl tc A M17 H := by rw [← ht]; exact hB
  refine lv_iconst (v := 1) hx hb dY_add1_23 (by decide +kernel) ?_
  refine W.widen (k := mc) (n := ms) (by omega) (by omega) ?_
  exact W.zret hx hb hr rfl (fun t ht hW => ⟨⟨_, _, rfl, hw, zB_of ht hM⟩, hS.F ht⟩) hS.2.2 dY_add1_24
abbrev r_YP_checkIndex : Room := { frames := 0, cells := 0, slots := 0, locals := 0 }
def w_YP_checkIndex_j9 (e0 : Nat) (post : Int32 → zM → Prop) (M : zM) : Prop := False
abbrev J_YP_checkIndex_9 (p : Program) (l : Launch) (e : Env) (s : State) (m : MethodId) (args : Array Value) (below : List Frame) (meth : Method) (c : Code) (D : va_G) (tc : Nat → ClassId) (A : Nat → Prop) (Q : State → Prop) (K : zM → Prop) : Prop := ∀ (M : zM) (H : Heap) (locs : List Loc) (ls : Array Slot), zP D vwCl tc A M H → va_S A s.heap H locs → lv_has ls 3 [] → K M → W p l e (r_YP_checkIndex) s m args below meth c H locs 0 0 Q (F0 m 9 ls [])
set_option maxHeartbeats 4000000 in
set_option maxRecDepth 100000 in
theorem k_YP_checkIndex_j9 {p : Program} {l : Launch} {e : Env} {s : State} {m : MethodId} {args : Array Value} {below : List Frame} {meth : Method} {c : Code} {D : va_G} {tc : Nat → ClassId} {A : Nat → Prop} {post : Int32 → zM → Prop} (C0 : zC R_YP cYP_checkIndex 3 (some .int) "checkIndex" D tc A p l s m args meth c) : J_YP_checkIndex_9 p l e s m args below meth c D tc A (MQ below (va_Qi post (zB D tc A) A) args s 0 0 A) (w_YP_checkIndex_j9 (tc 9) post) := by
  obtain ⟨hx, hb, hml, hr, hown, htb, hlk, hA, hG, hin, hex⟩ := id C0
  have hK := hG.1
  intro M H locs ls hM hS hl hw
  exact hw.elim
def w_YP_checkIndex (e0 : Nat) (post : Int32 → zM → Prop) (M : zM) (x0 : Int32) (x1 : Int32) : Prop := ((x0 < 0) → w_YP_checkIndex_j9 e0 post M) ∧ (¬ (x0 < 0) → ((x0 < x1) → post x0 M) ∧ (¬ (x0 < x1) → w_YP_checkIndex_j9 e0 post M))
set_option maxHeartbeats 4000000 in
set_option maxRecDepth 100000 in
theorem k_YP_checkIndex {l : Launch} {D : va_G} {tc : Nat → ClassId} {A : Nat → Prop} {post : Int32 → zM → Prop} {M : zM} {x0 : Int32} {x1 : Int32} (hw : w_YP_checkIndex (tc 9) post M x0 x1) : Met l yYP_checkIndex (.code yYP_checkIndex cYP_checkIndex 3 (some .int) :: zTB) r_YP_checkIndex (va_Pc [.int x0, .int x1, .null] (zI D tc A M)) (va_Qi post (zB D tc A) A) 0 0 A := by
  refine Met.ofW (cc := cYP_checkIndex) (maxL := 3) (ret := (some .int)) (by decide +kernel) rfl ?_
  intro p e s m args below meth c s₁ B hml hv
  obtain ⟨rfl, hA, hM, hG⟩ := hv
  have C0 := zC_of (D := D) (tc := tc) (A := A) B hml (zC_ex B) hA hG
  obtain ⟨hx, hb, hml, hr, hown, htb, hlk, hA, hG, hin, hex⟩ := id C0
  have hK := hG.1
  have hS : va_S A s.heap s.heap [] := va_S.rf
  have hl := lv_entry ([.int x0, .int x1, .null]) (n := 3) (Nat.le_of_ble_eq_true rfl)
  rw [lg_entry_eq]
  generalize (lg_sl ([.int x0, .int x1, .null]) ++ List.replicate (3 - (lg_sl ([.int x0, .int x1, .null])).length) Slot.unset).toArray = ls at hl ⊢
  have hl : lv_has ls 3 [(0, .int x0), (1, .int x1), (2, .null)] := hl
  refine lv_iload_n hx hb dYP_checkIndex_0 rfl (lv_at hl 0 rfl) ?_
  refine lv_if_lt (tgt := 9) hx hb dYP_checkIndex_1 (by decide) (fun hq => ?_) (fun hq => ?_)
  · have hw := hw.1 hq
    exact k_YP_checkIndex_j9 C0  _  _ _ _ hM hS (lv_sub hl [] rfl) hw
  · have hw := hw.2 hq
    refine lv_iload_n hx hb dYP_checkIndex_4 rfl (lv_at hl 0 rfl) ?_
    refine lv_iload_n hx hb dYP_checkIndex_5 rfl (lv_at hl 1 rfl) ?_
    refine lv_icmp_lt (tgt := 16) hx hb dYP_checkIndex_6 (by decide) (fun hq => ?_) (fun hq => ?_)
    · have hw := hw.1 hq
      refine lv_iload_n hx hb dYP_checkIndex_16 rfl (lv_at hl 0 rfl) ?_
      exact W.iret hx hb hr (fun t ht hW => ⟨⟨_, _, rfl, hw, zB_of ht hM⟩, hS.F ht⟩) hS.2.2 dYP_checkIndex_17
    · have hw := hw.2 hq
      exact k_YP_checkIndex_j9 C0  _  _ _ _ hM hS (lv_sub hl [] rfl) hw
abbrev r_YO_checkIndex : Room := { frames := 1, cells := 0, slots := 0, locals := 22 }
def w_YO_checkIndex (e0 : Nat) (post : Int32 → zM → Prop) (M : zM) (x0 : Int32) (x1 : Int32) : Prop := w_YP_checkIndex e0 (fun r2 M1 => post r2 M1) M x0 x1
set_option maxHeartbeats 4000000 in
set_option maxRecDepth 100000 in
theorem k_YO_checkIndex {l : Launch} {D : va_G} {tc : Nat → ClassId} {A : Nat → Prop} {post : Int32 → zM → Prop} {M : zM} {x0 : Int32} {x1 : Int32} (hw : w_YO_checkIndex (tc 9) post M x0 x1) : Met l yYO_checkIndex (.code yYO_checkIndex cYO_checkIndex 2 (some .int) :: zTB) r_YO_checkIndex (va_Pc [.int x0, .int x1] (zI D tc A M)) (va_Qi post (zB D tc A) A) 0 0 A := by
  refine Met.ofW (cc := cYO_checkIndex) (maxL := 2) (ret := (some .int)) (by decide +kernel) rfl ?_
  intro p e s m args below meth c s₁ B hml hv
  obtain ⟨rfl, hA, hM, hG⟩ := hv
  have C0 := zC_of (D := D) (tc := tc) (A := A) B hml (zC_ex B) hA hG
  obtain ⟨hx, hb, hml, hr, hown, htb, hlk, hA, hG, hin, hex⟩ := id C0
  have hK := hG.1
  have hS : va_S A s.heap s.heap [] := va_S.rf
  have hl := lv_entry ([.int x0, .int x1]) (n := 2) (Nat.le_of_ble_eq_true rfl)
  rw [lg_entry_eq]
  generalize (lg_sl ([.int x0, .int x1]) ++ List.replicate (2 - (lg_sl ([.int x0, .int x1])).length) Slot.unset).toArray = ls at hl ⊢
  have hl : lv_has ls 2 [(0, .int x0), (1, .int x1)] := hl
  refine lv_iload_n hx hb dYO_checkIndex_0 rfl (lv_at hl 0 rfl) ?_
  refine lv_iload_n hx hb dYO_checkIndex_1 rfl (lv_at hl 1 rfl) ?_
  refine lv_null hx hb dYO_checkIndex_2 ?_
  refine va_calli (va_runS (As := [.int x0, .int x1, .null]) (rest := []) ⟨hx, hb, hml, hown, htb⟩ (k_YP_checkIndex (l := l) (D := D) (tc := tc) (A := A) hw) (cw_YO_105 htb ⟨Nat.le_of_ble_eq_true rfl, Nat.le_of_ble_eq_true rfl⟩) (z_preS hG hA hS hM) rfl rfl hl.1 rfl (lv_room (Nat.le_of_ble_eq_true rfl)) dYO_checkIndex_3 ⟨Nat.le_refl _, Nat.le_refl _⟩) hS (fun _ _ h => h) (fun _ h => h) (fun r2 M1 t H locs ht hvm hw hB _ _ hS => ?_)
  have hM : zP D vwCl tc A M1 H := by rw [← ht]; exact hB
  exact W.iret hx hb hr (fun t ht hW => ⟨⟨_, _, rfl, hw, zB_of ht hM⟩, hS.F ht⟩) hS.2.2 dYO_checkIndex_6
abbrev r_Y_elementData : Room := { frames := 0, cells := 0, slots := 0, locals := 0 }
def w_Y_elementData (e0 : Nat) (post : Option Nat → zM → Prop) (M : zM) (h0 : Nat) (x1 : Int32) : Prop := wGR M h0 5 0 (fun v1 => wLQ M v1 2 x1 (fun v7 => post v7 M))
set_option maxHeartbeats 4000000 in
set_option maxRecDepth 100000 in
theorem k_Y_elementData {l : Launch} {D : va_G} {tc : Nat → ClassId} {A : Nat → Prop} {post : Option Nat → zM → Prop} {M : zM} {h0 : Nat} {x1 : Int32} (hw : w_Y_elementData (tc 9) post M h0 x1) : Met l yY_elementData (.code yY_elementData cY_elementData 2 (some (.object "java/lang/Object")) :: zTB) r_Y_elementData (va_Pc [.ref h0, .int x1] (zI D tc A M)) (va_Qq post (zB D tc A) A) 0 0 A := by
  refine Met.ofW (cc := cY_elementData) (maxL := 2) (ret := (some (.object "java/lang/Object"))) (by decide +kernel) rfl ?_
  intro p e s m args below meth c s₁ B hml hv
  obtain ⟨rfl, hA, hM, hG⟩ := hv
  have C0 := zC_of (D := D) (tc := tc) (A := A) B hml (zC_ex B) hA hG
  obtain ⟨hx, hb, hml, hr, hown, htb, hlk, hA, hG, hin, hex⟩ := id C0
  have hK := hG.1
  have hS : va_S A s.heap s.heap [] := va_S.rf
  have hl := lv_entry ([.ref h0, .int x1]) (n := 2) (Nat.le_of_ble_eq_true rfl)
  rw [lg_entry_eq]
  generalize (lg_sl ([.ref h0, .int x1]) ++ List.replicate (2 - (lg_sl ([.ref h0, .int x1])).length) Slot.unset).toArray = ls at hl ⊢
  have hl : lv_has ls 2 [(0, .ref h0), (1, .int x1)] := hl
  refine lv_aload_n hx hb dY_elementData_0 rfl (lv_at hl 0 rfl) ?_
  obtain ⟨fs2, v1, h3, e4, hw⟩ := hw
  refine z_get hx hb htb inw_Y hown hK hM h3 rfl 0 (by decide) (htb _ t_45) (fun _ h9 => h9) e4 dY_elementData_1 ?_
  refine lv_iload_n hx hb dY_elementData_4 rfl (lv_at hl 1 rfl) ?_
  obtain ⟨n5, f6, v7, h8, hi9, e10, hw⟩ := hw
  refine z_aldq hx hb hK hM 2 2 h8 rfl hi9 e10 dY_elementData_5 ?_
  exact W.aret (v := va_rf v7) hx hb hr (by first | exact Or.inl ⟨_, rfl⟩ | exact Or.inr ⟨_, rfl⟩) (va_rf_or _) (fun t ht hW => ⟨⟨_, _, rfl, hw, zB_of ht hM⟩, hS.F ht⟩) hS.2.2 dY_elementData_6
abbrev r_Y_get : Room := { frames := 2, cells := 0, slots := 0, locals := 43 }
def w_Y_get (e0 : Nat) (post : Option Nat → zM → Prop) (M : zM) (h0 : Nat) (x1 : Int32) : Prop := wGI M h0 5 1 (fun v1 => w_YO_checkIndex e0 (fun r6 M5 => wIs M5 h0 5 ∧ w_Y_elementData e0 (fun r8 M7 => post r8 M7) M5 h0 x1) M x1 v1)
set_option maxHeartbeats 4000000 in
set_option maxRecDepth 100000 in
theorem k_Y_get {l : Launch} {D : va_G} {tc : Nat → ClassId} {A : Nat → Prop} {post : Option Nat → zM → Prop} {M : zM} {h0 : Nat} {x1 : Int32} (hw : w_Y_get (tc 9) post M h0 x1) : Met l yY_get (.code yY_get cY_get 2 (some (.object "java/lang/Object")) :: zTB) r_Y_get (va_Pc [.ref h0, .int x1] (zI D tc A M)) (va_Qq post (zB D tc A) A) 0 0 A := by
  refine Met.ofW (cc := cY_get) (maxL := 2) (ret := (some (.object "java/lang/Object"))) (by decide +kernel) rfl ?_
  intro p e s m args below meth c s₁ B hml hv
  obtain ⟨rfl, hA, hM, hG⟩ := hv
  have C0 := zC_of (D := D) (tc := tc) (A := A) B hml (zC_ex B) hA hG
  obtain ⟨hx, hb, hml, hr, hown, htb, hlk, hA, hG, hin, hex⟩ := id C0
  have hK := hG.1
  have hS : va_S A s.heap s.heap [] := va_S.rf
  have hl := lv_entry ([.ref h0, .int x1]) (n := 2) (Nat.le_of_ble_eq_true rfl)
  rw [lg_entry_eq]
  generalize (lg_sl ([.ref h0, .int x1]) ++ List.replicate (2 - (lg_sl ([.ref h0, .int x1])).length) Slot.unset).toArray = ls at hl ⊢
  have hl : lv_has ls 2 [(0, .ref h0), (1, .int x1)] := hl
  refine lv_iload_n hx hb dY_get_0 rfl (lv_at hl 1 rfl) ?_
  refine lv_aload_n hx hb dY_get_1 rfl (lv_at hl 0 rfl) ?_
  obtain ⟨fs2, v1, h3, e4, hw⟩ := hw
  refine z_get hx hb htb inw_Y hown hK hM h3 rfl 1 (by decide) (htb _ t_46) (fun _ h9 => h9) e4 dY_get_2 ?_
  refine va_calli (va_runS (As := [.int x1, .int v1]) (rest := []) ⟨hx, hb, hml, hown, htb⟩ (k_YO_checkIndex (l := l) (D := D) (tc := tc) (A := A) hw) (cw_Y_118 htb ⟨Nat.le_of_ble_eq_true rfl, Nat.le_of_ble_eq_true rfl⟩) (z_preS hG hA hS hM) rfl rfl hl.1 rfl (lv_room (Nat.le_of_ble_eq_true rfl)) dY_get_5 ⟨Nat.le_refl _, Nat.le_refl _⟩) hS (fun _ _ h => h) (fun _ h => h) (fun r6 M5 t H locs ht hvm hw hB _ _ hS => ?_)
  have hM : zP D vwCl tc A M5 H := by rw [← ht]; exact hB
  refine lv_pop hx hb dY_get_8 rfl ?_
  refine lv_aload_n hx hb dY_get_9 rfl (lv_at hl 0 rfl) ?_
  refine lv_iload_n hx hb dY_get_10 rfl (lv_at hl 1 rfl) ?_
  obtain ⟨⟨fs9, h10⟩, hw⟩ := hw
  refine va_callq (va_runV (As := [.int x1]) (rest := []) ⟨hx, hb, hml, hown, htb⟩ (k_Y_elementData (l := l) (D := D) (tc := tc) (A := A) hw) (cw_Y_123 htb ⟨Nat.le_of_ble_eq_true rfl, Nat.le_of_ble_eq_true rfl⟩) (z_preV hG hA hS hM h10 rfl) rfl rfl hl.1 rfl (lv_room (Nat.le_of_ble_eq_true rfl)) dY_get_11 ⟨Nat.le_refl _, Nat.le_refl _⟩) hS (fun _ _ h => h) (fun _ h => h) (fun r8 M7 t H locs ht hvm hw hB _ _ hS => ?_)
  have hM : zP D vwCl tc A M7 H := by rw [← ht]; exact hB
  exact W.aret (v := va_rf r8) hx hb hr (by first | exact Or.inl ⟨_, rfl⟩ | exact Or.inr ⟨_, rfl⟩) (va_rf_or _) (fun t ht hW => ⟨⟨_, _, rfl, hw, zB_of ht hM⟩, hS.F ht⟩) hS.2.2 dY_get_14
abbrev r_YA_fill : Room := { frames := 0, cells := 0, slots := 0, locals := 0 }
def w_YA_fill_j5 (e0 : Nat) (post : zM → Prop) : Nat → zM → Nat → Int32 → Int32 → Int32 → Prop
  | 0, _, _, _, _, _ => False
  | n + 1, M, l0, l1, l2, l3 => ((l3 ≤ l2) → post M) ∧ (¬ (l3 ≤ l2) → wSI M l0 0 l2 l1 (fun M5 => w_YA_fill_j5 e0 post n M5 l0 l1 (l2 + 1) l3))
abbrev J_YA_fill_5 (p : Program) (l : Launch) (e : Env) (s : State) (m : MethodId) (args : Array Value) (below : List Frame) (meth : Method) (c : Code) (D : va_G) (tc : Nat → ClassId) (A : Nat → Prop) (Q : State → Prop) (K : zM → Nat → Int32 → Int32 → Int32 → Prop) : Prop := ∀ (M : zM) (l0 : Nat) (l1 : Int32) (l2 : Int32) (l3 : Int32) (H : Heap) (locs : List Loc) (ls : Array Slot), zP D vwCl tc A M H → va_S A s.heap H locs → lv_has ls 4 [(0, .ref l0), (1, .int l1), (2, .int l2), (3, .int l3)] → K M l0 l1 l2 l3 → W p l e (r_YA_fill) s m args below meth c H locs 0 0 Q (F0 m 5 ls [])
set_option maxHeartbeats 4000000 in
set_option maxRecDepth 100000 in
theorem k_YA_fill_j5 {p : Program} {l : Launch} {e : Env} {s : State} {m : MethodId} {args : Array Value} {below : List Frame} {meth : Method} {c : Code} {D : va_G} {tc : Nat → ClassId} {A : Nat → Prop} {post : zM → Prop} (C0 : zC R_YA cYA_fill 4 none "fill" D tc A p l s m args meth c) : ∀ n : Nat, J_YA_fill_5 p l e s m args below meth c D tc A (MQ below (va_Qv post (zB D tc A) A) args s 0 0 A) (w_YA_fill_j5 (tc 9) post n) := by
  obtain ⟨hx, hb, hml, hr, hown, htb, hlk, hA, hG, hin, hex⟩ := id C0
  have hK := hG.1
  intro n
  induction n with
  | zero => intro M l0 l1 l2 l3 H locs ls hM hS hl hw; exact hw.elim
  | succ n ih =>
    intro M l0 l1 l2 l3 H locs ls hM hS hl hw
    refine lv_iload_n hx hb dYA_fill_5 rfl (lv_at hl 2 rfl) ?_
    refine lv_iload_n hx hb dYA_fill_6 rfl (lv_at hl 3 rfl) ?_
    refine lv_icmp_ge (tgt := 20) hx hb dYA_fill_7 (by decide) (fun hq => ?_) (fun hq => ?_)
    · have hw := hw.1 hq
      exact W.vret hx hb hr (fun t ht hW => ⟨⟨_, rfl, hw, zB_of ht hM⟩, hS.F ht⟩) hS.2.2 dYA_fill_20
    · have hw := hw.2 hq
      refine lv_aload_n hx hb dYA_fill_10 rfl (lv_at hl 0 rfl) ?_
      refine lv_iload_n hx hb dYA_fill_11 rfl (lv_at hl 2 rfl) ?_
      refine lv_iload_n hx hb dYA_fill_12 rfl (lv_at hl 1 rfl) ?_
      obtain ⟨n1, f2, h3, hi4, hw⟩ := hw
      refine z_iast hx hb hK hM hS 0 0 h3 rfl hi4 dYA_fill_13 (fun H locs hM hS => ?_)
      refine lv_iinc (v := (l2 + 1)) (lv' := [(2, .int (l2 + 1)), (0, .ref l0), (1, .int l1), (3, .int l3)]) hx hb dYA_fill_14 hl (k := 2) rfl rfl (by decide) rfl (fun ls hl => ?_)
      refine lv_goto (tgt := 5) hx hb dYA_fill_17 (by decide) ?_
      exact ih _ _ _ _ _ _ _ _ hM hS (lv_sub hl [1, 2, 0, 3] rfl) hw
def w_YA_fill (e0 : Nat) (post : zM → Prop) (M : zM) (h0 : Nat) (x1 : Int32) : Prop := wAL M h0 0 (fun v2 => ∃ n, w_YA_fill_j5 e0 post n M h0 x1 0 v2)
set_option maxHeartbeats 4000000 in
set_option maxRecDepth 100000 in
theorem k_YA_fill {l : Launch} {D : va_G} {tc : Nat → ClassId} {A : Nat → Prop} {post : zM → Prop} {M : zM} {h0 : Nat} {x1 : Int32} (hw : w_YA_fill (tc 9) post M h0 x1) : Met l yYA_fill (.code yYA_fill cYA_fill 4 none :: zTB) r_YA_fill (va_Pc [.ref h0, .int x1] (zI D tc A M)) (va_Qv post (zB D tc A) A) 0 0 A := by
  refine Met.ofW (cc := cYA_fill) (maxL := 4) (ret := none) (by decide +kernel) rfl ?_
  intro p e s m args below meth c s₁ B hml hv
  obtain ⟨rfl, hA, hM, hG⟩ := hv
  have C0 := zC_of (D := D) (tc := tc) (A := A) B hml (zC_ex B) hA hG
  obtain ⟨hx, hb, hml, hr, hown, htb, hlk, hA, hG, hin, hex⟩ := id C0
  have hK := hG.1
  have hS : va_S A s.heap s.heap [] := va_S.rf
  have hl := lv_entry ([.ref h0, .int x1]) (n := 4) (Nat.le_of_ble_eq_true rfl)
  rw [lg_entry_eq]
  generalize (lg_sl ([.ref h0, .int x1]) ++ List.replicate (4 - (lg_sl ([.ref h0, .int x1])).length) Slot.unset).toArray = ls at hl ⊢
  have hl : lv_has ls 4 [(0, .ref h0), (1, .int x1)] := hl
  refine lv_iconst (v := 0) hx hb dYA_fill_0 (by decide +kernel) ?_
  refine lv_istore_n (lv' := [(2, .int 0), (0, .ref h0), (1, .int x1)]) hx hb dYA_fill_1 rfl hl (by decide) rfl (fun ls hl => ?_)
  refine lv_aload_n hx hb dYA_fill_2 rfl (lv_at hl 1 rfl) ?_
  obtain ⟨w1, v2, h3, e4, hw⟩ := hw
  refine z_alen hx hb hK hM 0 0 h3 rfl e4 dYA_fill_3 ?_
  refine lv_istore_n (lv' := [(3, .int v2), (2, .int 0), (0, .ref h0), (1, .int x1)]) hx hb dYA_fill_4 rfl hl (by decide) rfl (fun ls hl => ?_)
  obtain ⟨n9, hw⟩ := hw
  exact k_YA_fill_j5 C0  n9 _ _ _ _ _ _ _ _ hM hS (lv_sub hl [2, 3, 1, 0] rfl) hw
end
section
abbrev r_G_init : Room := { frames := 1, cells := 0, slots := 0, locals := 40 }
def w_G_init (e0 : Nat) (post : zM → Prop) (M : zM) (h0 : Nat) (x1 : Int32) (x2 : Int32) : Prop := wPF M h0 2 0 (.int x1) (fun M4 => wPF M4 h0 2 1 (.int x2) (fun M8 => wPF M8 h0 2 2 (.int (-1)) (fun M12 => post M12)))
set_option maxHeartbeats 4000000 in
set_option maxRecDepth 100000 in
theorem k_G_init {l : Launch} {D : va_G} {tc : Nat → ClassId} {A : Nat → Prop} {post : zM → Prop} {M : zM} {h0 : Nat} {x1 : Int32} {x2 : Int32} (hw : w_G_init (tc 9) post M h0 x1 x2) : Met l yG_init (.code yG_init cG_init 3 none :: zTB) r_G_init (va_Pc [.ref h0, .int x1, .int x2] (zI D tc A M)) (va_Qv post (zB D tc A) A) 0 0 A := by
  refine Met.ofW (cc := cG_init) (maxL := 3) (ret := none) (by decide +kernel) rfl ?_
  intro p e s m args below meth c s₁ B hml hv
  obtain ⟨rfl, hA, hM, hG⟩ := hv
  have C0 := zC_of (D := D) (tc := tc) (A := A) B hml (zC_ex B) hA hG
  obtain ⟨hx, hb, hml, hr, hown, htb, hlk, hA, hG, hin, hex⟩ := id C0
  have hK := hG.1
  have hS : va_S A s.heap s.heap [] := va_S.rf
  have hl := lv_entry ([.ref h0, .int x1, .int x2]) (n := 3) (Nat.le_of_ble_eq_true rfl)
  rw [lg_entry_eq]
  generalize (lg_sl ([.ref h0, .int x1, .int x2]) ++ List.replicate (3 - (lg_sl ([.ref h0, .int x1, .int x2])).length) Slot.unset).toArray = ls at hl ⊢
  have hl : lv_has ls 3 [(0, .ref h0), (1, .int x1), (2, .int x2)] := hl
  refine lv_aload_n hx hb dG_init_0 rfl (lv_at hl 0 rfl) ?_
  refine W.objInit hx hb hown (htb _ t_184) (htb _ t_29) (htb _ t_30) rfl (by rw [hml]; exact hl.1) rfl dG_init_1 (Nat.le_of_ble_eq_true rfl) (Nat.le_of_ble_eq_true rfl) ?_
  refine lv_aload_n hx hb dG_init_4 rfl (lv_at hl 0 rfl) ?_
  refine lv_iload_n hx hb dG_init_5 rfl (lv_at hl 1 rfl) ?_
  obtain ⟨fs1, h2, hl3, hw⟩ := hw
  refine z_putF (ty := .int) hx hb htb inw_G ty_G tyok_G nmok_G hown hK hM hS h2 rfl 0 (by decide) (htb _ t_185) (fun _ h9 => h9) rfl hin rfl (by decide +kernel) rfl rfl hl3 dG_init_6 (fun H locs hM hS => ?_)
  refine lv_aload_n hx hb dG_init_9 rfl (lv_at hl 0 rfl) ?_
  refine lv_iload_n hx hb dG_init_10 rfl (lv_at hl 2 rfl) ?_
  obtain ⟨fs5, h6, hl7, hw⟩ := hw
  refine z_putF (ty := .int) hx hb htb inw_G ty_G tyok_G nmok_G hown hK hM hS h6 rfl 1 (by decide) (htb _ t_187) (fun _ h9 => h9) rfl hin rfl (by decide +kernel) rfl rfl hl7 dG_init_11 (fun H locs hM hS => ?_)
  refine lv_aload_n hx hb dG_init_14 rfl (lv_at hl 0 rfl) ?_
  refine lv_iconst (v := (-1)) hx hb dG_init_15 (by decide +kernel) ?_
  obtain ⟨fs9, h10, hl11, hw⟩ := hw
  refine z_put (ty := .int) hx hb htb inw_G ty_G tyok_G nmok_G hown hK hM hS h10 rfl 2 (by decide) (htb _ t_189) (fun _ h9 => h9) rfl (by decide +kernel) rfl rfl hl11 dG_init_16 (fun H locs hM hS => ?_)
  exact W.vret hx hb hr (fun t ht hW => ⟨⟨_, rfl, hw, zB_of ht hM⟩, hS.F ht⟩) hS.2.2 dG_init_19
abbrev r_P_init (mc ms : Nat) : Room := { frames := 1, cells := mc, slots := ms, locals := 40 }
def w_P_init (e0 : Nat) (post : zM → Prop) (mc : Nat) (ms : Nat) (M : zM) (h0 : Nat) (x1 : Int32) : Prop := wPF M h0 3 0 (.int x1) (fun M4 => wNA M4 0 3 3 4 mc ms (fun q5 M11 => wPF M11 h0 3 1 (.ref q5) (fun M15 => wNA M15 1 3 3 1 (mc - 1) (ms - 3) (fun q16 M22 => wPF M22 h0 3 2 (.ref q16) (fun M26 => wPF M26 h0 3 4 (.int 0) (fun M30 => post M30))))))
set_option maxHeartbeats 4000000 in
set_option maxRecDepth 100000 in
theorem k_P_init {l : Launch} {D : va_G} {tc : Nat → ClassId} {A : Nat → Prop} {mc ms : Nat} {post : zM → Prop} {M : zM} {h0 : Nat} {x1 : Int32} (hw : w_P_init (tc 9) post mc ms M h0 x1) : Met l yP_init (.code yP_init cP_init 2 none :: zTB) (r_P_init mc ms) (va_Pc [.ref h0, .int x1] (zI D tc A M)) (va_Qv post (zB D tc A) A) mc ms A := by
  refine Met.ofW (cc := cP_init) (maxL := 2) (ret := none) (by decide +kernel) rfl ?_
  intro p e s m args below meth c s₁ B hml hv
  obtain ⟨rfl, hA, hM, hG⟩ := hv
  have C0 := zC_of (D := D) (tc := tc) (A := A) B hml (zC_ex B) hA hG
  obtain ⟨hx, hb, hml, hr, hown, htb, hlk, hA, hG, hin, hex⟩ := id C0
  have hK := hG.1
  have hS : va_S A s.heap s.heap [] := va_S.rf
  have hl := lv_entry ([.ref h0, .int x1]) (n := 2) (Nat.le_of_ble_eq_true rfl)
  rw [lg_entry_eq]
  generalize (lg_sl ([.ref h0, .int x1]) ++ List.replicate (2 - (lg_sl ([.ref h0, .int x1])).length) Slot.unset).toArray = ls at hl ⊢
  have hl : lv_has ls 2 [(0, .ref h0), (1, .int x1)] := hl
  refine lv_aload_n hx hb dP_init_0 rfl (lv_at hl 0 rfl) ?_
  refine W.objInit hx hb hown (htb _ t_338) (htb _ t_29) (htb _ t_30) rfl (by rw [hml]; exact hl.1) rfl dP_init_1 (Nat.le_of_ble_eq_true rfl) (Nat.le_of_ble_eq_true rfl) ?_
  refine lv_aload_n hx hb dP_init_4 rfl (lv_at hl 0 rfl) ?_
  refine lv_iload_n hx hb dP_init_5 rfl (lv_at hl 1 rfl) ?_
  obtain ⟨fs1, h2, hl3, hw⟩ := hw
  refine z_putF (ty := .int) hx hb htb inw_P ty_P tyok_P nmok_P hown hK hM hS h2 rfl 0 (by decide) (htb _ t_339) (fun _ h9 => h9) rfl hin rfl (by decide +kernel) rfl rfl hl3 dP_init_6 (fun H locs hM hS => ?_)
  refine lv_aload_n hx hb dP_init_9 rfl (lv_at hl 0 rfl) ?_
  refine lv_iconst (v := 3) hx hb dP_init_10 (by decide +kernel) ?_
  obtain ⟨h6, h7, h8, h9, hN9, hw⟩ := hw
  refine z_newa (a0 := (3, .inl (fun _ => 0))) hx hb (htb _ t_363) rfl hK hM hS hA 0 0 rfl (fun _ h => h) (fun _ => rfl) h6 hN9 h7 (show 0 + 1 ≤ mc by omega) (show 0 + 3 ≤ ms by omega) dP_init_11 (fun q5 H hn10 hM hS => ?_)
  have hw := hw q5 hn10
  obtain ⟨fs12, h13, hl14, hw⟩ := hw
  refine z_putF (ty := (.array .int)) hx hb htb inw_P ty_P tyok_P nmok_P hown hK hM hS h13 rfl 1 (by decide) (htb _ t_340) (fun _ h9 => h9) rfl hin rfl (by decide +kernel) rfl rfl hl14 dP_init_13 (fun H locs hM hS => ?_)
  refine lv_aload_n hx hb dP_init_16 rfl (lv_at hl 0 rfl) ?_
  refine lv_iconst (v := 3) hx hb dP_init_17 (by decide +kernel) ?_
  obtain ⟨h17, h18, h19, h20, hN9, hw⟩ := hw
  refine z_newa (a0 := (3, .inl (fun _ => 0))) hx hb (htb _ t_364) rfl hK hM hS hA 1 1 rfl (fun _ h => h) (fun _ => rfl) h17 hN9 h18 (show (0 + 1) + 1 ≤ mc by omega) (show (0 + 3) + 3 ≤ ms by omega) dP_init_18 (fun q16 H hn21 hM hS => ?_)
  have hw := hw q16 hn21
  obtain ⟨fs23, h24, hl25, hw⟩ := hw
  refine z_putF (ty := (.array .boolean)) hx hb htb inw_P ty_P tyok_P nmok_P hown hK hM hS h24 rfl 2 (by decide) (htb _ t_341) (fun _ h9 => h9) rfl hin rfl (by decide +kernel) rfl rfl hl25 dP_init_20 (fun H locs hM hS => ?_)
  refine lv_aload_n hx hb dP_init_23 rfl (lv_at hl 0 rfl) ?_
  refine lv_iconst (v := 0) hx hb dP_init_24 (by decide +kernel) ?_
  obtain ⟨fs27, h28, hl29, hw⟩ := hw
  refine z_put (ty := .int) hx hb htb inw_P ty_P tyok_P nmok_P hown hK hM hS h28 rfl 4 (by decide) (htb _ t_344) (fun _ h9 => h9) rfl (by decide +kernel) rfl rfl hl29 dP_init_25 (fun H locs hM hS => ?_)
  refine W.widen (k := mc) (n := ms) (by omega) (by omega) ?_
  exact W.vret hx hb hr (fun t ht hW => ⟨⟨_, rfl, hw, zB_of ht hM⟩, hS.F ht⟩) hS.2.2 dP_init_28
abbrev r_P_setWay : Room := { frames := 0, cells := 0, slots := 0, locals := 0 }
def w_P_setWay_j31 (e0 : Nat) (post : zM → Prop) (M : zM) (l0 : Nat) (l1 : Int32) (l2 : Int32) (l3 : Int32) : Prop := ((l3 < 3) → wGR M l0 3 1 (fun v1 => wSI M v1 0 l3 l1 (fun M9 => wGR M9 l0 3 2 (fun v10 => wSZ M9 v10 1 l3 l2 (fun M18 => wGI M18 l0 3 3 (fun v19 => ((l3 = v19) → wGI M18 l0 3 3 (fun v23 => wPF M18 l0 3 3 (.int (v23 + 1)) (fun M30 => post M30))) ∧ (¬ (l3 = v19) → post M18))))))) ∧ (¬ (l3 < 3) → post M)
abbrev J_P_setWay_31 (p : Program) (l : Launch) (e : Env) (s : State) (m : MethodId) (args : Array Value) (below : List Frame) (meth : Method) (c : Code) (D : va_G) (tc : Nat → ClassId) (A : Nat → Prop) (Q : State → Prop) (K : zM → Nat → Int32 → Int32 → Int32 → Prop) : Prop := ∀ (M : zM) (l0 : Nat) (l1 : Int32) (l2 : Int32) (l3 : Int32) (H : Heap) (locs : List Loc) (ls : Array Slot), zP D vwCl tc A M H → va_S A s.heap H locs → lv_has ls 4 [(0, .ref l0), (1, .int l1), (2, .int l2), (3, .int l3)] → K M l0 l1 l2 l3 → W p l e (r_P_setWay) s m args below meth c H locs 0 0 Q (F0 m 31 ls [])
set_option maxHeartbeats 4000000 in
set_option maxRecDepth 100000 in
theorem k_P_setWay_j31 {p : Program} {l : Launch} {e : Env} {s : State} {m : MethodId} {args : Array Value} {below : List Frame} {meth : Method} {c : Code} {D : va_G} {tc : Nat → ClassId} {A : Nat → Prop} {post : zM → Prop} (C0 : zC R_P cP_setWay 4 none "setWay" D tc A p l s m args meth c) : J_P_setWay_31 p l e s m args below meth c D tc A (MQ below (va_Qv post (zB D tc A) A) args s 0 0 A) (w_P_setWay_j31 (tc 9) post) := by
  obtain ⟨hx, hb, hml, hr, hown, htb, hlk, hA, hG, hin, hex⟩ := id C0
  have hK := hG.1
  intro M l0 l1 l2 l3 H locs ls hM hS hl hw
  refine lv_iload_n hx hb dP_setWay_31 rfl (lv_at hl 3 rfl) ?_
  refine lv_iconst (v := 3) hx hb dP_setWay_32 (by decide +kernel) ?_
  refine lv_icmp_lt (tgt := 37) hx hb dP_setWay_33 (by decide) (fun hq => ?_) (fun hq => ?_)
  · have hw := hw.1 hq
    refine lv_aload_n hx hb dP_setWay_37 rfl (lv_at hl 0 rfl) ?_
    obtain ⟨fs2, v1, h3, e4, hw⟩ := hw
    refine z_get hx hb htb inw_P hown hK hM h3 rfl 1 (by decide) (htb _ t_340) (fun _ h9 => h9) e4 dP_setWay_38 ?_
    refine lv_iload_n hx hb dP_setWay_41 rfl (lv_at hl 3 rfl) ?_
    refine lv_iload_n hx hb dP_setWay_42 rfl (lv_at hl 1 rfl) ?_
    obtain ⟨n5, f6, h7, hi8, hw⟩ := hw
    refine z_iast hx hb hK hM hS 0 0 h7 rfl hi8 dP_setWay_43 (fun H locs hM hS => ?_)
    refine lv_aload_n hx hb dP_setWay_44 rfl (lv_at hl 0 rfl) ?_
    obtain ⟨fs11, v10, h12, e13, hw⟩ := hw
    refine z_get hx hb htb inw_P hown hK hM h12 rfl 2 (by decide) (htb _ t_341) (fun _ h9 => h9) e13 dP_setWay_45 ?_
    refine lv_iload_n hx hb dP_setWay_48 rfl (lv_at hl 3 rfl) ?_
    refine lv_iload_n hx hb dP_setWay_49 rfl (lv_at hl 2 rfl) ?_
    obtain ⟨n14, f15, h16, hi17, hw⟩ := hw
    refine z_zast hx hb hK hM hS 1 1 h16 rfl hi17 dP_setWay_50 (fun H locs hM hS => ?_)
    refine lv_iload_n hx hb dP_setWay_51 rfl (lv_at hl 3 rfl) ?_
    refine lv_aload_n hx hb dP_setWay_52 rfl (lv_at hl 0 rfl) ?_
    obtain ⟨fs20, v19, h21, e22, hw⟩ := hw
    refine z_get hx hb htb inw_P hown hK hM h21 rfl 3 (by decide) (htb _ t_342) (fun _ h9 => h9) e22 dP_setWay_53 ?_
    refine lv_icmp_ne (tgt := 69) hx hb dP_setWay_56 (by decide) (fun hq => ?_) (fun hq => ?_)
    · have hw := hw.2 hq
      exact W.vret hx hb hr (fun t ht hW => ⟨⟨_, rfl, hw, zB_of ht hM⟩, hS.F ht⟩) hS.2.2 dP_setWay_69
    · have hw := hw.1 hq
      refine lv_aload_n hx hb dP_setWay_59 rfl (lv_at hl 0 rfl) ?_
      refine lv_dup hx hb dP_setWay_60 rfl ?_
      obtain ⟨fs24, v23, h25, e26, hw⟩ := hw
      refine z_get hx hb htb inw_P hown hK hM h25 rfl 3 (by decide) (htb _ t_342) (fun _ h9 => h9) e26 dP_setWay_61 ?_
      refine lv_iconst (v := 1) hx hb dP_setWay_64 (by decide +kernel) ?_
      refine lv_iadd hx hb dP_setWay_65 ?_
      obtain ⟨fs27, h28, hl29, hw⟩ := hw
      refine z_put (ty := .int) hx hb htb inw_P ty_P tyok_P nmok_P hown hK hM hS h28 rfl 3 (by decide) (htb _ t_342) (fun _ h9 => h9) rfl (by decide +kernel) rfl rfl hl29 dP_setWay_66 (fun H locs hM hS => ?_)
      exact W.vret hx hb hr (fun t ht hW => ⟨⟨_, rfl, hw, zB_of ht hM⟩, hS.F ht⟩) hS.2.2 dP_setWay_69
  · have hw := hw.2 hq
    exact W.vret hx hb hr (fun t ht hW => ⟨⟨_, rfl, hw, zB_of ht hM⟩, hS.F ht⟩) hS.2.2 dP_setWay_36
def w_P_setWay_j2 (e0 : Nat) (post : zM → Prop) : Nat → zM → Nat → Int32 → Int32 → Int32 → Prop
  | 0, _, _, _, _, _ => False
  | n + 1, M, l0, l1, l2, l3 => wGI M l0 3 3 (fun v1 => ((v1 ≤ l3) → w_P_setWay_j31 e0 post M l0 l1 l2 l3) ∧ (¬ (v1 ≤ l3) → ((3 ≤ l3) → w_P_setWay_j31 e0 post M l0 l1 l2 l3) ∧ (¬ (3 ≤ l3) → wGR M l0 3 1 (fun v5 => wLI M v5 0 l3 (fun v11 => ((v11 = l1) → w_P_setWay_j31 e0 post M l0 l1 l2 l3) ∧ (¬ (v11 = l1) → w_P_setWay_j2 e0 post n M l0 l1 l2 (l3 + 1)))))))
abbrev J_P_setWay_2 (p : Program) (l : Launch) (e : Env) (s : State) (m : MethodId) (args : Array Value) (below : List Frame) (meth : Method) (c : Code) (D : va_G) (tc : Nat → ClassId) (A : Nat → Prop) (Q : State → Prop) (K : zM → Nat → Int32 → Int32 → Int32 → Prop) : Prop := ∀ (M : zM) (l0 : Nat) (l1 : Int32) (l2 : Int32) (l3 : Int32) (H : Heap) (locs : List Loc) (ls : Array Slot), zP D vwCl tc A M H → va_S A s.heap H locs → lv_has ls 4 [(0, .ref l0), (1, .int l1), (2, .int l2), (3, .int l3)] → K M l0 l1 l2 l3 → W p l e (r_P_setWay) s m args below meth c H locs 0 0 Q (F0 m 2 ls [])
set_option maxHeartbeats 4000000 in
set_option maxRecDepth 100000 in
theorem k_P_setWay_j2 {p : Program} {l : Launch} {e : Env} {s : State} {m : MethodId} {args : Array Value} {below : List Frame} {meth : Method} {c : Code} {D : va_G} {tc : Nat → ClassId} {A : Nat → Prop} {post : zM → Prop} (C0 : zC R_P cP_setWay 4 none "setWay" D tc A p l s m args meth c) : ∀ n : Nat, J_P_setWay_2 p l e s m args below meth c D tc A (MQ below (va_Qv post (zB D tc A) A) args s 0 0 A) (w_P_setWay_j2 (tc 9) post n) := by
  obtain ⟨hx, hb, hml, hr, hown, htb, hlk, hA, hG, hin, hex⟩ := id C0
  have hK := hG.1
  intro n
  induction n with
  | zero => intro M l0 l1 l2 l3 H locs ls hM hS hl hw; exact hw.elim
  | succ n ih =>
    intro M l0 l1 l2 l3 H locs ls hM hS hl hw
    refine lv_iload_n hx hb dP_setWay_2 rfl (lv_at hl 3 rfl) ?_
    refine lv_aload_n hx hb dP_setWay_3 rfl (lv_at hl 0 rfl) ?_
    obtain ⟨fs2, v1, h3, e4, hw⟩ := hw
    refine z_get hx hb htb inw_P hown hK hM h3 rfl 3 (by decide) (htb _ t_342) (fun _ h9 => h9) e4 dP_setWay_4 ?_
    refine lv_icmp_ge (tgt := 31) hx hb dP_setWay_7 (by decide) (fun hq => ?_) (fun hq => ?_)
    · have hw := hw.1 hq
      exact k_P_setWay_j31 C0  _ _ _ _ _ _ _ _ hM hS (lv_sub hl [0, 1, 2, 3] rfl) hw
    · have hw := hw.2 hq
      refine lv_iload_n hx hb dP_setWay_10 rfl (lv_at hl 3 rfl) ?_
      refine lv_iconst (v := 3) hx hb dP_setWay_11 (by decide +kernel) ?_
      refine lv_icmp_ge (tgt := 31) hx hb dP_setWay_12 (by decide) (fun hq => ?_) (fun hq => ?_)
      · have hw := hw.1 hq
        exact k_P_setWay_j31 C0  _ _ _ _ _ _ _ _ hM hS (lv_sub hl [0, 1, 2, 3] rfl) hw
      · have hw := hw.2 hq
        refine lv_aload_n hx hb dP_setWay_15 rfl (lv_at hl 0 rfl) ?_
        obtain ⟨fs6, v5, h7, (tc 8), hw⟩ := hw
        refine z_get hx hb htb inw_P hown hK hM h7 rfl 1 (by decide) (htb _ t_340) (fun _ h9 => h9) (tc 8) dP_setWay_16 ?_
        refine lv_iload_n hx hb dP_setWay_19 rfl (lv_at hl 3 rfl) ?_
        obtain ⟨n9, f10, v11, h12, hi13, e14, hw⟩ := hw
        refine z_iald hx hb hK hM 0 0 h12 rfl hi13 e14 dP_setWay_20 ?_
        refine lv_iload_n hx hb dP_setWay_21 rfl (lv_at hl 1 rfl) ?_
        refine lv_icmp_eq (tgt := 31) hx hb dP_setWay_22 (by decide) (fun hq => ?_) (fun hq => ?_)
        · have hw := hw.1 hq
          exact k_P_setWay_j31 C0  _ _ _ _ _ _ _ _ hM hS (lv_sub hl [0, 1, 2, 3] rfl) hw
        · have hw := hw.2 hq
          refine lv_iinc (v := (l3 + 1)) (lv' := [(3, .int (l3 + 1)), (0, .ref l0), (1, .int l1), (2, .int l2)]) hx hb dP_setWay_25 hl (k := 3) rfl rfl (by decide) rfl (fun ls hl => ?_)
          refine lv_goto (tgt := 2) hx hb dP_setWay_28 (by decide) ?_
          exact ih _ _ _ _ _ _ _ _ hM hS (lv_sub hl [1, 2, 3, 0] rfl) hw
def w_P_setWay (e0 : Nat) (post : zM → Prop) (M : zM) (h0 : Nat) (x1 : Int32) (x2 : Int32) : Prop := ∃ n, w_P_setWay_j2 e0 post n M h0 x1 x2 0
set_option maxHeartbeats 4000000 in
set_option maxRecDepth 100000 in
theorem k_P_setWay {l : Launch} {D : va_G} {tc : Nat → ClassId} {A : Nat → Prop} {post : zM → Prop} {M : zM} {h0 : Nat} {x1 : Int32} {x2 : Int32} (hw : w_P_setWay (tc 9) post M h0 x1 x2) : Met l yP_setWay (.code yP_setWay cP_setWay 4 none :: zTB) r_P_setWay (va_Pc [.ref h0, .int x1, .int x2] (zI D tc A M)) (va_Qv post (zB D tc A) A) 0 0 A := by
  refine Met.ofW (cc := cP_setWay) (maxL := 4) (ret := none) (by decide +kernel) rfl ?_
  intro p e s m args below meth c s₁ B hml hv
  obtain ⟨rfl, hA, hM, hG⟩ := hv
  have C0 := zC_of (D := D) (tc := tc) (A := A) B hml (zC_ex B) hA hG
  obtain ⟨hx, hb, hml, hr, hown, htb, hlk, hA, hG, hin, hex⟩ := id C0
  have hK := hG.1
  have hS : va_S A s.heap s.heap [] := va_S.rf
  have hl := lv_entry ([.ref h0, .int x1, .int x2]) (n := 4) (Nat.le_of_ble_eq_true rfl)
  rw [lg_entry_eq]
  generalize (lg_sl ([.ref h0, .int x1, .int x2]) ++ List.replicate (4 - (lg_sl ([.ref h0, .int x1, .int x2])).length) Slot.unset).toArray = ls at hl ⊢
  have hl : lv_has ls 4 [(0, .ref h0), (1, .int x1), (2, .int x2)] := hl
  refine lv_iconst (v := 0) hx hb dP_setWay_0 (by decide +kernel) ?_
  refine lv_istore_n (lv' := [(3, .int 0), (0, .ref h0), (1, .int x1), (2, .int x2)]) hx hb dP_setWay_1 rfl hl (by decide) rfl (fun ls hl => ?_)
  obtain ⟨n9, hw⟩ := hw
  exact k_P_setWay_j2 C0  n9 _ _ _ _ _ _ _ _ hM hS (lv_sub hl [1, 2, 3, 0] rfl) hw
abbrev r_P_wouldBeAsked : Room := { frames := 0, cells := 0, slots := 0, locals := 0 }
def w_P_wouldBeAsked_j31 (e0 : Nat) (post : Int32 → zM → Prop) (M : zM) : Prop := post 0 M
abbrev J_P_wouldBeAsked_31 (p : Program) (l : Launch) (e : Env) (s : State) (m : MethodId) (args : Array Value) (below : List Frame) (meth : Method) (c : Code) (D : va_G) (tc : Nat → ClassId) (A : Nat → Prop) (Q : State → Prop) (K : zM → Prop) : Prop := ∀ (M : zM) (H : Heap) (locs : List Loc) (ls : Array Slot), zP D vwCl tc A M H → va_S A s.heap H locs → lv_has ls 3 [] → K M → W p l e (r_P_wouldBeAsked) s m args below meth c H locs 0 0 Q (F0 m 31 ls [])
set_option maxHeartbeats 4000000 in
set_option maxRecDepth 100000 in
theorem k_P_wouldBeAsked_j31 {p : Program} {l : Launch} {e : Env} {s : State} {m : MethodId} {args : Array Value} {below : List Frame} {meth : Method} {c : Code} {D : va_G} {tc : Nat → ClassId} {A : Nat → Prop} {post : Int32 → zM → Prop} (C0 : zC R_P cP_wouldBeAsked 3 (some .boolean) "wouldBeAsked" D tc A p l s m args meth c) : J_P_wouldBeAsked_31 p l e s m args below meth c D tc A (MQ below (va_Qi post (zB D tc A) A) args s 0 0 A) (w_P_wouldBeAsked_j31 (tc 9) post) := by
  obtain ⟨hx, hb, hml, hr, hown, htb, hlk, hA, hG, hin, hex⟩ := id C0
  have hK := hG.1
  intro M H locs ls hM hS hl hw
  refine lv_iconst (v := 0) hx hb dP_wouldBeAsked_31 (by decide +kernel) ?_
  exact W.zret hx hb hr rfl (fun t ht hW => ⟨⟨_, _, rfl, hw, zB_of ht hM⟩, hS.F ht⟩) hS.2.2 dP_wouldBeAsked_32
def w_P_wouldBeAsked_j27 (e0 : Nat) (post : Int32 → zM → Prop) (M : zM) : Prop := post 1 M
abbrev J_P_wouldBeAsked_27 (p : Program) (l : Launch) (e : Env) (s : State) (m : MethodId) (args : Array Value) (below : List Frame) (meth : Method) (c : Code) (D : va_G) (tc : Nat → ClassId) (A : Nat → Prop) (Q : State → Prop) (K : zM → Prop) : Prop := ∀ (M : zM) (H : Heap) (locs : List Loc) (ls : Array Slot), zP D vwCl tc A M H → va_S A s.heap H locs → lv_has ls 3 [] → K M → W p l e (r_P_wouldBeAsked) s m args below meth c H locs 0 0 Q (F0 m 27 ls [])
set_option maxHeartbeats 4000000 in
set_option maxRecDepth 100000 in
theorem k_P_wouldBeAsked_j27 {p : Program} {l : Launch} {e : Env} {s : State} {m : MethodId} {args : Array Value} {below : List Frame} {meth : Method} {c : Code} {D : va_G} {tc : Nat → ClassId} {A : Nat → Prop} {post : Int32 → zM → Prop} (C0 : zC R_P cP_wouldBeAsked 3 (some .boolean) "wouldBeAsked" D tc A p l s m args meth c) : J_P_wouldBeAsked_27 p l e s m args below meth c D tc A (MQ below (va_Qi post (zB D tc A) A) args s 0 0 A) (w_P_wouldBeAsked_j27 (tc 9) post) := by
  obtain ⟨hx, hb, hml, hr, hown, htb, hlk, hA, hG, hin, hex⟩ := id C0
  have hK := hG.1
  intro M H locs ls hM hS hl hw
  refine lv_iconst (v := 1) hx hb dP_wouldBeAsked_27 (by decide +kernel) ?_
  refine lv_goto (tgt := 32) hx hb dP_wouldBeAsked_28 (by decide) ?_
  exact W.zret hx hb hr rfl (fun t ht hW => ⟨⟨_, _, rfl, hw, zB_of ht hM⟩, hS.F ht⟩) hS.2.2 dP_wouldBeAsked_32
def w_P_wouldBeAsked (e0 : Nat) (post : Int32 → zM → Prop) (M : zM) (h0 : Nat) (x1 : Int32) (x2 : Int32) : Prop := wGI M h0 3 0 (fun v1 => ((v1 = x1) → wGI M h0 3 4 (fun v5 => ((v5 = 0) → w_P_wouldBeAsked_j27 e0 post M) ∧ (¬ (v5 = 0) → ((x2 = 0) → w_P_wouldBeAsked_j31 e0 post M) ∧ (¬ (x2 = 0) → wGI M h0 3 4 (fun v9 => ((v9 = 1) → w_P_wouldBeAsked_j27 e0 post M) ∧ (¬ (v9 = 1) → w_P_wouldBeAsked_j31 e0 post M)))))) ∧ (¬ (v1 = x1) → w_P_wouldBeAsked_j31 e0 post M))
set_option maxHeartbeats 4000000 in
set_option maxRecDepth 100000 in
theorem k_P_wouldBeAsked {l : Launch} {D : va_G} {tc : Nat → ClassId} {A : Nat → Prop} {post : Int32 → zM → Prop} {M : zM} {h0 : Nat} {x1 : Int32} {x2 : Int32} (hw : w_P_wouldBeAsked (tc 9) post M h0 x1 x2) : Met l yP_wouldBeAsked (.code yP_wouldBeAsked cP_wouldBeAsked 3 (some .boolean) :: zTB) r_P_wouldBeAsked (va_Pc [.ref h0, .int x1, .int x2] (zI D tc A M)) (va_Qi post (zB D tc A) A) 0 0 A := by
  refine Met.ofW (cc := cP_wouldBeAsked) (maxL := 3) (ret := (some .boolean)) (by decide +kernel) rfl ?_
  intro p e s m args below meth c s₁ B hml hv
  obtain ⟨rfl, hA, hM, hG⟩ := hv
  have C0 := zC_of (D := D) (tc := tc) (A := A) B hml (zC_ex B) hA hG
  obtain ⟨hx, hb, hml, hr, hown, htb, hlk, hA, hG, hin, hex⟩ := id C0
  have hK := hG.1
  have hS : va_S A s.heap s.heap [] := va_S.rf
  have hl := lv_entry ([.ref h0, .int x1, .int x2]) (n := 3) (Nat.le_of_ble_eq_true rfl)
  rw [lg_entry_eq]
  generalize (lg_sl ([.ref h0, .int x1, .int x2]) ++ List.replicate (3 - (lg_sl ([.ref h0, .int x1, .int x2])).length) Slot.unset).toArray = ls at hl ⊢
  have hl : lv_has ls 3 [(0, .ref h0), (1, .int x1), (2, .int x2)] := hl
  refine lv_aload_n hx hb dP_wouldBeAsked_0 rfl (lv_at hl 0 rfl) ?_
  obtain ⟨fs2, v1, h3, e4, hw⟩ := hw
  refine z_get hx hb htb inw_P hown hK hM h3 rfl 0 (by decide) (htb _ t_339) (fun _ h9 => h9) e4 dP_wouldBeAsked_1 ?_
  refine lv_iload_n hx hb dP_wouldBeAsked_4 rfl (lv_at hl 1 rfl) ?_
  refine lv_icmp_ne (tgt := 31) hx hb dP_wouldBeAsked_5 (by decide) (fun hq => ?_) (fun hq => ?_)
  · have hw := hw.2 hq
    exact k_P_wouldBeAsked_j31 C0  _  _ _ _ hM hS (lv_sub hl [] rfl) hw
  · have hw := hw.1 hq
    refine lv_aload_n hx hb dP_wouldBeAsked_8 rfl (lv_at hl 0 rfl) ?_
    obtain ⟨fs6, v5, h7, (tc 8), hw⟩ := hw
    refine z_get hx hb htb inw_P hown hK hM h7 rfl 4 (by decide) (htb _ t_344) (fun _ h9 => h9) (tc 8) dP_wouldBeAsked_9 ?_
    refine lv_if_eq (tgt := 27) hx hb dP_wouldBeAsked_12 (by decide) (fun hq => ?_) (fun hq => ?_)
    · have hw := hw.1 hq
      exact k_P_wouldBeAsked_j27 C0  _  _ _ _ hM hS (lv_sub hl [] rfl) hw
    · have hw := hw.2 hq
      refine lv_iload_n hx hb dP_wouldBeAsked_15 rfl (lv_at hl 2 rfl) ?_
      refine lv_if_eq (tgt := 31) hx hb dP_wouldBeAsked_16 (by decide) (fun hq => ?_) (fun hq => ?_)
      · have hw := hw.1 hq
        exact k_P_wouldBeAsked_j31 C0  _  _ _ _ hM hS (lv_sub hl [] rfl) hw
      · have hw := hw.2 hq
        refine lv_aload_n hx hb dP_wouldBeAsked_19 rfl (lv_at hl 0 rfl) ?_
        obtain ⟨fs10, v9, h11, e12, hw⟩ := hw
        refine z_get hx hb htb inw_P hown hK hM h11 rfl 4 (by decide) (htb _ t_344) (fun _ h9 => h9) e12 dP_wouldBeAsked_20 ?_
        refine lv_iconst (v := 1) hx hb dP_wouldBeAsked_23 (by decide +kernel) ?_
        refine lv_icmp_ne (tgt := 31) hx hb dP_wouldBeAsked_24 (by decide) (fun hq => ?_) (fun hq => ?_)
        · have hw := hw.2 hq
          exact k_P_wouldBeAsked_j31 C0  _  _ _ _ hM hS (lv_sub hl [] rfl) hw
        · have hw := hw.1 hq
          exact k_P_wouldBeAsked_j27 C0  _  _ _ _ hM hS (lv_sub hl [] rfl) hw
abbrev r_L_init (mc ms : Nat) : Room := { frames := 1, cells := mc, slots := ms, locals := 40 }
def w_L_init (e0 : Nat) (post : zM → Prop) (mc : Nat) (ms : Nat) (M : zM) (h0 : Nat) (x1 : Int32) (x2 : Int32) (x3 : Int32) (x4 : Int32) (x5 : Int32) : Prop := wPF M h0 1 0 (.int x1) (fun M4 => (narrow .boolean (.int x2) = .int x2 ∧ fits .boolean (.int x2) = true) ∧ wPF M4 h0 1 1 (.int x2) (fun M8 => wPF M8 h0 1 2 (.int x3) (fun M12 => wPF M12 h0 1 3 (.int x4) (fun M16 => wPF M16 h0 1 4 (.int x5) (fun M20 => wPF M20 h0 1 7 (.int 0) (fun M24 => wNA M24 0 60 60 4 mc ms (fun q25 M31 => wPF M31 h0 1 5 (.ref q25) (fun M35 => wNA M35 0 60 60 4 (mc - 1) (ms - 60) (fun q36 M42 => wPF M42 h0 1 6 (.ref q36) (fun M46 => wGR M46 h0 1 5 (fun v47 => w_YA_fill e0 (fun M51 => wGR M51 h0 1 6 (fun v52 => w_YA_fill e0 (fun M56 => post M56) M51 v52 (-2))) M46 v47 (-2))))))))))))
set_option maxHeartbeats 4000000 in
set_option maxRecDepth 100000 in
theorem k_L_init {l : Launch} {D : va_G} {tc : Nat → ClassId} {A : Nat → Prop} {mc ms : Nat} {post : zM → Prop} {M : zM} {h0 : Nat} {x1 : Int32} {x2 : Int32} {x3 : Int32} {x4 : Int32} {x5 : Int32} (hw : w_L_init (tc 9) post mc ms M h0 x1 x2 x3 x4 x5) : Met l yL_init (.code yL_init cL_init 6 none :: zTB) (r_L_init mc ms) (va_Pc [.ref h0, .int x1, .int x2, .int x3, .int x4, .int x5] (zI D tc A M)) (va_Qv post (zB D tc A) A) mc ms A := by
  refine Met.ofW (cc := cL_init) (maxL := 6) (ret := none) (by decide +kernel) rfl ?_
  intro p e s m args below meth c s₁ B hml hv
  obtain ⟨rfl, hA, hM, hG⟩ := hv
  have C0 := zC_of (D := D) (tc := tc) (A := A) B hml (zC_ex B) hA hG
  obtain ⟨hx, hb, hml, hr, hown, htb, hlk, hA, hG, hin, hex⟩ := id C0
  have hK := hG.1
  have hS : va_S A s.heap s.heap [] := va_S.rf
  have hl := lv_entry ([.ref h0, .int x1, .int x2, .int x3, .int x4, .int x5]) (n := 6) (Nat.le_of_ble_eq_true rfl)
  rw [lg_entry_eq]
  generalize (lg_sl ([.ref h0, .int x1, .int x2, .int x3, .int x4, .int x5]) ++ List.replicate (6 - (lg_sl ([.ref h0, .int x1, .int x2, .int x3, .int x4, .int x5])).length) Slot.unset).toArray = ls at hl ⊢
  have hl : lv_has ls 6 [(0, .ref h0), (1, .int x1), (2, .int x2), (3, .int x3), (4, .int x4), (5, .int x5)] := hl
  refine lv_aload_n hx hb dL_init_0 rfl (lv_at hl 0 rfl) ?_
  refine W.objInit hx hb hown (htb _ t_420) (htb _ t_29) (htb _ t_30) rfl (by rw [hml]; exact hl.1) rfl dL_init_1 (Nat.le_of_ble_eq_true rfl) (Nat.le_of_ble_eq_true rfl) ?_
  refine lv_aload_n hx hb dL_init_4 rfl (lv_at hl 0 rfl) ?_
  refine lv_iload_n hx hb dL_init_5 rfl (lv_at hl 1 rfl) ?_
  obtain ⟨fs1, h2, hl3, hw⟩ := hw
  refine z_putF (ty := .int) hx hb htb inw_L ty_L tyok_L nmok_L hown hK hM hS h2 rfl 0 (by decide) (htb _ t_424) (fun _ h9 => h9) rfl hin rfl (by decide +kernel) rfl rfl hl3 dL_init_6 (fun H locs hM hS => ?_)
  refine lv_aload_n hx hb dL_init_9 rfl (lv_at hl 0 rfl) ?_
  refine lv_iload_n hx hb dL_init_10 rfl (lv_at hl 2 rfl) ?_
  obtain ⟨⟨hnb, hfb⟩, hw⟩ := hw
  obtain ⟨fs5, h6, hl7, hw⟩ := hw
  refine z_putF (ty := .boolean) hx hb htb inw_L ty_L tyok_L nmok_L hown hK hM hS h6 rfl 1 (by decide) (htb _ t_426) (fun _ h9 => h9) rfl hin rfl (by decide +kernel) hnb hfb hl7 dL_init_11 (fun H locs hM hS => ?_)
  refine lv_aload_n hx hb dL_init_14 rfl (lv_at hl 0 rfl) ?_
  refine lv_iload_n hx hb dL_init_15 rfl (lv_at hl 3 rfl) ?_
  obtain ⟨fs9, h10, hl11, hw⟩ := hw
  refine z_putF (ty := .int) hx hb htb inw_L ty_L tyok_L nmok_L hown hK hM hS h10 rfl 2 (by decide) (htb _ t_428) (fun _ h9 => h9) rfl hin rfl (by decide +kernel) rfl rfl hl11 dL_init_16 (fun H locs hM hS => ?_)
  refine lv_aload_n hx hb dL_init_19 rfl (lv_at hl 0 rfl) ?_
  refine lv_iload hx hb dL_init_20 (lv_at hl 4 rfl) ?_
  obtain ⟨fs13, h14, hl15, hw⟩ := hw
  refine z_putF (ty := .int) hx hb htb inw_L ty_L tyok_L nmok_L hown hK hM hS h14 rfl 3 (by decide) (htb _ t_430) (fun _ h9 => h9) rfl hin rfl (by decide +kernel) rfl rfl hl15 dL_init_22 (fun H locs hM hS => ?_)
  refine lv_aload_n hx hb dL_init_25 rfl (lv_at hl 0 rfl) ?_
  refine lv_iload hx hb dL_init_26 (lv_at hl 5 rfl) ?_
  obtain ⟨fs17, h18, hl19, hw⟩ := hw
  refine z_putF (ty := .int) hx hb htb inw_L ty_L tyok_L nmok_L hown hK hM hS h18 rfl 4 (by decide) (htb _ t_432) (fun _ h9 => h9) rfl hin rfl (by decide +kernel) rfl rfl hl19 dL_init_28 (fun H locs hM hS => ?_)
  refine lv_aload_n hx hb dL_init_31 rfl (lv_at hl 0 rfl) ?_
  refine lv_iconst (v := 0) hx hb dL_init_32 (by decide +kernel) ?_
  obtain ⟨fs21, h22, hl23, hw⟩ := hw
  refine z_put (ty := .int) hx hb htb inw_L ty_L tyok_L nmok_L hown hK hM hS h22 rfl 7 (by decide) (htb _ t_436) (fun _ h9 => h9) rfl (by decide +kernel) rfl rfl hl23 dL_init_33 (fun H locs hM hS => ?_)
  refine lv_aload_n hx hb dL_init_36 rfl (lv_at hl 0 rfl) ?_
  refine lv_bipush (v := 60) hx hb dL_init_37 (by decide +kernel) ?_
  obtain ⟨h26, h27, h28, h29, hN9, hw⟩ := hw
  refine z_newa (a0 := (60, .inl (fun _ => 0))) hx hb (htb _ t_363) rfl hK hM hS hA 0 0 rfl (fun _ h => h) (fun _ => rfl) h26 hN9 h27 (show 0 + 1 ≤ mc by omega) (show 0 + 60 ≤ ms by omega) dL_init_39 (fun q25 H hn30 hM hS => ?_)
  have hw := hw q25 hn30
  obtain ⟨fs32, h33, hl34, hw⟩ := hw
  refine z_putF (ty := (.array .int)) hx hb htb inw_L ty_L tyok_L nmok_L hown hK hM hS h33 rfl 5 (by decide) (htb _ t_434) (fun _ h9 => h9) rfl hin rfl (by decide +kernel) rfl rfl hl34 dL_init_41 (fun H locs hM hS => ?_)
  refine lv_aload_n hx hb dL_init_44 rfl (lv_at hl 0 rfl) ?_
  refine lv_bipush (v := 60) hx hb dL_init_45 (by decide +kernel) ?_
  obtain ⟨h37, h38, h39, h40, hN9, hw⟩ := hw
  refine z_newa (a0 := (60, .inl (fun _ => 0))) hx hb (htb _ t_363) rfl hK hM hS hA 0 0 rfl (fun _ h => h) (fun _ => rfl) h37 hN9 h38 (show (0 + 1) + 1 ≤ mc by omega) (show (0 + 60) + 60 ≤ ms by omega) dL_init_47 (fun q36 H hn41 hM hS => ?_)
  have hw := hw q36 hn41
  obtain ⟨fs43, h44, hl45, hw⟩ := hw
  refine z_putF (ty := (.array .int)) hx hb htb inw_L ty_L tyok_L nmok_L hown hK hM hS h44 rfl 6 (by decide) (htb _ t_435) (fun _ h9 => h9) rfl hin rfl (by decide +kernel) rfl rfl hl45 dL_init_49 (fun H locs hM hS => ?_)
  refine lv_aload_n hx hb dL_init_52 rfl (lv_at hl 0 rfl) ?_
  obtain ⟨fs48, v47, h49, e50, hw⟩ := hw
  refine z_get hx hb htb inw_L hown hK hM h49 rfl 5 (by decide) (htb _ t_434) (fun _ h9 => h9) e50 dL_init_53 ?_
  refine lv_bipush (v := (-2)) hx hb dL_init_56 (by decide +kernel) ?_
  refine va_callv (va_runS (As := [.ref v47, .int (-2)]) (rest := []) ⟨hx, hb, hml, hown, htb⟩ (k_YA_fill (l := l) (D := D) (tc := tc) (A := A) hw) (cw_L_38 htb ⟨Nat.le_of_ble_eq_true rfl, Nat.le_of_ble_eq_true rfl⟩) (z_preS hG hA hS hM) rfl rfl hl.1 rfl (lv_room (Nat.le_of_ble_eq_true rfl)) dL_init_58 ⟨show ((0 + 1) + 1) + 0 ≤ mc by omega, show ((0 + 60) + 60) + 0 ≤ ms by omega⟩) hS (fun _ _ h => h) (fun _ h => h) (fun M51 t H locs ht hvm hw hB _ _ hS => ?_)
  have hM : zP D vwCl tc A M51 H := by rw [← ht]; exact hB
  refine lv_aload_n hx hb dL_init_61 rfl (lv_at hl 0 rfl) ?_
  obtain ⟨fs53, v52, h54, e55, hw⟩ := hw
  refine z_get hx hb htb inw_L hown hK hM h54 rfl 6 (by decide) (htb _ t_435) (fun _ h9 => h9) e55 dL_init_62 ?_
  refine lv_bipush (v := (-2)) hx hb dL_init_65 (by decide +kernel) ?_
  refine va_callv (va_runS (As := [.ref v52, .int (-2)]) (rest := []) ⟨hx, hb, hml, hown, htb⟩ (k_YA_fill (l := l) (D := D) (tc := tc) (A := A) hw) (cw_L_38 htb ⟨Nat.le_of_ble_eq_true rfl, Nat.le_of_ble_eq_true rfl⟩) (z_preS hG hA hS hM) rfl rfl hl.1 rfl (lv_room (Nat.le_of_ble_eq_true rfl)) dL_init_67 ⟨show ((0 + 1) + 1) + 0 ≤ mc by omega, show ((0 + 60) + 60) + 0 ≤ ms by omega⟩) hS (fun _ _ h => h) (fun _ h => h) (fun M56 t H locs ht hvm hw hB _ _ hS => ?_)
  have hM : zP D vwCl tc A M56 H := by rw [← ht]; exact hB
  refine W.widen (k := mc) (n := ms) (by omega) (by omega) ?_
  exact W.vret hx hb hr (fun t ht hW => ⟨⟨_, rfl, hw, zB_of ht hM⟩, hS.F ht⟩) hS.2.2 dL_init_70
abbrev r_P_reachNow : Room := { frames := 0, cells := 0, slots := 0, locals := 0 }
def w_P_reachNow_j2 (e0 : Nat) (post : Int32 → zM → Prop) : Nat → zM → Nat → Int32 → Prop
  | 0, _, _, _ => False
  | n + 1, M, l0, l1 => wGI M l0 3 3 (fun v1 => ((v1 ≤ l1) → post (-1) M) ∧ (¬ (v1 ≤ l1) → ((3 ≤ l1) → post (-1) M) ∧ (¬ (3 ≤ l1) → wGR M l0 3 2 (fun v5 => wLI M v5 1 l1 (fun v11 => ((v11 = 0) → w_P_reachNow_j2 e0 post n M l0 (l1 + 1)) ∧ (¬ (v11 = 0) → wGR M l0 3 1 (fun v15 => wLI M v15 0 l1 (fun v21 => post ((200 * l1) + v21) M))))))))
abbrev J_P_reachNow_2 (p : Program) (l : Launch) (e : Env) (s : State) (m : MethodId) (args : Array Value) (below : List Frame) (meth : Method) (c : Code) (D : va_G) (tc : Nat → ClassId) (A : Nat → Prop) (Q : State → Prop) (K : zM → Nat → Int32 → Prop) : Prop := ∀ (M : zM) (l0 : Nat) (l1 : Int32) (H : Heap) (locs : List Loc) (ls : Array Slot), zP D vwCl tc A M H → va_S A s.heap H locs → lv_has ls 2 [(0, .ref l0), (1, .int l1)] → K M l0 l1 → W p l e (r_P_reachNow) s m args below meth c H locs 0 0 Q (F0 m 2 ls [])
set_option maxHeartbeats 4000000 in
set_option maxRecDepth 100000 in
theorem k_P_reachNow_j2 {p : Program} {l : Launch} {e : Env} {s : State} {m : MethodId} {args : Array Value} {below : List Frame} {meth : Method} {c : Code} {D : va_G} {tc : Nat → ClassId} {A : Nat → Prop} {post : Int32 → zM → Prop} (C0 : zC R_P cP_reachNow 2 (some .int) "reachNow" D tc A p l s m args meth c) : ∀ n : Nat, J_P_reachNow_2 p l e s m args below meth c D tc A (MQ below (va_Qi post (zB D tc A) A) args s 0 0 A) (w_P_reachNow_j2 (tc 9) post n) := by
  obtain ⟨hx, hb, hml, hr, hown, htb, hlk, hA, hG, hin, hex⟩ := id C0
  have hK := hG.1
  intro n
  induction n with
  | zero => intro M l0 l1 H locs ls hM hS hl hw; exact hw.elim
  | succ n ih =>
    intro M l0 l1 H locs ls hM hS hl hw
    refine lv_iload_n hx hb dP_reachNow_2 rfl (lv_at hl 1 rfl) ?_
    refine lv_aload_n hx hb dP_reachNow_3 rfl (lv_at hl 0 rfl) ?_
    obtain ⟨fs2, v1, h3, e4, hw⟩ := hw
    refine z_get hx hb htb inw_P hown hK hM h3 rfl 3 (by decide) (htb _ t_342) (fun _ h9 => h9) e4 dP_reachNow_4 ?_
    refine lv_icmp_ge (tgt := 43) hx hb dP_reachNow_7 (by decide) (fun hq => ?_) (fun hq => ?_)
    · have hw := hw.1 hq
      refine lv_iconst (v := (-1)) hx hb dP_reachNow_43 (by decide +kernel) ?_
      exact W.iret hx hb hr (fun t ht hW => ⟨⟨_, _, rfl, hw, zB_of ht hM⟩, hS.F ht⟩) hS.2.2 dP_reachNow_44
    · have hw := hw.2 hq
      refine lv_iload_n hx hb dP_reachNow_10 rfl (lv_at hl 1 rfl) ?_
      refine lv_iconst (v := 3) hx hb dP_reachNow_11 (by decide +kernel) ?_
      refine lv_icmp_ge (tgt := 43) hx hb dP_reachNow_12 (by decide) (fun hq => ?_) (fun hq => ?_)
      · have hw := hw.1 hq
        refine lv_iconst (v := (-1)) hx hb dP_reachNow_43 (by decide +kernel) ?_
        exact W.iret hx hb hr (fun t ht hW => ⟨⟨_, _, rfl, hw, zB_of ht hM⟩, hS.F ht⟩) hS.2.2 dP_reachNow_44
      · have hw := hw.2 hq
        refine lv_aload_n hx hb dP_reachNow_15 rfl (lv_at hl 0 rfl) ?_
        obtain ⟨fs6, v5, h7, (tc 8), hw⟩ := hw
        refine z_get hx hb htb inw_P hown hK hM h7 rfl 2 (by decide) (htb _ t_341) (fun _ h9 => h9) (tc 8) dP_reachNow_16 ?_
        refine lv_iload_n hx hb dP_reachNow_19 rfl (lv_at hl 1 rfl) ?_
        obtain ⟨n9, f10, v11, h12, hi13, e14, hw⟩ := hw
        refine z_zald hx hb hK hM 1 1 h12 rfl hi13 e14 dP_reachNow_20 ?_
        refine lv_if_eq (tgt := 37) hx hb dP_reachNow_21 (by decide) (fun hq => ?_) (fun hq => ?_)
        · have hw := hw.1 hq
          refine lv_iinc (v := (l1 + 1)) (lv' := [(1, .int (l1 + 1)), (0, .ref l0)]) hx hb dP_reachNow_37 hl (k := 1) rfl rfl (by decide) rfl (fun ls hl => ?_)
          refine lv_goto (tgt := 2) hx hb dP_reachNow_40 (by decide) ?_
          exact ih _ _ _ _ _ _ hM hS (lv_sub hl [1, 0] rfl) hw
        · have hw := hw.2 hq
          refine lv_sipush (v := 200) hx hb dP_reachNow_24 (by decide +kernel) ?_
          refine lv_iload_n hx hb dP_reachNow_27 rfl (lv_at hl 1 rfl) ?_
          refine lv_imul hx hb dP_reachNow_28 ?_
          refine lv_aload_n hx hb dP_reachNow_29 rfl (lv_at hl 0 rfl) ?_
          obtain ⟨fs16, v15, h17, e18, hw⟩ := hw
          refine z_get hx hb htb inw_P hown hK hM h17 rfl 1 (by decide) (htb _ t_340) (fun _ h9 => h9) e18 dP_reachNow_30 ?_
          refine lv_iload_n hx hb dP_reachNow_33 rfl (lv_at hl 1 rfl) ?_
          obtain ⟨n19, f20, v21, h22, hi23, e24, hw⟩ := hw
          refine z_iald hx hb hK hM 0 0 h22 rfl hi23 e24 dP_reachNow_34 ?_
          refine lv_iadd hx hb dP_reachNow_35 ?_
          exact W.iret hx hb hr (fun t ht hW => ⟨⟨_, _, rfl, hw, zB_of ht hM⟩, hS.F ht⟩) hS.2.2 dP_reachNow_36
def w_P_reachNow (e0 : Nat) (post : Int32 → zM → Prop) (M : zM) (h0 : Nat) : Prop := ∃ n, w_P_reachNow_j2 e0 post n M h0 0
set_option maxHeartbeats 4000000 in
set_option maxRecDepth 100000 in
theorem k_P_reachNow {l : Launch} {D : va_G} {tc : Nat → ClassId} {A : Nat → Prop} {post : Int32 → zM → Prop} {M : zM} {h0 : Nat} (hw : w_P_reachNow (tc 9) post M h0) : Met l yP_reachNow (.code yP_reachNow cP_reachNow 2 (some .int) :: zTB) r_P_reachNow (va_Pc [.ref h0] (zI D tc A M)) (va_Qi post (zB D tc A) A) 0 0 A := by
  refine Met.ofW (cc := cP_reachNow) (maxL := 2) (ret := (some .int)) (by decide +kernel) rfl ?_
  intro p e s m args below meth c s₁ B hml hv
  obtain ⟨rfl, hA, hM, hG⟩ := hv
  have C0 := zC_of (D := D) (tc := tc) (A := A) B hml (zC_ex B) hA hG
  obtain ⟨hx, hb, hml, hr, hown, htb, hlk, hA, hG, hin, hex⟩ := id C0
  have hK := hG.1
  have hS : va_S A s.heap s.heap [] := va_S.rf
  have hl := lv_entry ([.ref h0]) (n := 2) (Nat.le_of_ble_eq_true rfl)
  rw [lg_entry_eq]
  generalize (lg_sl ([.ref h0]) ++ List.replicate (2 - (lg_sl ([.ref h0])).length) Slot.unset).toArray = ls at hl ⊢
  have hl : lv_has ls 2 [(0, .ref h0)] := hl
  refine lv_iconst (v := 0) hx hb dP_reachNow_0 (by decide +kernel) ?_
  refine lv_istore_n (lv' := [(1, .int 0), (0, .ref h0)]) hx hb dP_reachNow_1 rfl hl (by decide) rfl (fun ls hl => ?_)
  obtain ⟨n9, hw⟩ := hw
  exact k_P_reachNow_j2 C0  n9 _ _ _ _ _ _ hM hS (lv_sub hl [1, 0] rfl) hw
abbrev r_L_ask : Room := { frames := 0, cells := 0, slots := 0, locals := 0 }
def w_L_ask (e0 : Nat) (post : zM → Prop) (M : zM) (h0 : Nat) (x1 : Int32) (x2 : Int32) : Prop := ((x1 < 0) → post M) ∧ (¬ (x1 < 0) → wGR M h0 1 5 (fun v1 => wAL M v1 0 (fun v6 => ((v6 ≤ x1) → post M) ∧ (¬ (v6 ≤ x1) → wGR M h0 1 5 (fun v9 => wSI M v9 0 x1 x2 (fun M17 => post M17))))))
set_option maxHeartbeats 4000000 in
set_option maxRecDepth 100000 in
theorem k_L_ask {l : Launch} {D : va_G} {tc : Nat → ClassId} {A : Nat → Prop} {post : zM → Prop} {M : zM} {h0 : Nat} {x1 : Int32} {x2 : Int32} (hw : w_L_ask (tc 9) post M h0 x1 x2) : Met l yL_ask (.code yL_ask cL_ask 3 none :: zTB) r_L_ask (va_Pc [.ref h0, .int x1, .int x2] (zI D tc A M)) (va_Qv post (zB D tc A) A) 0 0 A := by
  refine Met.ofW (cc := cL_ask) (maxL := 3) (ret := none) (by decide +kernel) rfl ?_
  intro p e s m args below meth c s₁ B hml hv
  obtain ⟨rfl, hA, hM, hG⟩ := hv
  have C0 := zC_of (D := D) (tc := tc) (A := A) B hml (zC_ex B) hA hG
  obtain ⟨hx, hb, hml, hr, hown, htb, hlk, hA, hG, hin, hex⟩ := id C0
  have hK := hG.1
  have hS : va_S A s.heap s.heap [] := va_S.rf
  have hl := lv_entry ([.ref h0, .int x1, .int x2]) (n := 3) (Nat.le_of_ble_eq_true rfl)
  rw [lg_entry_eq]
  generalize (lg_sl ([.ref h0, .int x1, .int x2]) ++ List.replicate (3 - (lg_sl ([.ref h0, .int x1, .int x2])).length) Slot.unset).toArray = ls at hl ⊢
  have hl : lv_has ls 3 [(0, .ref h0), (1, .int x1), (2, .int x2)] := hl
  refine lv_iload_n hx hb dL_ask_0 rfl (lv_at hl 1 rfl) ?_
  refine lv_if_lt (tgt := 20) hx hb dL_ask_1 (by decide) (fun hq => ?_) (fun hq => ?_)
  · have hw := hw.1 hq
    exact W.vret hx hb hr (fun t ht hW => ⟨⟨_, rfl, hw, zB_of ht hM⟩, hS.F ht⟩) hS.2.2 dL_ask_20
  · have hw := hw.2 hq
    refine lv_iload_n hx hb dL_ask_4 rfl (lv_at hl 1 rfl) ?_
    refine lv_aload_n hx hb dL_ask_5 rfl (lv_at hl 0 rfl) ?_
    obtain ⟨fs2, v1, h3, e4, hw⟩ := hw
    refine z_get hx hb htb inw_L hown hK hM h3 rfl 5 (by decide) (htb _ t_434) (fun _ h9 => h9) e4 dL_ask_6 ?_
    obtain ⟨w5, v6, h7, (tc 8), hw⟩ := hw
    refine z_alen hx hb hK hM 0 0 h7 rfl (tc 8) dL_ask_9 ?_
    refine lv_icmp_ge (tgt := 20) hx hb dL_ask_10 (by decide) (fun hq => ?_) (fun hq => ?_)
    · have hw := hw.1 hq
      exact W.vret hx hb hr (fun t ht hW => ⟨⟨_, rfl, hw, zB_of ht hM⟩, hS.F ht⟩) hS.2.2 dL_ask_20
    · have hw := hw.2 hq
      refine lv_aload_n hx hb dL_ask_13 rfl (lv_at hl 0 rfl) ?_
      obtain ⟨fs10, v9, h11, e12, hw⟩ := hw
      refine z_get hx hb htb inw_L hown hK hM h11 rfl 5 (by decide) (htb _ t_434) (fun _ h9 => h9) e12 dL_ask_14 ?_
      refine lv_iload_n hx hb dL_ask_17 rfl (lv_at hl 1 rfl) ?_
      refine lv_iload_n hx hb dL_ask_18 rfl (lv_at hl 2 rfl) ?_
      obtain ⟨n13, f14, h15, hi16, hw⟩ := hw
      refine z_iast hx hb hK hM hS 0 0 h15 rfl hi16 dL_ask_19 (fun H locs hM hS => ?_)
      exact W.vret hx hb hr (fun t ht hW => ⟨⟨_, rfl, hw, zB_of ht hM⟩, hS.F ht⟩) hS.2.2 dL_ask_20
abbrev r_L_reachOf : Room := { frames := 0, cells := 0, slots := 0, locals := 0 }
def w_L_reachOf_j22 (e0 : Nat) (post : Int32 → zM → Prop) (M : zM) : Prop := post (-2) M
abbrev J_L_reachOf_22 (p : Program) (l : Launch) (e : Env) (s : State) (m : MethodId) (args : Array Value) (below : List Frame) (meth : Method) (c : Code) (D : va_G) (tc : Nat → ClassId) (A : Nat → Prop) (Q : State → Prop) (K : zM → Prop) : Prop := ∀ (M : zM) (H : Heap) (locs : List Loc) (ls : Array Slot), zP D vwCl tc A M H → va_S A s.heap H locs → lv_has ls 2 [] → K M → W p l e (r_L_reachOf) s m args below meth c H locs 0 0 Q (F0 m 22 ls [])
set_option maxHeartbeats 4000000 in
set_option maxRecDepth 100000 in
theorem k_L_reachOf_j22 {p : Program} {l : Launch} {e : Env} {s : State} {m : MethodId} {args : Array Value} {below : List Frame} {meth : Method} {c : Code} {D : va_G} {tc : Nat → ClassId} {A : Nat → Prop} {post : Int32 → zM → Prop} (C0 : zC R_L cL_reachOf 2 (some .int) "reachOf" D tc A p l s m args meth c) : J_L_reachOf_22 p l e s m args below meth c D tc A (MQ below (va_Qi post (zB D tc A) A) args s 0 0 A) (w_L_reachOf_j22 (tc 9) post) := by
  obtain ⟨hx, hb, hml, hr, hown, htb, hlk, hA, hG, hin, hex⟩ := id C0
  have hK := hG.1
  intro M H locs ls hM hS hl hw
  refine lv_bipush (v := (-2)) hx hb dL_reachOf_22 (by decide +kernel) ?_
  exact W.iret hx hb hr (fun t ht hW => ⟨⟨_, _, rfl, hw, zB_of ht hM⟩, hS.F ht⟩) hS.2.2 dL_reachOf_24
def w_L_reachOf (e0 : Nat) (post : Int32 → zM → Prop) (M : zM) (h0 : Nat) (x1 : Int32) : Prop := ((x1 < 0) → w_L_reachOf_j22 e0 post M) ∧ (¬ (x1 < 0) → wGR M h0 1 5 (fun v1 => wAL M v1 0 (fun v6 => ((v6 ≤ x1) → w_L_reachOf_j22 e0 post M) ∧ (¬ (v6 ≤ x1) → wGR M h0 1 5 (fun v9 => wLI M v9 0 x1 (fun v15 => post v15 M))))))
set_option maxHeartbeats 4000000 in
set_option maxRecDepth 100000 in
theorem k_L_reachOf {l : Launch} {D : va_G} {tc : Nat → ClassId} {A : Nat → Prop} {post : Int32 → zM → Prop} {M : zM} {h0 : Nat} {x1 : Int32} (hw : w_L_reachOf (tc 9) post M h0 x1) : Met l yL_reachOf (.code yL_reachOf cL_reachOf 2 (some .int) :: zTB) r_L_reachOf (va_Pc [.ref h0, .int x1] (zI D tc A M)) (va_Qi post (zB D tc A) A) 0 0 A := by
  refine Met.ofW (cc := cL_reachOf) (maxL := 2) (ret := (some .int)) (by decide +kernel) rfl ?_
  intro p e s m args below meth c s₁ B hml hv
  obtain ⟨rfl, hA, hM, hG⟩ := hv
  have C0 := zC_of (D := D) (tc := tc) (A := A) B hml (zC_ex B) hA hG
  obtain ⟨hx, hb, hml, hr, hown, htb, hlk, hA, hG, hin, hex⟩ := id C0
  have hK := hG.1
  have hS : va_S A s.heap s.heap [] := va_S.rf
  have hl := lv_entry ([.ref h0, .int x1]) (n := 2) (Nat.le_of_ble_eq_true rfl)
  rw [lg_entry_eq]
  generalize (lg_sl ([.ref h0, .int x1]) ++ List.replicate (2 - (lg_sl ([.ref h0, .int x1])).length) Slot.unset).toArray = ls at hl ⊢
  have hl : lv_has ls 2 [(0, .ref h0), (1, .int x1)] := hl
  refine lv_iload_n hx hb dL_reachOf_0 rfl (lv_at hl 1 rfl) ?_
  refine lv_if_lt (tgt := 22) hx hb dL_reachOf_1 (by decide) (fun hq => ?_) (fun hq => ?_)
  · have hw := hw.1 hq
    exact k_L_reachOf_j22 C0  _  _ _ _ hM hS (lv_sub hl [] rfl) hw
  · have hw := hw.2 hq
    refine lv_iload_n hx hb dL_reachOf_4 rfl (lv_at hl 1 rfl) ?_
    refine lv_aload_n hx hb dL_reachOf_5 rfl (lv_at hl 0 rfl) ?_
    obtain ⟨fs2, v1, h3, e4, hw⟩ := hw
    refine z_get hx hb htb inw_L hown hK hM h3 rfl 5 (by decide) (htb _ t_434) (fun _ h9 => h9) e4 dL_reachOf_6 ?_
    obtain ⟨w5, v6, h7, (tc 8), hw⟩ := hw
    refine z_alen hx hb hK hM 0 0 h7 rfl (tc 8) dL_reachOf_9 ?_
    refine lv_icmp_ge (tgt := 22) hx hb dL_reachOf_10 (by decide) (fun hq => ?_) (fun hq => ?_)
    · have hw := hw.1 hq
      exact k_L_reachOf_j22 C0  _  _ _ _ hM hS (lv_sub hl [] rfl) hw
    · have hw := hw.2 hq
      refine lv_aload_n hx hb dL_reachOf_13 rfl (lv_at hl 0 rfl) ?_
      obtain ⟨fs10, v9, h11, e12, hw⟩ := hw
      refine z_get hx hb htb inw_L hown hK hM h11 rfl 5 (by decide) (htb _ t_434) (fun _ h9 => h9) e12 dL_reachOf_14 ?_
      refine lv_iload_n hx hb dL_reachOf_17 rfl (lv_at hl 1 rfl) ?_
      obtain ⟨n13, f14, v15, h16, hi17, e18, hw⟩ := hw
      refine z_iald hx hb hK hM 0 0 h16 rfl hi17 e18 dL_reachOf_18 ?_
      refine lv_goto (tgt := 24) hx hb dL_reachOf_19 (by decide) ?_
      exact W.iret hx hb hr (fun t ht hW => ⟨⟨_, _, rfl, hw, zB_of ht hM⟩, hS.F ht⟩) hS.2.2 dL_reachOf_24
abbrev r_L_hasReached : Room := { frames := 1, cells := 0, slots := 0, locals := 21 }
def w_L_hasReached (e0 : Nat) (post : Int32 → zM → Prop) (M : zM) (h0 : Nat) (x1 : Int32) : Prop := wIs M h0 1 ∧ w_L_reachOf e0 (fun r2 M1 => ((r2 < 0) → post 0 M1) ∧ (¬ (r2 < 0) → post 1 M1)) M h0 x1
set_option maxHeartbeats 4000000 in
set_option maxRecDepth 100000 in
theorem k_L_hasReached {l : Launch} {D : va_G} {tc : Nat → ClassId} {A : Nat → Prop} {post : Int32 → zM → Prop} {M : zM} {h0 : Nat} {x1 : Int32} (hw : w_L_hasReached (tc 9) post M h0 x1) : Met l yL_hasReached (.code yL_hasReached cL_hasReached 2 (some .boolean) :: zTB) r_L_hasReached (va_Pc [.ref h0, .int x1] (zI D tc A M)) (va_Qi post (zB D tc A) A) 0 0 A := by
  refine Met.ofW (cc := cL_hasReached) (maxL := 2) (ret := (some .boolean)) (by decide +kernel) rfl ?_
  intro p e s m args below meth c s₁ B hml hv
  obtain ⟨rfl, hA, hM, hG⟩ := hv
  have C0 := zC_of (D := D) (tc := tc) (A := A) B hml (zC_ex B) hA hG
  obtain ⟨hx, hb, hml, hr, hown, htb, hlk, hA, hG, hin, hex⟩ := id C0
  have hK := hG.1
  have hS : va_S A s.heap s.heap [] := va_S.rf
  have hl := lv_entry ([.ref h0, .int x1]) (n := 2) (Nat.le_of_ble_eq_true rfl)
  rw [lg_entry_eq]
  generalize (lg_sl ([.ref h0, .int x1]) ++ List.replicate (2 - (lg_sl ([.ref h0, .int x1])).length) Slot.unset).toArray = ls at hl ⊢
  have hl : lv_has ls 2 [(0, .ref h0), (1, .int x1)] := hl
  refine lv_aload_n hx hb dL_hasReached_0 rfl (lv_at hl 0 rfl) ?_
  refine lv_iload_n hx hb dL_hasReached_1 rfl (lv_at hl 1 rfl) ?_
  obtain ⟨⟨fs3, h4⟩, hw⟩ := hw
  refine va_calli (va_runV (As := [.int x1]) (rest := []) ⟨hx, hb, hml, hown, htb⟩ (k_L_reachOf (l := l) (D := D) (tc := tc) (A := A) hw) (cw_L_44 htb ⟨Nat.le_of_ble_eq_true rfl, Nat.le_of_ble_eq_true rfl⟩) (z_preV hG hA hS hM h4 rfl) rfl rfl hl.1 rfl (lv_room (Nat.le_of_ble_eq_true rfl)) dL_hasReached_2 ⟨Nat.le_refl _, Nat.le_refl _⟩) hS (fun _ _ h => h) (fun _ h => h) (fun r2 M1 t H locs ht hvm hw hB _ _ hS => ?_)
  have hM : zP D vwCl tc A M1 H := by rw [← ht]; exact hB
  refine lv_if_lt (tgt := 12) hx hb dL_hasReached_5 (by decide) (fun hq => ?_) (fun hq => ?_)
  · have hw := hw.1 hq
    refine lv_iconst (v := 0) hx hb dL_hasReached_12 (by decide +kernel) ?_
    exact W.zret hx hb hr rfl (fun t ht hW => ⟨⟨_, _, rfl, hw, zB_of ht hM⟩, hS.F ht⟩) hS.2.2 dL_hasReached_13
  · have hw := hw.2 hq
    refine lv_iconst (v := 1) hx hb dL_hasReached_8 (by decide +kernel) ?_
    refine lv_goto (tgt := 13) hx hb dL_hasReached_9 (by decide) ?_
    exact W.zret hx hb hr rfl (fun t ht hW => ⟨⟨_, _, rfl, hw, zB_of ht hM⟩, hS.F ht⟩) hS.2.2 dL_hasReached_13
abbrev r_L_hasReachedBy : Room := { frames := 2, cells := 0, slots := 0, locals := 42 }
def w_L_hasReachedBy_j29 (e0 : Nat) (post : Int32 → zM → Prop) (M : zM) : Prop := post 0 M
abbrev J_L_hasReachedBy_29 (p : Program) (l : Launch) (e : Env) (s : State) (m : MethodId) (args : Array Value) (below : List Frame) (meth : Method) (c : Code) (D : va_G) (tc : Nat → ClassId) (A : Nat → Prop) (Q : State → Prop) (K : zM → Prop) : Prop := ∀ (M : zM) (H : Heap) (locs : List Loc) (ls : Array Slot), zP D vwCl tc A M H → va_S A s.heap H locs → lv_has ls 3 [] → K M → W p l e (r_L_hasReachedBy) s m args below meth c H locs 0 0 Q (F0 m 29 ls [])
set_option maxHeartbeats 4000000 in
set_option maxRecDepth 100000 in
theorem k_L_hasReachedBy_j29 {p : Program} {l : Launch} {e : Env} {s : State} {m : MethodId} {args : Array Value} {below : List Frame} {meth : Method} {c : Code} {D : va_G} {tc : Nat → ClassId} {A : Nat → Prop} {post : Int32 → zM → Prop} (C0 : zC R_L cL_hasReachedBy 3 (some .boolean) "hasReachedBy" D tc A p l s m args meth c) : J_L_hasReachedBy_29 p l e s m args below meth c D tc A (MQ below (va_Qi post (zB D tc A) A) args s 0 0 A) (w_L_hasReachedBy_j29 (tc 9) post) := by
  obtain ⟨hx, hb, hml, hr, hown, htb, hlk, hA, hG, hin, hex⟩ := id C0
  have hK := hG.1
  intro M H locs ls hM hS hl hw
  refine lv_iconst (v := 0) hx hb dL_hasReachedBy_29 (by decide +kernel) ?_
  exact W.zret hx hb hr rfl (fun t ht hW => ⟨⟨_, _, rfl, hw, zB_of ht hM⟩, hS.F ht⟩) hS.2.2 dL_hasReachedBy_30
def w_L_hasReachedBy (e0 : Nat) (post : Int32 → zM → Prop) (M : zM) (h0 : Nat) (x1 : Int32) (x2 : Int32) : Prop := wIs M h0 1 ∧ w_L_hasReached e0 (fun r2 M1 => ((r2 = 0) → w_L_hasReachedBy_j29 e0 post M1) ∧ (¬ (r2 = 0) → wGI M1 h0 1 2 (fun v3 => wIs M1 h0 1 ∧ w_L_reachOf e0 (fun r8 M7 => (((x1 - v3) < (r8 / 10)) → w_L_hasReachedBy_j29 e0 post M7) ∧ (¬ ((x1 - v3) < (r8 / 10)) → post 1 M7)) M1 h0 x2))) M h0 x2
set_option maxHeartbeats 4000000 in
set_option maxRecDepth 100000 in
theorem k_L_hasReachedBy {l : Launch} {D : va_G} {tc : Nat → ClassId} {A : Nat → Prop} {post : Int32 → zM → Prop} {M : zM} {h0 : Nat} {x1 : Int32} {x2 : Int32} (hw : w_L_hasReachedBy (tc 9) post M h0 x1 x2) : Met l yL_hasReachedBy (.code yL_hasReachedBy cL_hasReachedBy 3 (some .boolean) :: zTB) r_L_hasReachedBy (va_Pc [.ref h0, .int x1, .int x2] (zI D tc A M)) (va_Qi post (zB D tc A) A) 0 0 A := by
  refine Met.ofW (cc := cL_hasReachedBy) (maxL := 3) (ret := (some .boolean)) (by decide +kernel) rfl ?_
  intro p e s m args below meth c s₁ B hml hv
  obtain ⟨rfl, hA, hM, hG⟩ := hv
  have C0 := zC_of (D := D) (tc := tc) (A := A) B hml (zC_ex B) hA hG
  obtain ⟨hx, hb, hml, hr, hown, htb, hlk, hA, hG, hin, hex⟩ := id C0
  have hK := hG.1
  have hS : va_S A s.heap s.heap [] := va_S.rf
  have hl := lv_entry ([.ref h0, .int x1, .int x2]) (n := 3) (Nat.le_of_ble_eq_true rfl)
  rw [lg_entry_eq]
  generalize (lg_sl ([.ref h0, .int x1, .int x2]) ++ List.replicate (3 - (lg_sl ([.ref h0, .int x1, .int x2])).length) Slot.unset).toArray = ls at hl ⊢
  have hl : lv_has ls 3 [(0, .ref h0), (1, .int x1), (2, .int x2)] := hl
  refine lv_aload_n hx hb dL_hasReachedBy_0 rfl (lv_at hl 0 rfl) ?_
  refine lv_iload_n hx hb dL_hasReachedBy_1 rfl (lv_at hl 2 rfl) ?_
  obtain ⟨⟨fs11, h12⟩, hw⟩ := hw
  refine va_calli (va_runV (As := [.int x2]) (rest := []) ⟨hx, hb, hml, hown, htb⟩ (k_L_hasReached (l := l) (D := D) (tc := tc) (A := A) hw) (cw_L_48 htb ⟨Nat.le_of_ble_eq_true rfl, Nat.le_of_ble_eq_true rfl⟩) (z_preV hG hA hS hM h12 rfl) rfl rfl hl.1 rfl (lv_room (Nat.le_of_ble_eq_true rfl)) dL_hasReachedBy_2 ⟨Nat.le_refl _, Nat.le_refl _⟩) hS (fun _ _ h => h) (fun _ h => h) (fun r2 M1 t H locs ht hvm hw hB _ _ hS => ?_)
  have hM : zP D vwCl tc A M1 H := by rw [← ht]; exact hB
  refine lv_if_eq (tgt := 29) hx hb dL_hasReachedBy_5 (by decide) (fun hq => ?_) (fun hq => ?_)
  · have hw := hw.1 hq
    exact k_L_hasReachedBy_j29 C0  _  _ _ _ hM hS (lv_sub hl [] rfl) hw
  · have hw := hw.2 hq
    refine lv_iload_n hx hb dL_hasReachedBy_8 rfl (lv_at hl 1 rfl) ?_
    refine lv_aload_n hx hb dL_hasReachedBy_9 rfl (lv_at hl 0 rfl) ?_
    obtain ⟨fs4, v3, h5, e6, hw⟩ := hw
    refine z_get hx hb htb inw_L hown hK hM h5 rfl 2 (by decide) (htb _ t_428) (fun _ h9 => h9) e6 dL_hasReachedBy_10 ?_
    refine lv_isub hx hb dL_hasReachedBy_13 ?_
    refine lv_aload_n hx hb dL_hasReachedBy_14 rfl (lv_at hl 0 rfl) ?_
    refine lv_iload_n hx hb dL_hasReachedBy_15 rfl (lv_at hl 2 rfl) ?_
    obtain ⟨⟨fs9, h10⟩, hw⟩ := hw
    refine va_calli (va_runV (As := [.int x2]) (rest := [.int (x1 - v3)]) ⟨hx, hb, hml, hown, htb⟩ (k_L_reachOf (l := l) (D := D) (tc := tc) (A := A) hw) (cw_L_44 htb ⟨Nat.le_of_ble_eq_true rfl, Nat.le_of_ble_eq_true rfl⟩) (z_preV hG hA hS hM h10 rfl) rfl rfl hl.1 rfl (lv_room (Nat.le_of_ble_eq_true rfl)) dL_hasReachedBy_16 ⟨Nat.le_refl _, Nat.le_refl _⟩) hS (fun _ _ h => h) (fun _ h => h) (fun r8 M7 t H locs ht hvm hw hB _ _ hS => ?_)
    have hM : zP D vwCl tc A M7 H := by rw [← ht]; exact hB
    refine lv_bipush (v := 10) hx hb dL_hasReachedBy_19 (by decide +kernel) ?_
    refine lv_idiv hx hb dL_hasReachedBy_21 (by decide) ?_
    refine lv_icmp_lt (tgt := 29) hx hb dL_hasReachedBy_22 (by decide) (fun hq => ?_) (fun hq => ?_)
    · have hw := hw.1 hq
      exact k_L_hasReachedBy_j29 C0  _  _ _ _ hM hS (lv_sub hl [] rfl) hw
    · have hw := hw.2 hq
      refine lv_iconst (v := 1) hx hb dL_hasReachedBy_25 (by decide +kernel) ?_
      refine lv_goto (tgt := 30) hx hb dL_hasReachedBy_26 (by decide) ?_
      exact W.zret hx hb hr rfl (fun t ht hW => ⟨⟨_, _, rfl, hw, zB_of ht hM⟩, hS.F ht⟩) hS.2.2 dL_hasReachedBy_30
abbrev r_L_note : Room := { frames := 0, cells := 0, slots := 0, locals := 0 }
def w_L_note (e0 : Nat) (post : zM → Prop) (M : zM) (h0 : Nat) (x1 : Int32) (x2 : Int32) : Prop := ((x1 < 0) → post M) ∧ (¬ (x1 < 0) → wGR M h0 1 6 (fun v1 => wAL M v1 0 (fun v6 => ((v6 ≤ x1) → post M) ∧ (¬ (v6 ≤ x1) → wGR M h0 1 6 (fun v9 => wSI M v9 0 x1 x2 (fun M17 => post M17))))))
set_option maxHeartbeats 4000000 in
set_option maxRecDepth 100000 in
theorem k_L_note {l : Launch} {D : va_G} {tc : Nat → ClassId} {A : Nat → Prop} {post : zM → Prop} {M : zM} {h0 : Nat} {x1 : Int32} {x2 : Int32} (hw : w_L_note (tc 9) post M h0 x1 x2) : Met l yL_note (.code yL_note cL_note 3 none :: zTB) r_L_note (va_Pc [.ref h0, .int x1, .int x2] (zI D tc A M)) (va_Qv post (zB D tc A) A) 0 0 A := by
  refine Met.ofW (cc := cL_note) (maxL := 3) (ret := none) (by decide +kernel) rfl ?_
  intro p e s m args below meth c s₁ B hml hv
  obtain ⟨rfl, hA, hM, hG⟩ := hv
  have C0 := zC_of (D := D) (tc := tc) (A := A) B hml (zC_ex B) hA hG
  obtain ⟨hx, hb, hml, hr, hown, htb, hlk, hA, hG, hin, hex⟩ := id C0
  have hK := hG.1
  have hS : va_S A s.heap s.heap [] := va_S.rf
  have hl := lv_entry ([.ref h0, .int x1, .int x2]) (n := 3) (Nat.le_of_ble_eq_true rfl)
  rw [lg_entry_eq]
  generalize (lg_sl ([.ref h0, .int x1, .int x2]) ++ List.replicate (3 - (lg_sl ([.ref h0, .int x1, .int x2])).length) Slot.unset).toArray = ls at hl ⊢
  have hl : lv_has ls 3 [(0, .ref h0), (1, .int x1), (2, .int x2)] := hl
  refine lv_iload_n hx hb dL_note_0 rfl (lv_at hl 1 rfl) ?_
  refine lv_if_lt (tgt := 20) hx hb dL_note_1 (by decide) (fun hq => ?_) (fun hq => ?_)
  · have hw := hw.1 hq
    exact W.vret hx hb hr (fun t ht hW => ⟨⟨_, rfl, hw, zB_of ht hM⟩, hS.F ht⟩) hS.2.2 dL_note_20
  · have hw := hw.2 hq
    refine lv_iload_n hx hb dL_note_4 rfl (lv_at hl 1 rfl) ?_
    refine lv_aload_n hx hb dL_note_5 rfl (lv_at hl 0 rfl) ?_
    obtain ⟨fs2, v1, h3, e4, hw⟩ := hw
    refine z_get hx hb htb inw_L hown hK hM h3 rfl 6 (by decide) (htb _ t_435) (fun _ h9 => h9) e4 dL_note_6 ?_
    obtain ⟨w5, v6, h7, (tc 8), hw⟩ := hw
    refine z_alen hx hb hK hM 0 0 h7 rfl (tc 8) dL_note_9 ?_
    refine lv_icmp_ge (tgt := 20) hx hb dL_note_10 (by decide) (fun hq => ?_) (fun hq => ?_)
    · have hw := hw.1 hq
      exact W.vret hx hb hr (fun t ht hW => ⟨⟨_, rfl, hw, zB_of ht hM⟩, hS.F ht⟩) hS.2.2 dL_note_20
    · have hw := hw.2 hq
      refine lv_aload_n hx hb dL_note_13 rfl (lv_at hl 0 rfl) ?_
      obtain ⟨fs10, v9, h11, e12, hw⟩ := hw
      refine z_get hx hb htb inw_L hown hK hM h11 rfl 6 (by decide) (htb _ t_435) (fun _ h9 => h9) e12 dL_note_14 ?_
      refine lv_iload_n hx hb dL_note_17 rfl (lv_at hl 1 rfl) ?_
      refine lv_iload_n hx hb dL_note_18 rfl (lv_at hl 2 rfl) ?_
      obtain ⟨n13, f14, h15, hi16, hw⟩ := hw
      refine z_iast hx hb hK hM hS 0 0 h15 rfl hi16 dL_note_19 (fun H locs hM hS => ?_)
      exact W.vret hx hb hr (fun t ht hW => ⟨⟨_, rfl, hw, zB_of ht hM⟩, hS.F ht⟩) hS.2.2 dL_note_20
abbrev r_L_hasAsked : Room := { frames := 1, cells := 0, slots := 0, locals := 21 }
def w_L_hasAsked (e0 : Nat) (post : Int32 → zM → Prop) (M : zM) (h0 : Nat) (x1 : Int32) : Prop := wIs M h0 1 ∧ w_L_reachOf e0 (fun r2 M1 => ((r2 = (-2)) → post 0 M1) ∧ (¬ (r2 = (-2)) → post 1 M1)) M h0 x1
set_option maxHeartbeats 4000000 in
set_option maxRecDepth 100000 in
theorem k_L_hasAsked {l : Launch} {D : va_G} {tc : Nat → ClassId} {A : Nat → Prop} {post : Int32 → zM → Prop} {M : zM} {h0 : Nat} {x1 : Int32} (hw : w_L_hasAsked (tc 9) post M h0 x1) : Met l yL_hasAsked (.code yL_hasAsked cL_hasAsked 2 (some .boolean) :: zTB) r_L_hasAsked (va_Pc [.ref h0, .int x1] (zI D tc A M)) (va_Qi post (zB D tc A) A) 0 0 A := by
  refine Met.ofW (cc := cL_hasAsked) (maxL := 2) (ret := (some .boolean)) (by decide +kernel) rfl ?_
  intro p e s m args below meth c s₁ B hml hv
  obtain ⟨rfl, hA, hM, hG⟩ := hv
  have C0 := zC_of (D := D) (tc := tc) (A := A) B hml (zC_ex B) hA hG
  obtain ⟨hx, hb, hml, hr, hown, htb, hlk, hA, hG, hin, hex⟩ := id C0
  have hK := hG.1
  have hS : va_S A s.heap s.heap [] := va_S.rf
  have hl := lv_entry ([.ref h0, .int x1]) (n := 2) (Nat.le_of_ble_eq_true rfl)
  rw [lg_entry_eq]
  generalize (lg_sl ([.ref h0, .int x1]) ++ List.replicate (2 - (lg_sl ([.ref h0, .int x1])).length) Slot.unset).toArray = ls at hl ⊢
  have hl : lv_has ls 2 [(0, .ref h0), (1, .int x1)] := hl
  refine lv_aload_n hx hb dL_hasAsked_0 rfl (lv_at hl 0 rfl) ?_
  refine lv_iload_n hx hb dL_hasAsked_1 rfl (lv_at hl 1 rfl) ?_
  obtain ⟨⟨fs3, h4⟩, hw⟩ := hw
  refine va_calli (va_runV (As := [.int x1]) (rest := []) ⟨hx, hb, hml, hown, htb⟩ (k_L_reachOf (l := l) (D := D) (tc := tc) (A := A) hw) (cw_L_44 htb ⟨Nat.le_of_ble_eq_true rfl, Nat.le_of_ble_eq_true rfl⟩) (z_preV hG hA hS hM h4 rfl) rfl rfl hl.1 rfl (lv_room (Nat.le_of_ble_eq_true rfl)) dL_hasAsked_2 ⟨Nat.le_refl _, Nat.le_refl _⟩) hS (fun _ _ h => h) (fun _ h => h) (fun r2 M1 t H locs ht hvm hw hB _ _ hS => ?_)
  have hM : zP D vwCl tc A M1 H := by rw [← ht]; exact hB
  refine lv_bipush (v := (-2)) hx hb dL_hasAsked_5 (by decide +kernel) ?_
  refine lv_icmp_eq (tgt := 14) hx hb dL_hasAsked_7 (by decide) (fun hq => ?_) (fun hq => ?_)
  · have hw := hw.1 hq
    refine lv_iconst (v := 0) hx hb dL_hasAsked_14 (by decide +kernel) ?_
    exact W.zret hx hb hr rfl (fun t ht hW => ⟨⟨_, _, rfl, hw, zB_of ht hM⟩, hS.F ht⟩) hS.2.2 dL_hasAsked_15
  · have hw := hw.2 hq
    refine lv_iconst (v := 1) hx hb dL_hasAsked_10 (by decide +kernel) ?_
    refine lv_goto (tgt := 15) hx hb dL_hasAsked_11 (by decide) ?_
    exact W.zret hx hb hr rfl (fun t ht hW => ⟨⟨_, _, rfl, hw, zB_of ht hM⟩, hS.F ht⟩) hS.2.2 dL_hasAsked_15
abbrev r_L_countFrom : Room := { frames := 0, cells := 0, slots := 0, locals := 0 }
def w_L_countFrom_j33 (e0 : Nat) (post : Int32 → zM → Prop) (K11 : zM → Int32 → Int32 → Nat → Int32 → Int32 → Prop) (M : zM) (l1 : Int32) (l2 : Int32) (l3 : Nat) (l4 : Int32) (l5 : Int32) : Prop := K11 M l1 l2 l3 l4 (l5 + 1)
abbrev J_L_countFrom_33 (p : Program) (l : Launch) (e : Env) (s : State) (m : MethodId) (args : Array Value) (below : List Frame) (meth : Method) (c : Code) (D : va_G) (tc : Nat → ClassId) (A : Nat → Prop) (Q : State → Prop) (K : zM → Int32 → Int32 → Nat → Int32 → Int32 → Prop) : Prop := ∀ (M : zM) (l1 : Int32) (l2 : Int32) (l3 : Nat) (l4 : Int32) (l5 : Int32) (H : Heap) (locs : List Loc) (ls : Array Slot), zP D vwCl tc A M H → va_S A s.heap H locs → lv_has ls 7 [(1, .int l1), (2, .int l2), (3, .ref l3), (4, .int l4), (5, .int l5)] → K M l1 l2 l3 l4 l5 → W p l e (r_L_countFrom) s m args below meth c H locs 0 0 Q (F0 m 33 ls [])
set_option maxHeartbeats 4000000 in
set_option maxRecDepth 100000 in
theorem k_L_countFrom_j33 {p : Program} {l : Launch} {e : Env} {s : State} {m : MethodId} {args : Array Value} {below : List Frame} {meth : Method} {c : Code} {D : va_G} {tc : Nat → ClassId} {A : Nat → Prop} {post : Int32 → zM → Prop} (C0 : zC R_L cL_countFrom 7 (some .int) "countFrom" D tc A p l s m args meth c) {K11 : zM → Int32 → Int32 → Nat → Int32 → Int32 → Prop} (hK11 : J_L_countFrom_11 p l e s m args below meth c D tc A (MQ below (va_Qi post (zB D tc A) A) args s 0 0 A) K11) : J_L_countFrom_33 p l e s m args below meth c D tc A (MQ below (va_Qi post (zB D tc A) A) args s 0 0 A) (w_L_countFrom_j33 (tc 9) post K11) := by
  obtain ⟨hx, hb, hml, hr, hown, htb, hlk, hA, hG, hin, hex⟩ := id C0
  have hK := hG.1
  intro M l1 l2 l3 l4 l5 H locs ls hM hS hl hw
  refine lv_iinc (v := (l5 + 1)) (lv' := [(5, .int (l5 + 1)), (1, .int l1), (2, .int l2), (3, .ref l3), (4, .int l4)]) hx hb dL_countFrom_33 hl (k := 4) rfl rfl (by decide) rfl (fun ls hl => ?_)
  refine lv_goto (tgt := 11) hx hb dL_countFrom_36 (by decide) ?_
  exact hK11 _ _ _ _ _ _ _ _ _ hM hS (lv_sub hl [1, 2, 3, 4, 0] rfl) hw
def w_L_countFrom_j11 (e0 : Nat) (post : Int32 → zM → Prop) : Nat → zM → Int32 → Int32 → Nat → Int32 → Int32 → Prop
  | 0, _, _, _, _, _, _ => False
  | n + 1, M, l1, l2, l3, l4, l5 => ((l4 ≤ l5) → post l2 M) ∧ (¬ (l4 ≤ l5) → wLI M l3 0 l5 (fun v3 => ((v3 < l1) → w_L_countFrom_j33 e0 post (w_L_countFrom_j11 e0 post n) M l1 l2 l3 l4 l5) ∧ (¬ (v3 < l1) → w_L_countFrom_j33 e0 post (w_L_countFrom_j11 e0 post n) M l1 (l2 + 1) l3 l4 l5)))
abbrev J_L_countFrom_11 (p : Program) (l : Launch) (e : Env) (s : State) (m : MethodId) (args : Array Value) (below : List Frame) (meth : Method) (c : Code) (D : va_G) (tc : Nat → ClassId) (A : Nat → Prop) (Q : State → Prop) (K : zM → Int32 → Int32 → Nat → Int32 → Int32 → Prop) : Prop := ∀ (M : zM) (l1 : Int32) (l2 : Int32) (l3 : Nat) (l4 : Int32) (l5 : Int32) (H : Heap) (locs : List Loc) (ls : Array Slot), zP D vwCl tc A M H → va_S A s.heap H locs → lv_has ls 7 [(1, .int l1), (2, .int l2), (3, .ref l3), (4, .int l4), (5, .int l5)] → K M l1 l2 l3 l4 l5 → W p l e (r_L_countFrom) s m args below meth c H locs 0 0 Q (F0 m 11 ls [])
set_option maxHeartbeats 4000000 in
set_option maxRecDepth 100000 in
theorem k_L_countFrom_j11 {p : Program} {l : Launch} {e : Env} {s : State} {m : MethodId} {args : Array Value} {below : List Frame} {meth : Method} {c : Code} {D : va_G} {tc : Nat → ClassId} {A : Nat → Prop} {post : Int32 → zM → Prop} (C0 : zC R_L cL_countFrom 7 (some .int) "countFrom" D tc A p l s m args meth c) : ∀ n : Nat, J_L_countFrom_11 p l e s m args below meth c D tc A (MQ below (va_Qi post (zB D tc A) A) args s 0 0 A) (w_L_countFrom_j11 (tc 9) post n) := by
  obtain ⟨hx, hb, hml, hr, hown, htb, hlk, hA, hG, hin, hex⟩ := id C0
  have hK := hG.1
  intro n
  induction n with
  | zero => intro M l1 l2 l3 l4 l5 H locs ls hM hS hl hw; exact hw.elim
  | succ n ih =>
    intro M l1 l2 l3 l4 l5 H locs ls hM hS hl hw
    refine lv_iload hx hb dL_countFrom_11 (lv_at hl 4 rfl) ?_
    refine lv_iload hx hb dL_countFrom_13 (lv_at hl 3 rfl) ?_
    refine lv_icmp_ge (tgt := 39) hx hb dL_countFrom_15 (by decide) (fun hq => ?_) (fun hq => ?_)
    · have hw := hw.1 hq
      refine lv_iload_n hx hb dL_countFrom_39 rfl (lv_at hl 1 rfl) ?_
      exact W.iret hx hb hr (fun t ht hW => ⟨⟨_, _, rfl, hw, zB_of ht hM⟩, hS.F ht⟩) hS.2.2 dL_countFrom_40
    · have hw := hw.2 hq
      refine lv_aload_n hx hb dL_countFrom_18 rfl (lv_at hl 2 rfl) ?_
      refine lv_iload hx hb dL_countFrom_19 (lv_at hl 4 rfl) ?_
      obtain ⟨n1, f2, v3, h4, hi5, e6, hw⟩ := hw
      refine z_iald hx hb hK hM 0 0 h4 rfl hi5 e6 dL_countFrom_21 ?_
      refine lv_istore (lv' := [(6, .int v3), (1, .int l1), (2, .int l2), (3, .ref l3), (4, .int l4), (5, .int l5)]) hx hb dL_countFrom_22 hl (by decide) rfl (fun ls hl => ?_)
      refine lv_iload hx hb dL_countFrom_24 (lv_at hl 0 rfl) ?_
      refine lv_iload_n hx hb dL_countFrom_26 rfl (lv_at hl 1 rfl) ?_
      refine lv_icmp_lt (tgt := 33) hx hb dL_countFrom_27 (by decide) (fun hq => ?_) (fun hq => ?_)
      · have hw := hw.1 hq
        exact k_L_countFrom_j33 C0 ih _ _ _ _ _ _ _ _ _ hM hS (lv_sub hl [1, 2, 3, 4, 5] rfl) hw
      · have hw := hw.2 hq
        refine lv_iinc (v := (l2 + 1)) (lv' := [(2, .int (l2 + 1)), (6, .int v3), (1, .int l1), (3, .ref l3), (4, .int l4), (5, .int l5)]) hx hb dL_countFrom_30 hl (k := 2) rfl rfl (by decide) rfl (fun ls hl => ?_)
        exact k_L_countFrom_j33 C0 ih _ _ _ _ _ _ _ _ _ hM hS (lv_sub hl [2, 0, 3, 4, 5] rfl) hw
def w_L_countFrom (e0 : Nat) (post : Int32 → zM → Prop) (M : zM) (h0 : Nat) (x1 : Int32) : Prop := wAL M h0 0 (fun v2 => ∃ n, w_L_countFrom_j11 e0 post n M x1 0 h0 v2 0)
set_option maxHeartbeats 4000000 in
set_option maxRecDepth 100000 in
theorem k_L_countFrom {l : Launch} {D : va_G} {tc : Nat → ClassId} {A : Nat → Prop} {post : Int32 → zM → Prop} {M : zM} {h0 : Nat} {x1 : Int32} (hw : w_L_countFrom (tc 9) post M h0 x1) : Met l yL_countFrom (.code yL_countFrom cL_countFrom 7 (some .int) :: zTB) r_L_countFrom (va_Pc [.ref h0, .int x1] (zI D tc A M)) (va_Qi post (zB D tc A) A) 0 0 A := by
  refine Met.ofW (cc := cL_countFrom) (maxL := 7) (ret := (some .int)) (by decide +kernel) rfl ?_
  intro p e s m args below meth c s₁ B hml hv
  obtain ⟨rfl, hA, hM, hG⟩ := hv
  have C0 := zC_of (D := D) (tc := tc) (A := A) B hml (zC_ex B) hA hG
  obtain ⟨hx, hb, hml, hr, hown, htb, hlk, hA, hG, hin, hex⟩ := id C0
  have hK := hG.1
  have hS : va_S A s.heap s.heap [] := va_S.rf
  have hl := lv_entry ([.ref h0, .int x1]) (n := 7) (Nat.le_of_ble_eq_true rfl)
  rw [lg_entry_eq]
  generalize (lg_sl ([.ref h0, .int x1]) ++ List.replicate (7 - (lg_sl ([.ref h0, .int x1])).length) Slot.unset).toArray = ls at hl ⊢
  have hl : lv_has ls 7 [(0, .ref h0), (1, .int x1)] := hl
  refine lv_iconst (v := 0) hx hb dL_countFrom_0 (by decide +kernel) ?_
  refine lv_istore_n (lv' := [(2, .int 0), (0, .ref h0), (1, .int x1)]) hx hb dL_countFrom_1 rfl hl (by decide) rfl (fun ls hl => ?_)
  refine lv_aload_n hx hb dL_countFrom_2 rfl (lv_at hl 1 rfl) ?_
  refine lv_astore_n (lv' := [(3, .ref h0), (2, .int 0), (0, .ref h0), (1, .int x1)]) hx hb dL_countFrom_3 rfl hl (by decide) rfl (fun ls hl => ?_)
  refine lv_aload_n hx hb dL_countFrom_4 rfl (lv_at hl 0 rfl) ?_
  obtain ⟨w1, v2, h3, e4, hw⟩ := hw
  refine z_alen hx hb hK hM 0 0 h3 rfl e4 dL_countFrom_5 ?_
  refine lv_istore (lv' := [(4, .int v2), (3, .ref h0), (2, .int 0), (0, .ref h0), (1, .int x1)]) hx hb dL_countFrom_6 hl (by decide) rfl (fun ls hl => ?_)
  refine lv_iconst (v := 0) hx hb dL_countFrom_8 (by decide +kernel) ?_
  refine lv_istore (lv' := [(5, .int 0), (4, .int v2), (3, .ref h0), (2, .int 0), (0, .ref h0), (1, .int x1)]) hx hb dL_countFrom_9 hl (by decide) rfl (fun ls hl => ?_)
  obtain ⟨n9, hw⟩ := hw
  exact k_L_countFrom_j11 C0  n9 _ _ _ _ _ _ _ _ _ hM hS (lv_sub hl [5, 3, 2, 1, 0] rfl) hw
abbrev r_L_comingPersons : Room := { frames := 1, cells := 0, slots := 0, locals := 26 }
def w_L_comingPersons (e0 : Nat) (post : Int32 → zM → Prop) (M : zM) (h0 : Nat) : Prop := wGR M h0 1 6 (fun v1 => w_L_countFrom e0 (fun r6 M5 => post r6 M5) M v1 0)
set_option maxHeartbeats 4000000 in
set_option maxRecDepth 100000 in
theorem k_L_comingPersons {l : Launch} {D : va_G} {tc : Nat → ClassId} {A : Nat → Prop} {post : Int32 → zM → Prop} {M : zM} {h0 : Nat} (hw : w_L_comingPersons (tc 9) post M h0) : Met l yL_comingPersons (.code yL_comingPersons cL_comingPersons 1 (some .int) :: zTB) r_L_comingPersons (va_Pc [.ref h0] (zI D tc A M)) (va_Qi post (zB D tc A) A) 0 0 A := by
  refine Met.ofW (cc := cL_comingPersons) (maxL := 1) (ret := (some .int)) (by decide +kernel) rfl ?_
  intro p e s m args below meth c s₁ B hml hv
  obtain ⟨rfl, hA, hM, hG⟩ := hv
  have C0 := zC_of (D := D) (tc := tc) (A := A) B hml (zC_ex B) hA hG
  obtain ⟨hx, hb, hml, hr, hown, htb, hlk, hA, hG, hin, hex⟩ := id C0
  have hK := hG.1
  have hS : va_S A s.heap s.heap [] := va_S.rf
  have hl := lv_entry ([.ref h0]) (n := 1) (Nat.le_of_ble_eq_true rfl)
  rw [lg_entry_eq]
  generalize (lg_sl ([.ref h0]) ++ List.replicate (1 - (lg_sl ([.ref h0])).length) Slot.unset).toArray = ls at hl ⊢
  have hl : lv_has ls 1 [(0, .ref h0)] := hl
  refine lv_aload_n hx hb dL_comingPersons_0 rfl (lv_at hl 0 rfl) ?_
  obtain ⟨fs2, v1, h3, e4, hw⟩ := hw
  refine z_get hx hb htb inw_L hown hK hM h3 rfl 6 (by decide) (htb _ t_435) (fun _ h9 => h9) e4 dL_comingPersons_1 ?_
  refine lv_iconst (v := 0) hx hb dL_comingPersons_4 (by decide +kernel) ?_
  refine va_calli (va_runS (As := [.ref v1, .int 0]) (rest := []) ⟨hx, hb, hml, hown, htb⟩ (k_L_countFrom (l := l) (D := D) (tc := tc) (A := A) hw) (cw_L_52 htb ⟨Nat.le_of_ble_eq_true rfl, Nat.le_of_ble_eq_true rfl⟩) (z_preS hG hA hS hM) rfl rfl hl.1 rfl (lv_room (Nat.le_of_ble_eq_true rfl)) dL_comingPersons_5 ⟨Nat.le_refl _, Nat.le_refl _⟩) hS (fun _ _ h => h) (fun _ h => h) (fun r6 M5 t H locs ht hvm hw hB _ _ hS => ?_)
  have hM : zP D vwCl tc A M5 H := by rw [← ht]; exact hB
  exact W.iret hx hb hr (fun t ht hW => ⟨⟨_, _, rfl, hw, zB_of ht hM⟩, hS.F ht⟩) hS.2.2 dL_comingPersons_8
abbrev r_L_askedPersons : Room := { frames := 1, cells := 0, slots := 0, locals := 26 }
def w_L_askedPersons (e0 : Nat) (post : Int32 → zM → Prop) (M : zM) (h0 : Nat) : Prop := wGR M h0 1 5 (fun v1 => w_L_countFrom e0 (fun r6 M5 => post r6 M5) M v1 (-1))
set_option maxHeartbeats 4000000 in
set_option maxRecDepth 100000 in
theorem k_L_askedPersons {l : Launch} {D : va_G} {tc : Nat → ClassId} {A : Nat → Prop} {post : Int32 → zM → Prop} {M : zM} {h0 : Nat} (hw : w_L_askedPersons (tc 9) post M h0) : Met l yL_askedPersons (.code yL_askedPersons cL_askedPersons 1 (some .int) :: zTB) r_L_askedPersons (va_Pc [.ref h0] (zI D tc A M)) (va_Qi post (zB D tc A) A) 0 0 A := by
  refine Met.ofW (cc := cL_askedPersons) (maxL := 1) (ret := (some .int)) (by decide +kernel) rfl ?_
  intro p e s m args below meth c s₁ B hml hv
  obtain ⟨rfl, hA, hM, hG⟩ := hv
  have C0 := zC_of (D := D) (tc := tc) (A := A) B hml (zC_ex B) hA hG
  obtain ⟨hx, hb, hml, hr, hown, htb, hlk, hA, hG, hin, hex⟩ := id C0
  have hK := hG.1
  have hS : va_S A s.heap s.heap [] := va_S.rf
  have hl := lv_entry ([.ref h0]) (n := 1) (Nat.le_of_ble_eq_true rfl)
  rw [lg_entry_eq]
  generalize (lg_sl ([.ref h0]) ++ List.replicate (1 - (lg_sl ([.ref h0])).length) Slot.unset).toArray = ls at hl ⊢
  have hl : lv_has ls 1 [(0, .ref h0)] := hl
  refine lv_aload_n hx hb dL_askedPersons_0 rfl (lv_at hl 0 rfl) ?_
  obtain ⟨fs2, v1, h3, e4, hw⟩ := hw
  refine z_get hx hb htb inw_L hown hK hM h3 rfl 5 (by decide) (htb _ t_434) (fun _ h9 => h9) e4 dL_askedPersons_1 ?_
  refine lv_iconst (v := (-1)) hx hb dL_askedPersons_4 (by decide +kernel) ?_
  refine va_calli (va_runS (As := [.ref v1, .int (-1)]) (rest := []) ⟨hx, hb, hml, hown, htb⟩ (k_L_countFrom (l := l) (D := D) (tc := tc) (A := A) hw) (cw_L_52 htb ⟨Nat.le_of_ble_eq_true rfl, Nat.le_of_ble_eq_true rfl⟩) (z_preS hG hA hS hM) rfl rfl hl.1 rfl (lv_room (Nat.le_of_ble_eq_true rfl)) dL_askedPersons_5 ⟨Nat.le_refl _, Nat.le_refl _⟩) hS (fun _ _ h => h) (fun _ h => h) (fun r6 M5 t H locs ht hvm hw hB _ _ hS => ?_)
  have hM : zP D vwCl tc A M5 H := by rw [← ht]; exact hB
  exact W.iret hx hb hr (fun t ht hW => ⟨⟨_, _, rfl, hw, zB_of ht hM⟩, hS.F ht⟩) hS.2.2 dL_askedPersons_8
abbrev r_L_answeredPersons : Room := { frames := 1, cells := 0, slots := 0, locals := 26 }
def w_L_answeredPersons (e0 : Nat) (post : Int32 → zM → Prop) (M : zM) (h0 : Nat) : Prop := wGR M h0 1 6 (fun v1 => w_L_countFrom e0 (fun r6 M5 => post r6 M5) M v1 (-1))
set_option maxHeartbeats 4000000 in
set_option maxRecDepth 100000 in
theorem k_L_answeredPersons {l : Launch} {D : va_G} {tc : Nat → ClassId} {A : Nat → Prop} {post : Int32 → zM → Prop} {M : zM} {h0 : Nat} (hw : w_L_answeredPersons (tc 9) post M h0) : Met l yL_answeredPersons (.code yL_answeredPersons cL_answeredPersons 1 (some .int) :: zTB) r_L_answeredPersons (va_Pc [.ref h0] (zI D tc A M)) (va_Qi post (zB D tc A) A) 0 0 A := by
  refine Met.ofW (cc := cL_answeredPersons) (maxL := 1) (ret := (some .int)) (by decide +kernel) rfl ?_
  intro p e s m args below meth c s₁ B hml hv
  obtain ⟨rfl, hA, hM, hG⟩ := hv
  have C0 := zC_of (D := D) (tc := tc) (A := A) B hml (zC_ex B) hA hG
  obtain ⟨hx, hb, hml, hr, hown, htb, hlk, hA, hG, hin, hex⟩ := id C0
  have hK := hG.1
  have hS : va_S A s.heap s.heap [] := va_S.rf
  have hl := lv_entry ([.ref h0]) (n := 1) (Nat.le_of_ble_eq_true rfl)
  rw [lg_entry_eq]
  generalize (lg_sl ([.ref h0]) ++ List.replicate (1 - (lg_sl ([.ref h0])).length) Slot.unset).toArray = ls at hl ⊢
  have hl : lv_has ls 1 [(0, .ref h0)] := hl
  refine lv_aload_n hx hb dL_answeredPersons_0 rfl (lv_at hl 0 rfl) ?_
  obtain ⟨fs2, v1, h3, e4, hw⟩ := hw
  refine z_get hx hb htb inw_L hown hK hM h3 rfl 6 (by decide) (htb _ t_435) (fun _ h9 => h9) e4 dL_answeredPersons_1 ?_
  refine lv_iconst (v := (-1)) hx hb dL_answeredPersons_4 (by decide +kernel) ?_
  refine va_calli (va_runS (As := [.ref v1, .int (-1)]) (rest := []) ⟨hx, hb, hml, hown, htb⟩ (k_L_countFrom (l := l) (D := D) (tc := tc) (A := A) hw) (cw_L_52 htb ⟨Nat.le_of_ble_eq_true rfl, Nat.le_of_ble_eq_true rfl⟩) (z_preS hG hA hS hM) rfl rfl hl.1 rfl (lv_room (Nat.le_of_ble_eq_true rfl)) dL_answeredPersons_5 ⟨Nat.le_refl _, Nat.le_refl _⟩) hS (fun _ _ h => h) (fun _ h => h) (fun r6 M5 t H locs ht hvm hw hB _ _ hS => ?_)
  have hM : zP D vwCl tc A M5 H := by rw [← ht]; exact hB
  exact W.iret hx hb hr (fun t ht hW => ⟨⟨_, _, rfl, hw, zB_of ht hM⟩, hS.F ht⟩) hS.2.2 dL_answeredPersons_8
abbrev r_L_hasAnswer : Room := { frames := 0, cells := 0, slots := 0, locals := 0 }
def w_L_hasAnswer_j28 (e0 : Nat) (post : Int32 → zM → Prop) (M : zM) : Prop := post 0 M
abbrev J_L_hasAnswer_28 (p : Program) (l : Launch) (e : Env) (s : State) (m : MethodId) (args : Array Value) (below : List Frame) (meth : Method) (c : Code) (D : va_G) (tc : Nat → ClassId) (A : Nat → Prop) (Q : State → Prop) (K : zM → Prop) : Prop := ∀ (M : zM) (H : Heap) (locs : List Loc) (ls : Array Slot), zP D vwCl tc A M H → va_S A s.heap H locs → lv_has ls 2 [] → K M → W p l e (r_L_hasAnswer) s m args below meth c H locs 0 0 Q (F0 m 28 ls [])
set_option maxHeartbeats 4000000 in
set_option maxRecDepth 100000 in
theorem k_L_hasAnswer_j28 {p : Program} {l : Launch} {e : Env} {s : State} {m : MethodId} {args : Array Value} {below : List Frame} {meth : Method} {c : Code} {D : va_G} {tc : Nat → ClassId} {A : Nat → Prop} {post : Int32 → zM → Prop} (C0 : zC R_L cL_hasAnswer 2 (some .boolean) "hasAnswer" D tc A p l s m args meth c) : J_L_hasAnswer_28 p l e s m args below meth c D tc A (MQ below (va_Qi post (zB D tc A) A) args s 0 0 A) (w_L_hasAnswer_j28 (tc 9) post) := by
  obtain ⟨hx, hb, hml, hr, hown, htb, hlk, hA, hG, hin, hex⟩ := id C0
  have hK := hG.1
  intro M H locs ls hM hS hl hw
  refine lv_iconst (v := 0) hx hb dL_hasAnswer_28 (by decide +kernel) ?_
  exact W.zret hx hb hr rfl (fun t ht hW => ⟨⟨_, _, rfl, hw, zB_of ht hM⟩, hS.F ht⟩) hS.2.2 dL_hasAnswer_29
def w_L_hasAnswer (e0 : Nat) (post : Int32 → zM → Prop) (M : zM) (h0 : Nat) (x1 : Int32) : Prop := ((x1 < 0) → w_L_hasAnswer_j28 e0 post M) ∧ (¬ (x1 < 0) → wGR M h0 1 6 (fun v1 => wAL M v1 0 (fun v6 => ((v6 ≤ x1) → w_L_hasAnswer_j28 e0 post M) ∧ (¬ (v6 ≤ x1) → wGR M h0 1 6 (fun v9 => wLI M v9 0 x1 (fun v15 => ((v15 = (-2)) → w_L_hasAnswer_j28 e0 post M) ∧ (¬ (v15 = (-2)) → post 1 M)))))))
set_option maxHeartbeats 4000000 in
set_option maxRecDepth 100000 in
theorem k_L_hasAnswer {l : Launch} {D : va_G} {tc : Nat → ClassId} {A : Nat → Prop} {post : Int32 → zM → Prop} {M : zM} {h0 : Nat} {x1 : Int32} (hw : w_L_hasAnswer (tc 9) post M h0 x1) : Met l yL_hasAnswer (.code yL_hasAnswer cL_hasAnswer 2 (some .boolean) :: zTB) r_L_hasAnswer (va_Pc [.ref h0, .int x1] (zI D tc A M)) (va_Qi post (zB D tc A) A) 0 0 A := by
  refine Met.ofW (cc := cL_hasAnswer) (maxL := 2) (ret := (some .boolean)) (by decide +kernel) rfl ?_
  intro p e s m args below meth c s₁ B hml hv
  obtain ⟨rfl, hA, hM, hG⟩ := hv
  have C0 := zC_of (D := D) (tc := tc) (A := A) B hml (zC_ex B) hA hG
  obtain ⟨hx, hb, hml, hr, hown, htb, hlk, hA, hG, hin, hex⟩ := id C0
  have hK := hG.1
  have hS : va_S A s.heap s.heap [] := va_S.rf
  have hl := lv_entry ([.ref h0, .int x1]) (n := 2) (Nat.le_of_ble_eq_true rfl)
  rw [lg_entry_eq]
  generalize (lg_sl ([.ref h0, .int x1]) ++ List.replicate (2 - (lg_sl ([.ref h0, .int x1])).length) Slot.unset).toArray = ls at hl ⊢
  have hl : lv_has ls 2 [(0, .ref h0), (1, .int x1)] := hl
  refine lv_iload_n hx hb dL_hasAnswer_0 rfl (lv_at hl 1 rfl) ?_
  refine lv_if_lt (tgt := 28) hx hb dL_hasAnswer_1 (by decide) (fun hq => ?_) (fun hq => ?_)
  · have hw := hw.1 hq
    exact k_L_hasAnswer_j28 C0  _  _ _ _ hM hS (lv_sub hl [] rfl) hw
  · have hw := hw.2 hq
    refine lv_iload_n hx hb dL_hasAnswer_4 rfl (lv_at hl 1 rfl) ?_
    refine lv_aload_n hx hb dL_hasAnswer_5 rfl (lv_at hl 0 rfl) ?_
    obtain ⟨fs2, v1, h3, e4, hw⟩ := hw
    refine z_get hx hb htb inw_L hown hK hM h3 rfl 6 (by decide) (htb _ t_435) (fun _ h9 => h9) e4 dL_hasAnswer_6 ?_
    obtain ⟨w5, v6, h7, (tc 8), hw⟩ := hw
    refine z_alen hx hb hK hM 0 0 h7 rfl (tc 8) dL_hasAnswer_9 ?_
    refine lv_icmp_ge (tgt := 28) hx hb dL_hasAnswer_10 (by decide) (fun hq => ?_) (fun hq => ?_)
    · have hw := hw.1 hq
      exact k_L_hasAnswer_j28 C0  _  _ _ _ hM hS (lv_sub hl [] rfl) hw
    · have hw := hw.2 hq
      refine lv_aload_n hx hb dL_hasAnswer_13 rfl (lv_at hl 0 rfl) ?_
      obtain ⟨fs10, v9, h11, e12, hw⟩ := hw
      refine z_get hx hb htb inw_L hown hK hM h11 rfl 6 (by decide) (htb _ t_435) (fun _ h9 => h9) e12 dL_hasAnswer_14 ?_
      refine lv_iload_n hx hb dL_hasAnswer_17 rfl (lv_at hl 1 rfl) ?_
      obtain ⟨n13, f14, v15, h16, hi17, e18, hw⟩ := hw
      refine z_iald hx hb hK hM 0 0 h16 rfl hi17 e18 dL_hasAnswer_18 ?_
      refine lv_bipush (v := (-2)) hx hb dL_hasAnswer_19 (by decide +kernel) ?_
      refine lv_icmp_eq (tgt := 28) hx hb dL_hasAnswer_21 (by decide) (fun hq => ?_) (fun hq => ?_)
      · have hw := hw.1 hq
        exact k_L_hasAnswer_j28 C0  _  _ _ _ hM hS (lv_sub hl [] rfl) hw
      · have hw := hw.2 hq
        refine lv_iconst (v := 1) hx hb dL_hasAnswer_24 (by decide +kernel) ?_
        refine lv_goto (tgt := 29) hx hb dL_hasAnswer_25 (by decide) ?_
        exact W.zret hx hb hr rfl (fun t ht hW => ⟨⟨_, _, rfl, hw, zB_of ht hM⟩, hS.F ht⟩) hS.2.2 dL_hasAnswer_29
abbrev r_P_addClosed : Room := { frames := 0, cells := 0, slots := 0, locals := 0 }
def w_P_addClosed (e0 : Nat) (post : zM → Prop) (M : zM) (h0 : Nat) (x1 : Int32) : Prop := wGI M h0 3 5 (fun v1 => wPF M h0 3 5 (.int (v1 + 1)) (fun M8 => ((x1 = 0) → post M8) ∧ (¬ (x1 = 0) → wGI M8 h0 3 6 (fun v9 => wPF M8 h0 3 6 (.int (v9 + 1)) (fun M16 => post M16)))))
set_option maxHeartbeats 4000000 in
set_option maxRecDepth 100000 in
theorem k_P_addClosed {l : Launch} {D : va_G} {tc : Nat → ClassId} {A : Nat → Prop} {post : zM → Prop} {M : zM} {h0 : Nat} {x1 : Int32} (hw : w_P_addClosed (tc 9) post M h0 x1) : Met l yP_addClosed (.code yP_addClosed cP_addClosed 2 none :: zTB) r_P_addClosed (va_Pc [.ref h0, .int x1] (zI D tc A M)) (va_Qv post (zB D tc A) A) 0 0 A := by
  refine Met.ofW (cc := cP_addClosed) (maxL := 2) (ret := none) (by decide +kernel) rfl ?_
  intro p e s m args below meth c s₁ B hml hv
  obtain ⟨rfl, hA, hM, hG⟩ := hv
  have C0 := zC_of (D := D) (tc := tc) (A := A) B hml (zC_ex B) hA hG
  obtain ⟨hx, hb, hml, hr, hown, htb, hlk, hA, hG, hin, hex⟩ := id C0
  have hK := hG.1
  have hS : va_S A s.heap s.heap [] := va_S.rf
  have hl := lv_entry ([.ref h0, .int x1]) (n := 2) (Nat.le_of_ble_eq_true rfl)
  rw [lg_entry_eq]
  generalize (lg_sl ([.ref h0, .int x1]) ++ List.replicate (2 - (lg_sl ([.ref h0, .int x1])).length) Slot.unset).toArray = ls at hl ⊢
  have hl : lv_has ls 2 [(0, .ref h0), (1, .int x1)] := hl
  refine lv_aload_n hx hb dP_addClosed_0 rfl (lv_at hl 0 rfl) ?_
  refine lv_dup hx hb dP_addClosed_1 rfl ?_
  obtain ⟨fs2, v1, h3, e4, hw⟩ := hw
  refine z_get hx hb htb inw_P hown hK hM h3 rfl 5 (by decide) (htb _ t_346) (fun _ h9 => h9) e4 dP_addClosed_2 ?_
  refine lv_iconst (v := 1) hx hb dP_addClosed_5 (by decide +kernel) ?_
  refine lv_iadd hx hb dP_addClosed_6 ?_
  obtain ⟨fs5, h6, hl7, hw⟩ := hw
  refine z_put (ty := .int) hx hb htb inw_P ty_P tyok_P nmok_P hown hK hM hS h6 rfl 5 (by decide) (htb _ t_346) (fun _ h9 => h9) rfl (by decide +kernel) rfl rfl hl7 dP_addClosed_7 (fun H locs hM hS => ?_)
  refine lv_iload_n hx hb dP_addClosed_10 rfl (lv_at hl 1 rfl) ?_
  refine lv_if_eq (tgt := 24) hx hb dP_addClosed_11 (by decide) (fun hq => ?_) (fun hq => ?_)
  · have hw := hw.1 hq
    exact W.vret hx hb hr (fun t ht hW => ⟨⟨_, rfl, hw, zB_of ht hM⟩, hS.F ht⟩) hS.2.2 dP_addClosed_24
  · have hw := hw.2 hq
    refine lv_aload_n hx hb dP_addClosed_14 rfl (lv_at hl 0 rfl) ?_
    refine lv_dup hx hb dP_addClosed_15 rfl ?_
    obtain ⟨fs10, v9, h11, e12, hw⟩ := hw
    refine z_get hx hb htb inw_P hown hK hM h11 rfl 6 (by decide) (htb _ t_347) (fun _ h9 => h9) e12 dP_addClosed_16 ?_
    refine lv_iconst (v := 1) hx hb dP_addClosed_19 (by decide +kernel) ?_
    refine lv_iadd hx hb dP_addClosed_20 ?_
    obtain ⟨fs13, h14, hl15, hw⟩ := hw
    refine z_put (ty := .int) hx hb htb inw_P ty_P tyok_P nmok_P hown hK hM hS h14 rfl 6 (by decide) (htb _ t_347) (fun _ h9 => h9) rfl (by decide +kernel) rfl rfl hl15 dP_addClosed_21 (fun H locs hM hS => ?_)
    exact W.vret hx hb hr (fun t ht hW => ⟨⟨_, rfl, hw, zB_of ht hM⟩, hS.F ht⟩) hS.2.2 dP_addClosed_24
abbrev r_L_reachedPersons : Room := { frames := 1, cells := 0, slots := 0, locals := 26 }
def w_L_reachedPersons (e0 : Nat) (post : Int32 → zM → Prop) (M : zM) (h0 : Nat) : Prop := wGR M h0 1 5 (fun v1 => w_L_countFrom e0 (fun r6 M5 => post r6 M5) M v1 0)
set_option maxHeartbeats 4000000 in
set_option maxRecDepth 100000 in
theorem k_L_reachedPersons {l : Launch} {D : va_G} {tc : Nat → ClassId} {A : Nat → Prop} {post : Int32 → zM → Prop} {M : zM} {h0 : Nat} (hw : w_L_reachedPersons (tc 9) post M h0) : Met l yL_reachedPersons (.code yL_reachedPersons cL_reachedPersons 1 (some .int) :: zTB) r_L_reachedPersons (va_Pc [.ref h0] (zI D tc A M)) (va_Qi post (zB D tc A) A) 0 0 A := by
  refine Met.ofW (cc := cL_reachedPersons) (maxL := 1) (ret := (some .int)) (by decide +kernel) rfl ?_
  intro p e s m args below meth c s₁ B hml hv
  obtain ⟨rfl, hA, hM, hG⟩ := hv
  have C0 := zC_of (D := D) (tc := tc) (A := A) B hml (zC_ex B) hA hG
  obtain ⟨hx, hb, hml, hr, hown, htb, hlk, hA, hG, hin, hex⟩ := id C0
  have hK := hG.1
  have hS : va_S A s.heap s.heap [] := va_S.rf
  have hl := lv_entry ([.ref h0]) (n := 1) (Nat.le_of_ble_eq_true rfl)
  rw [lg_entry_eq]
  generalize (lg_sl ([.ref h0]) ++ List.replicate (1 - (lg_sl ([.ref h0])).length) Slot.unset).toArray = ls at hl ⊢
  have hl : lv_has ls 1 [(0, .ref h0)] := hl
  refine lv_aload_n hx hb dL_reachedPersons_0 rfl (lv_at hl 0 rfl) ?_
  obtain ⟨fs2, v1, h3, e4, hw⟩ := hw
  refine z_get hx hb htb inw_L hown hK hM h3 rfl 5 (by decide) (htb _ t_434) (fun _ h9 => h9) e4 dL_reachedPersons_1 ?_
  refine lv_iconst (v := 0) hx hb dL_reachedPersons_4 (by decide +kernel) ?_
  refine va_calli (va_runS (As := [.ref v1, .int 0]) (rest := []) ⟨hx, hb, hml, hown, htb⟩ (k_L_countFrom (l := l) (D := D) (tc := tc) (A := A) hw) (cw_L_52 htb ⟨Nat.le_of_ble_eq_true rfl, Nat.le_of_ble_eq_true rfl⟩) (z_preS hG hA hS hM) rfl rfl hl.1 rfl (lv_room (Nat.le_of_ble_eq_true rfl)) dL_reachedPersons_5 ⟨Nat.le_refl _, Nat.le_refl _⟩) hS (fun _ _ h => h) (fun _ h => h) (fun r6 M5 t H locs ht hvm hw hB _ _ hS => ?_)
  have hM : zP D vwCl tc A M5 H := by rw [← ht]; exact hB
  exact W.iret hx hb hr (fun t ht hW => ⟨⟨_, _, rfl, hw, zB_of ht hM⟩, hS.F ht⟩) hS.2.2 dL_reachedPersons_8
abbrev r_L_comersBefore : Room := { frames := 0, cells := 0, slots := 0, locals := 0 }
def w_L_comersBefore_j50 (e0 : Nat) (post : Int32 → zM → Prop) (K5 : zM → Nat → Int32 → Int32 → Int32 → Int32 → Prop) (M : zM) (l0 : Nat) (l1 : Int32) (l2 : Int32) (l3 : Int32) (l4 : Int32) : Prop := K5 M l0 l1 l2 l3 (l4 + 1)
abbrev J_L_comersBefore_50 (p : Program) (l : Launch) (e : Env) (s : State) (m : MethodId) (args : Array Value) (below : List Frame) (meth : Method) (c : Code) (D : va_G) (tc : Nat → ClassId) (A : Nat → Prop) (Q : State → Prop) (K : zM → Nat → Int32 → Int32 → Int32 → Int32 → Prop) : Prop := ∀ (M : zM) (l0 : Nat) (l1 : Int32) (l2 : Int32) (l3 : Int32) (l4 : Int32) (H : Heap) (locs : List Loc) (ls : Array Slot), zP D vwCl tc A M H → va_S A s.heap H locs → lv_has ls 6 [(0, .ref l0), (1, .int l1), (2, .int l2), (3, .int l3), (4, .int l4)] → K M l0 l1 l2 l3 l4 → W p l e (r_L_comersBefore) s m args below meth c H locs 0 0 Q (F0 m 50 ls [])
set_option maxHeartbeats 4000000 in
set_option maxRecDepth 100000 in
theorem k_L_comersBefore_j50 {p : Program} {l : Launch} {e : Env} {s : State} {m : MethodId} {args : Array Value} {below : List Frame} {meth : Method} {c : Code} {D : va_G} {tc : Nat → ClassId} {A : Nat → Prop} {post : Int32 → zM → Prop} (C0 : zC R_L cL_comersBefore 6 (some .int) "comersBefore" D tc A p l s m args meth c) {K5 : zM → Nat → Int32 → Int32 → Int32 → Int32 → Prop} (hK5 : J_L_comersBefore_5 p l e s m args below meth c D tc A (MQ below (va_Qi post (zB D tc A) A) args s 0 0 A) K5) : J_L_comersBefore_50 p l e s m args below meth c D tc A (MQ below (va_Qi post (zB D tc A) A) args s 0 0 A) (w_L_comersBefore_j50 (tc 9) post K5) := by
  obtain ⟨hx, hb, hml, hr, hown, htb, hlk, hA, hG, hin, hex⟩ := id C0
  have hK := hG.1
  intro M l0 l1 l2 l3 l4 H locs ls hM hS hl hw
  refine lv_iinc (v := (l4 + 1)) (lv' := [(4, .int (l4 + 1)), (0, .ref l0), (1, .int l1), (2, .int l2), (3, .int l3)]) hx hb dL_comersBefore_50 hl (k := 4) rfl rfl (by decide) rfl (fun ls hl => ?_)
  refine lv_goto (tgt := 5) hx hb dL_comersBefore_53 (by decide) ?_
  exact hK5 _ _ _ _ _ _ _ _ _ hM hS (lv_sub hl [1, 2, 3, 4, 0] rfl) hw
def w_L_comersBefore_j47 (e0 : Nat) (post : Int32 → zM → Prop) (K5 : zM → Nat → Int32 → Int32 → Int32 → Int32 → Prop) (M : zM) (l0 : Nat) (l1 : Int32) (l2 : Int32) (l3 : Int32) (l4 : Int32) : Prop := w_L_comersBefore_j50 e0 post K5 M l0 l1 l2 (l3 + 1) l4
abbrev J_L_comersBefore_47 (p : Program) (l : Launch) (e : Env) (s : State) (m : MethodId) (args : Array Value) (below : List Frame) (meth : Method) (c : Code) (D : va_G) (tc : Nat → ClassId) (A : Nat → Prop) (Q : State → Prop) (K : zM → Nat → Int32 → Int32 → Int32 → Int32 → Prop) : Prop := ∀ (M : zM) (l0 : Nat) (l1 : Int32) (l2 : Int32) (l3 : Int32) (l4 : Int32) (H : Heap) (locs : List Loc) (ls : Array Slot), zP D vwCl tc A M H → va_S A s.heap H locs → lv_has ls 6 [(0, .ref l0), (1, .int l1), (2, .int l2), (3, .int l3), (4, .int l4)] → K M l0 l1 l2 l3 l4 → W p l e (r_L_comersBefore) s m args below meth c H locs 0 0 Q (F0 m 47 ls [])
set_option maxHeartbeats 4000000 in
set_option maxRecDepth 100000 in
theorem k_L_comersBefore_j47 {p : Program} {l : Launch} {e : Env} {s : State} {m : MethodId} {args : Array Value} {below : List Frame} {meth : Method} {c : Code} {D : va_G} {tc : Nat → ClassId} {A : Nat → Prop} {post : Int32 → zM → Prop} (C0 : zC R_L cL_comersBefore 6 (some .int) "comersBefore" D tc A p l s m args meth c) {K5 : zM → Nat → Int32 → Int32 → Int32 → Int32 → Prop} (hK5 : J_L_comersBefore_5 p l e s m args below meth c D tc A (MQ below (va_Qi post (zB D tc A) A) args s 0 0 A) K5) : J_L_comersBefore_47 p l e s m args below meth c D tc A (MQ below (va_Qi post (zB D tc A) A) args s 0 0 A) (w_L_comersBefore_j47 (tc 9) post K5) := by
  obtain ⟨hx, hb, hml, hr, hown, htb, hlk, hA, hG, hin, hex⟩ := id C0
  have hK := hG.1
  intro M l0 l1 l2 l3 l4 H locs ls hM hS hl hw
  refine lv_iinc (v := (l3 + 1)) (lv' := [(3, .int (l3 + 1)), (0, .ref l0), (1, .int l1), (2, .int l2), (4, .int l4)]) hx hb dL_comersBefore_47 hl (k := 3) rfl rfl (by decide) rfl (fun ls hl => ?_)
  exact k_L_comersBefore_j50 C0 hK5 _ _ _ _ _ _ _ _ _ hM hS (lv_sub hl [1, 2, 3, 0, 4] rfl) hw
def w_L_comersBefore_j5 (e0 : Nat) (post : Int32 → zM → Prop) : Nat → zM → Nat → Int32 → Int32 → Int32 → Int32 → Prop
  | 0, _, _, _, _, _, _ => False
  | n + 1, M, l0, l1, l2, l3, l4 => wGR M l0 1 6 (fun v1 => wAL M v1 0 (fun v6 => ((v6 ≤ l4) → post l3 M) ∧ (¬ (v6 ≤ l4) → wGR M l0 1 6 (fun v9 => wLI M v9 0 l4 (fun v15 => ((v15 < 0) → w_L_comersBefore_j50 e0 post (w_L_comersBefore_j5 e0 post n) M l0 l1 l2 l3 l4) ∧ (¬ (v15 < 0) → ((v15 < l2) → w_L_comersBefore_j47 e0 post (w_L_comersBefore_j5 e0 post n) M l0 l1 l2 l3 l4) ∧ (¬ (v15 < l2) → ((v15 = l2) → ((l1 ≤ l4) → w_L_comersBefore_j50 e0 post (w_L_comersBefore_j5 e0 post n) M l0 l1 l2 l3 l4) ∧ (¬ (l1 ≤ l4) → w_L_comersBefore_j47 e0 post (w_L_comersBefore_j5 e0 post n) M l0 l1 l2 l3 l4)) ∧ (¬ (v15 = l2) → w_L_comersBefore_j50 e0 post (w_L_comersBefore_j5 e0 post n) M l0 l1 l2 l3 l4))))))))
abbrev J_L_comersBefore_5 (p : Program) (l : Launch) (e : Env) (s : State) (m : MethodId) (args : Array Value) (below : List Frame) (meth : Method) (c : Code) (D : va_G) (tc : Nat → ClassId) (A : Nat → Prop) (Q : State → Prop) (K : zM → Nat → Int32 → Int32 → Int32 → Int32 → Prop) : Prop := ∀ (M : zM) (l0 : Nat) (l1 : Int32) (l2 : Int32) (l3 : Int32) (l4 : Int32) (H : Heap) (locs : List Loc) (ls : Array Slot), zP D vwCl tc A M H → va_S A s.heap H locs → lv_has ls 6 [(0, .ref l0), (1, .int l1), (2, .int l2), (3, .int l3), (4, .int l4)] → K M l0 l1 l2 l3 l4 → W p l e (r_L_comersBefore) s m args below meth c H locs 0 0 Q (F0 m 5 ls [])
set_option maxHeartbeats 4000000 in
set_option maxRecDepth 100000 in
theorem k_L_comersBefore_j5 {p : Program} {l : Launch} {e : Env} {s : State} {m : MethodId} {args : Array Value} {below : List Frame} {meth : Method} {c : Code} {D : va_G} {tc : Nat → ClassId} {A : Nat → Prop} {post : Int32 → zM → Prop} (C0 : zC R_L cL_comersBefore 6 (some .int) "comersBefore" D tc A p l s m args meth c) : ∀ n : Nat, J_L_comersBefore_5 p l e s m args below meth c D tc A (MQ below (va_Qi post (zB D tc A) A) args s 0 0 A) (w_L_comersBefore_j5 (tc 9) post n) := by
  obtain ⟨hx, hb, hml, hr, hown, htb, hlk, hA, hG, hin, hex⟩ := id C0
  have hK := hG.1
  intro n
  induction n with
  | zero => intro M l0 l1 l2 l3 l4 H locs ls hM hS hl hw; exact hw.elim
  | succ n ih =>
    intro M l0 l1 l2 l3 l4 H locs ls hM hS hl hw
    refine lv_iload hx hb dL_comersBefore_5 (lv_at hl 4 rfl) ?_
    refine lv_aload_n hx hb dL_comersBefore_7 rfl (lv_at hl 0 rfl) ?_
    obtain ⟨fs2, v1, h3, e4, hw⟩ := hw
    refine z_get hx hb htb inw_L hown hK hM h3 rfl 6 (by decide) (htb _ t_435) (fun _ h9 => h9) e4 dL_comersBefore_8 ?_
    obtain ⟨w5, v6, h7, (tc 8), hw⟩ := hw
    refine z_alen hx hb hK hM 0 0 h7 rfl (tc 8) dL_comersBefore_11 ?_
    refine lv_icmp_ge (tgt := 56) hx hb dL_comersBefore_12 (by decide) (fun hq => ?_) (fun hq => ?_)
    · have hw := hw.1 hq
      refine lv_iload_n hx hb dL_comersBefore_56 rfl (lv_at hl 3 rfl) ?_
      exact W.iret hx hb hr (fun t ht hW => ⟨⟨_, _, rfl, hw, zB_of ht hM⟩, hS.F ht⟩) hS.2.2 dL_comersBefore_57
    · have hw := hw.2 hq
      refine lv_aload_n hx hb dL_comersBefore_15 rfl (lv_at hl 0 rfl) ?_
      obtain ⟨fs10, v9, h11, e12, hw⟩ := hw
      refine z_get hx hb htb inw_L hown hK hM h11 rfl 6 (by decide) (htb _ t_435) (fun _ h9 => h9) e12 dL_comersBefore_16 ?_
      refine lv_iload hx hb dL_comersBefore_19 (lv_at hl 4 rfl) ?_
      obtain ⟨n13, f14, v15, h16, hi17, e18, hw⟩ := hw
      refine z_iald hx hb hK hM 0 0 h16 rfl hi17 e18 dL_comersBefore_21 ?_
      refine lv_istore (lv' := [(5, .int v15), (0, .ref l0), (1, .int l1), (2, .int l2), (3, .int l3), (4, .int l4)]) hx hb dL_comersBefore_22 hl (by decide) rfl (fun ls hl => ?_)
      refine lv_iload hx hb dL_comersBefore_24 (lv_at hl 0 rfl) ?_
      refine lv_if_lt (tgt := 50) hx hb dL_comersBefore_26 (by decide) (fun hq => ?_) (fun hq => ?_)
      · have hw := hw.1 hq
        exact k_L_comersBefore_j50 C0 ih _ _ _ _ _ _ _ _ _ hM hS (lv_sub hl [1, 2, 3, 4, 5] rfl) hw
      · have hw := hw.2 hq
        refine lv_iload hx hb dL_comersBefore_29 (lv_at hl 0 rfl) ?_
        refine lv_iload_n hx hb dL_comersBefore_31 rfl (lv_at hl 3 rfl) ?_
        refine lv_icmp_lt (tgt := 47) hx hb dL_comersBefore_32 (by decide) (fun hq => ?_) (fun hq => ?_)
        · have hw := hw.1 hq
          exact k_L_comersBefore_j47 C0 ih _ _ _ _ _ _ _ _ _ hM hS (lv_sub hl [1, 2, 3, 4, 5] rfl) hw
        · have hw := hw.2 hq
          refine lv_iload hx hb dL_comersBefore_35 (lv_at hl 0 rfl) ?_
          refine lv_iload_n hx hb dL_comersBefore_37 rfl (lv_at hl 3 rfl) ?_
          refine lv_icmp_ne (tgt := 50) hx hb dL_comersBefore_38 (by decide) (fun hq => ?_) (fun hq => ?_)
          · have hw := hw.2 hq
            exact k_L_comersBefore_j50 C0 ih _ _ _ _ _ _ _ _ _ hM hS (lv_sub hl [1, 2, 3, 4, 5] rfl) hw
          · have hw := hw.1 hq
            refine lv_iload hx hb dL_comersBefore_41 (lv_at hl 5 rfl) ?_
            refine lv_iload_n hx hb dL_comersBefore_43 rfl (lv_at hl 2 rfl) ?_
            refine lv_icmp_ge (tgt := 50) hx hb dL_comersBefore_44 (by decide) (fun hq => ?_) (fun hq => ?_)
            · have hw := hw.1 hq
              exact k_L_comersBefore_j50 C0 ih _ _ _ _ _ _ _ _ _ hM hS (lv_sub hl [1, 2, 3, 4, 5] rfl) hw
            · have hw := hw.2 hq
              exact k_L_comersBefore_j47 C0 ih _ _ _ _ _ _ _ _ _ hM hS (lv_sub hl [1, 2, 3, 4, 5] rfl) hw
def w_L_comersBefore (e0 : Nat) (post : Int32 → zM → Prop) (M : zM) (h0 : Nat) (x1 : Int32) (x2 : Int32) : Prop := ∃ n, w_L_comersBefore_j5 e0 post n M h0 x1 x2 0 0
set_option maxHeartbeats 4000000 in
set_option maxRecDepth 100000 in
theorem k_L_comersBefore {l : Launch} {D : va_G} {tc : Nat → ClassId} {A : Nat → Prop} {post : Int32 → zM → Prop} {M : zM} {h0 : Nat} {x1 : Int32} {x2 : Int32} (hw : w_L_comersBefore (tc 9) post M h0 x1 x2) : Met l yL_comersBefore (.code yL_comersBefore cL_comersBefore 6 (some .int) :: zTB) r_L_comersBefore (va_Pc [.ref h0, .int x1, .int x2] (zI D tc A M)) (va_Qi post (zB D tc A) A) 0 0 A := by
  refine Met.ofW (cc := cL_comersBefore) (maxL := 6) (ret := (some .int)) (by decide +kernel) rfl ?_
  intro p e s m args below meth c s₁ B hml hv
  obtain ⟨rfl, hA, hM, hG⟩ := hv
  have C0 := zC_of (D := D) (tc := tc) (A := A) B hml (zC_ex B) hA hG
  obtain ⟨hx, hb, hml, hr, hown, htb, hlk, hA, hG, hin, hex⟩ := id C0
  have hK := hG.1
  have hS : va_S A s.heap s.heap [] := va_S.rf
  have hl := lv_entry ([.ref h0, .int x1, .int x2]) (n := 6) (Nat.le_of_ble_eq_true rfl)
  rw [lg_entry_eq]
  generalize (lg_sl ([.ref h0, .int x1, .int x2]) ++ List.replicate (6 - (lg_sl ([.ref h0, .int x1, .int x2])).length) Slot.unset).toArray = ls at hl ⊢
  have hl : lv_has ls 6 [(0, .ref h0), (1, .int x1), (2, .int x2)] := hl
  refine lv_iconst (v := 0) hx hb dL_comersBefore_0 (by decide +kernel) ?_
  refine lv_istore_n (lv' := [(3, .int 0), (0, .ref h0), (1, .int x1), (2, .int x2)]) hx hb dL_comersBefore_1 rfl hl (by decide) rfl (fun ls hl => ?_)
  refine lv_iconst (v := 0) hx hb dL_comersBefore_2 (by decide +kernel) ?_
  refine lv_istore (lv' := [(4, .int 0), (3, .int 0), (0, .ref h0), (1, .int x1), (2, .int x2)]) hx hb dL_comersBefore_3 hl (by decide) rfl (fun ls hl => ?_)
  obtain ⟨n9, hw⟩ := hw
  exact k_L_comersBefore_j5 C0  n9 _ _ _ _ _ _ _ _ _ hM hS (lv_sub hl [2, 3, 4, 1, 0] rfl) hw
abbrev r_L_comerAt : Room := { frames := 1, cells := 0, slots := 0, locals := 25 }
def w_L_comerAt_j40 (e0 : Nat) (post : Int32 → zM → Prop) (K2 : zM → Nat → Int32 → Int32 → Prop) (M : zM) (l0 : Nat) (l1 : Int32) (l2 : Int32) : Prop := K2 M l0 l1 (l2 + 1)
abbrev J_L_comerAt_40 (p : Program) (l : Launch) (e : Env) (s : State) (m : MethodId) (args : Array Value) (below : List Frame) (meth : Method) (c : Code) (D : va_G) (tc : Nat → ClassId) (A : Nat → Prop) (Q : State → Prop) (K : zM → Nat → Int32 → Int32 → Prop) : Prop := ∀ (M : zM) (l0 : Nat) (l1 : Int32) (l2 : Int32) (H : Heap) (locs : List Loc) (ls : Array Slot), zP D vwCl tc A M H → va_S A s.heap H locs → lv_has ls 4 [(0, .ref l0), (1, .int l1), (2, .int l2)] → K M l0 l1 l2 → W p l e (r_L_comerAt) s m args below meth c H locs 0 0 Q (F0 m 40 ls [])
set_option maxHeartbeats 4000000 in
set_option maxRecDepth 100000 in
theorem k_L_comerAt_j40 {p : Program} {l : Launch} {e : Env} {s : State} {m : MethodId} {args : Array Value} {below : List Frame} {meth : Method} {c : Code} {D : va_G} {tc : Nat → ClassId} {A : Nat → Prop} {post : Int32 → zM → Prop} (C0 : zC R_L cL_comerAt 4 (some .int) "comerAt" D tc A p l s m args meth c) {K2 : zM → Nat → Int32 → Int32 → Prop} (hK2 : J_L_comerAt_2 p l e s m args below meth c D tc A (MQ below (va_Qi post (zB D tc A) A) args s 0 0 A) K2) : J_L_comerAt_40 p l e s m args below meth c D tc A (MQ below (va_Qi post (zB D tc A) A) args s 0 0 A) (w_L_comerAt_j40 (tc 9) post K2) := by
  obtain ⟨hx, hb, hml, hr, hown, htb, hlk, hA, hG, hin, hex⟩ := id C0
  have hK := hG.1
  intro M l0 l1 l2 H locs ls hM hS hl hw
  refine lv_iinc (v := (l2 + 1)) (lv' := [(2, .int (l2 + 1)), (0, .ref l0), (1, .int l1)]) hx hb dL_comerAt_40 hl (k := 2) rfl rfl (by decide) rfl (fun ls hl => ?_)
  refine lv_goto (tgt := 2) hx hb dL_comerAt_43 (by decide) ?_
  exact hK2 _ _ _ _ _ _ _ hM hS (lv_sub hl [1, 2, 0] rfl) hw
def w_L_comerAt_j2 (e0 : Nat) (post : Int32 → zM → Prop) : Nat → zM → Nat → Int32 → Int32 → Prop
  | 0, _, _, _, _ => False
  | n + 1, M, l0, l1, l2 => wGR M l0 1 6 (fun v1 => wAL M v1 0 (fun v6 => ((v6 ≤ l2) → post (-1) M) ∧ (¬ (v6 ≤ l2) → wGR M l0 1 6 (fun v9 => wLI M v9 0 l2 (fun v15 => ((v15 < 0) → w_L_comerAt_j40 e0 post (w_L_comerAt_j2 e0 post n) M l0 l1 l2) ∧ (¬ (v15 < 0) → wIs M l0 1 ∧ w_L_comersBefore e0 (fun r20 M19 => ((r20 = l1) → post ((1000 * l2) + v15) M19) ∧ (¬ (r20 = l1) → w_L_comerAt_j40 e0 post (w_L_comerAt_j2 e0 post n) M19 l0 l1 l2)) M l0 l2 v15))))))
abbrev J_L_comerAt_2 (p : Program) (l : Launch) (e : Env) (s : State) (m : MethodId) (args : Array Value) (below : List Frame) (meth : Method) (c : Code) (D : va_G) (tc : Nat → ClassId) (A : Nat → Prop) (Q : State → Prop) (K : zM → Nat → Int32 → Int32 → Prop) : Prop := ∀ (M : zM) (l0 : Nat) (l1 : Int32) (l2 : Int32) (H : Heap) (locs : List Loc) (ls : Array Slot), zP D vwCl tc A M H → va_S A s.heap H locs → lv_has ls 4 [(0, .ref l0), (1, .int l1), (2, .int l2)] → K M l0 l1 l2 → W p l e (r_L_comerAt) s m args below meth c H locs 0 0 Q (F0 m 2 ls [])
set_option maxHeartbeats 4000000 in
set_option maxRecDepth 100000 in
theorem k_L_comerAt_j2 {p : Program} {l : Launch} {e : Env} {s : State} {m : MethodId} {args : Array Value} {below : List Frame} {meth : Method} {c : Code} {D : va_G} {tc : Nat → ClassId} {A : Nat → Prop} {post : Int32 → zM → Prop} (C0 : zC R_L cL_comerAt 4 (some .int) "comerAt" D tc A p l s m args meth c) : ∀ n : Nat, J_L_comerAt_2 p l e s m args below meth c D tc A (MQ below (va_Qi post (zB D tc A) A) args s 0 0 A) (w_L_comerAt_j2 (tc 9) post n) := by
  obtain ⟨hx, hb, hml, hr, hown, htb, hlk, hA, hG, hin, hex⟩ := id C0
  have hK := hG.1
  intro n
  induction n with
  | zero => intro M l0 l1 l2 H locs ls hM hS hl hw; exact hw.elim
  | succ n ih =>
    intro M l0 l1 l2 H locs ls hM hS hl hw
    refine lv_iload_n hx hb dL_comerAt_2 rfl (lv_at hl 2 rfl) ?_
    refine lv_aload_n hx hb dL_comerAt_3 rfl (lv_at hl 0 rfl) ?_
    obtain ⟨fs2, v1, h3, e4, hw⟩ := hw
    refine z_get hx hb htb inw_L hown hK hM h3 rfl 6 (by decide) (htb _ t_435) (fun _ h9 => h9) e4 dL_comerAt_4 ?_
    obtain ⟨w5, v6, h7, (tc 8), hw⟩ := hw
    refine z_alen hx hb hK hM 0 0 h7 rfl (tc 8) dL_comerAt_7 ?_
    refine lv_icmp_ge (tgt := 46) hx hb dL_comerAt_8 (by decide) (fun hq => ?_) (fun hq => ?_)
    · have hw := hw.1 hq
      refine lv_iconst (v := (-1)) hx hb dL_comerAt_46 (by decide +kernel) ?_
      exact W.iret hx hb hr (fun t ht hW => ⟨⟨_, _, rfl, hw, zB_of ht hM⟩, hS.F ht⟩) hS.2.2 dL_comerAt_47
    · have hw := hw.2 hq
      refine lv_aload_n hx hb dL_comerAt_11 rfl (lv_at hl 0 rfl) ?_
      obtain ⟨fs10, v9, h11, e12, hw⟩ := hw
      refine z_get hx hb htb inw_L hown hK hM h11 rfl 6 (by decide) (htb _ t_435) (fun _ h9 => h9) e12 dL_comerAt_12 ?_
      refine lv_iload_n hx hb dL_comerAt_15 rfl (lv_at hl 2 rfl) ?_
      obtain ⟨n13, f14, v15, h16, hi17, e18, hw⟩ := hw
      refine z_iald hx hb hK hM 0 0 h16 rfl hi17 e18 dL_comerAt_16 ?_
      refine lv_istore_n (lv' := [(3, .int v15), (0, .ref l0), (1, .int l1), (2, .int l2)]) hx hb dL_comerAt_17 rfl hl (by decide) rfl (fun ls hl => ?_)
      refine lv_iload_n hx hb dL_comerAt_18 rfl (lv_at hl 0 rfl) ?_
      refine lv_if_lt (tgt := 40) hx hb dL_comerAt_19 (by decide) (fun hq => ?_) (fun hq => ?_)
      · have hw := hw.1 hq
        exact k_L_comerAt_j40 C0 ih _ _ _ _ _ _ _ hM hS (lv_sub hl [1, 2, 3] rfl) hw
      · have hw := hw.2 hq
        refine lv_aload_n hx hb dL_comerAt_22 rfl (lv_at hl 1 rfl) ?_
        refine lv_iload_n hx hb dL_comerAt_23 rfl (lv_at hl 3 rfl) ?_
        refine lv_iload_n hx hb dL_comerAt_24 rfl (lv_at hl 0 rfl) ?_
        obtain ⟨⟨fs21, h22⟩, hw⟩ := hw
        refine va_calli (va_runV (As := [.int l2, .int v15]) (rest := []) ⟨hx, hb, hml, hown, htb⟩ (k_L_comersBefore (l := l) (D := D) (tc := tc) (A := A) hw) (cw_L_56 htb ⟨Nat.le_of_ble_eq_true rfl, Nat.le_of_ble_eq_true rfl⟩) (z_preV hG hA hS hM h22 rfl) rfl rfl hl.1 rfl (lv_room (Nat.le_of_ble_eq_true rfl)) dL_comerAt_25 ⟨Nat.le_refl _, Nat.le_refl _⟩) hS (fun _ _ h => h) (fun _ h => h) (fun r20 M19 t H locs ht hvm hw hB _ _ hS => ?_)
        have hM : zP D vwCl tc A M19 H := by rw [← ht]; exact hB
        refine lv_iload_n hx hb dL_comerAt_28 rfl (lv_at hl 2 rfl) ?_
        refine lv_icmp_ne (tgt := 40) hx hb dL_comerAt_29 (by decide) (fun hq => ?_) (fun hq => ?_)
        · have hw := hw.2 hq
          exact k_L_comerAt_j40 C0 ih _ _ _ _ _ _ _ hM hS (lv_sub hl [1, 2, 3] rfl) hw
        · have hw := hw.1 hq
          refine lv_sipush (v := 1000) hx hb dL_comerAt_32 (by decide +kernel) ?_
          refine lv_iload_n hx hb dL_comerAt_35 rfl (lv_at hl 3 rfl) ?_
          refine lv_imul hx hb dL_comerAt_36 ?_
          refine lv_iload_n hx hb dL_comerAt_37 rfl (lv_at hl 0 rfl) ?_
          refine lv_iadd hx hb dL_comerAt_38 ?_
          exact W.iret hx hb hr (fun t ht hW => ⟨⟨_, _, rfl, hw, zB_of ht hM⟩, hS.F ht⟩) hS.2.2 dL_comerAt_39
def w_L_comerAt (e0 : Nat) (post : Int32 → zM → Prop) (M : zM) (h0 : Nat) (x1 : Int32) : Prop := ∃ n, w_L_comerAt_j2 e0 post n M h0 x1 0
set_option maxHeartbeats 4000000 in
set_option maxRecDepth 100000 in
theorem k_L_comerAt {l : Launch} {D : va_G} {tc : Nat → ClassId} {A : Nat → Prop} {post : Int32 → zM → Prop} {M : zM} {h0 : Nat} {x1 : Int32} (hw : w_L_comerAt (tc 9) post M h0 x1) : Met l yL_comerAt (.code yL_comerAt cL_comerAt 4 (some .int) :: zTB) r_L_comerAt (va_Pc [.ref h0, .int x1] (zI D tc A M)) (va_Qi post (zB D tc A) A) 0 0 A := by
  refine Met.ofW (cc := cL_comerAt) (maxL := 4) (ret := (some .int)) (by decide +kernel) rfl ?_
  intro p e s m args below meth c s₁ B hml hv
  obtain ⟨rfl, hA, hM, hG⟩ := hv
  have C0 := zC_of (D := D) (tc := tc) (A := A) B hml (zC_ex B) hA hG
  obtain ⟨hx, hb, hml, hr, hown, htb, hlk, hA, hG, hin, hex⟩ := id C0
  have hK := hG.1
  have hS : va_S A s.heap s.heap [] := va_S.rf
  have hl := lv_entry ([.ref h0, .int x1]) (n := 4) (Nat.le_of_ble_eq_true rfl)
  rw [lg_entry_eq]
  generalize (lg_sl ([.ref h0, .int x1]) ++ List.replicate (4 - (lg_sl ([.ref h0, .int x1])).length) Slot.unset).toArray = ls at hl ⊢
  have hl : lv_has ls 4 [(0, .ref h0), (1, .int x1)] := hl
  refine lv_iconst (v := 0) hx hb dL_comerAt_0 (by decide +kernel) ?_
  refine lv_istore_n (lv' := [(2, .int 0), (0, .ref h0), (1, .int x1)]) hx hb dL_comerAt_1 rfl hl (by decide) rfl (fun ls hl => ?_)
  obtain ⟨n9, hw⟩ := hw
  exact k_L_comerAt_j2 C0  n9 _ _ _ _ _ _ _ hM hS (lv_sub hl [1, 2, 0] rfl) hw
abbrev r_P_neverAnswers : Room := { frames := 0, cells := 0, slots := 0, locals := 0 }
def w_P_neverAnswers_j19 (e0 : Nat) (post : Int32 → zM → Prop) (M : zM) : Prop := post 0 M
abbrev J_P_neverAnswers_19 (p : Program) (l : Launch) (e : Env) (s : State) (m : MethodId) (args : Array Value) (below : List Frame) (meth : Method) (c : Code) (D : va_G) (tc : Nat → ClassId) (A : Nat → Prop) (Q : State → Prop) (K : zM → Prop) : Prop := ∀ (M : zM) (H : Heap) (locs : List Loc) (ls : Array Slot), zP D vwCl tc A M H → va_S A s.heap H locs → lv_has ls 1 [] → K M → W p l e (r_P_neverAnswers) s m args below meth c H locs 0 0 Q (F0 m 19 ls [])
set_option maxHeartbeats 4000000 in
set_option maxRecDepth 100000 in
theorem k_P_neverAnswers_j19 {p : Program} {l : Launch} {e : Env} {s : State} {m : MethodId} {args : Array Value} {below : List Frame} {meth : Method} {c : Code} {D : va_G} {tc : Nat → ClassId} {A : Nat → Prop} {post : Int32 → zM → Prop} (C0 : zC R_P cP_neverAnswers 1 (some .boolean) "neverAnswers" D tc A p l s m args meth c) : J_P_neverAnswers_19 p l e s m args below meth c D tc A (MQ below (va_Qi post (zB D tc A) A) args s 0 0 A) (w_P_neverAnswers_j19 (tc 9) post) := by
  obtain ⟨hx, hb, hml, hr, hown, htb, hlk, hA, hG, hin, hex⟩ := id C0
  have hK := hG.1
  intro M H locs ls hM hS hl hw
  refine lv_iconst (v := 0) hx hb dP_neverAnswers_19 (by decide +kernel) ?_
  exact W.zret hx hb hr rfl (fun t ht hW => ⟨⟨_, _, rfl, hw, zB_of ht hM⟩, hS.F ht⟩) hS.2.2 dP_neverAnswers_20
def w_P_neverAnswers (e0 : Nat) (post : Int32 → zM → Prop) (M : zM) (h0 : Nat) : Prop := wGI M h0 3 5 (fun v1 => ((v1 < 3) → w_P_neverAnswers_j19 e0 post M) ∧ (¬ (v1 < 3) → wGI M h0 3 6 (fun v5 => ((v5 = 0) → post 1 M) ∧ (¬ (v5 = 0) → w_P_neverAnswers_j19 e0 post M))))
set_option maxHeartbeats 4000000 in
set_option maxRecDepth 100000 in
theorem k_P_neverAnswers {l : Launch} {D : va_G} {tc : Nat → ClassId} {A : Nat → Prop} {post : Int32 → zM → Prop} {M : zM} {h0 : Nat} (hw : w_P_neverAnswers (tc 9) post M h0) : Met l yP_neverAnswers (.code yP_neverAnswers cP_neverAnswers 1 (some .boolean) :: zTB) r_P_neverAnswers (va_Pc [.ref h0] (zI D tc A M)) (va_Qi post (zB D tc A) A) 0 0 A := by
  refine Met.ofW (cc := cP_neverAnswers) (maxL := 1) (ret := (some .boolean)) (by decide +kernel) rfl ?_
  intro p e s m args below meth c s₁ B hml hv
  obtain ⟨rfl, hA, hM, hG⟩ := hv
  have C0 := zC_of (D := D) (tc := tc) (A := A) B hml (zC_ex B) hA hG
  obtain ⟨hx, hb, hml, hr, hown, htb, hlk, hA, hG, hin, hex⟩ := id C0
  have hK := hG.1
  have hS : va_S A s.heap s.heap [] := va_S.rf
  have hl := lv_entry ([.ref h0]) (n := 1) (Nat.le_of_ble_eq_true rfl)
  rw [lg_entry_eq]
  generalize (lg_sl ([.ref h0]) ++ List.replicate (1 - (lg_sl ([.ref h0])).length) Slot.unset).toArray = ls at hl ⊢
  have hl : lv_has ls 1 [(0, .ref h0)] := hl
  refine lv_aload_n hx hb dP_neverAnswers_0 rfl (lv_at hl 0 rfl) ?_
  obtain ⟨fs2, v1, h3, e4, hw⟩ := hw
  refine z_get hx hb htb inw_P hown hK hM h3 rfl 5 (by decide) (htb _ t_346) (fun _ h9 => h9) e4 dP_neverAnswers_1 ?_
  refine lv_iconst (v := 3) hx hb dP_neverAnswers_4 (by decide +kernel) ?_
  refine lv_icmp_lt (tgt := 19) hx hb dP_neverAnswers_5 (by decide) (fun hq => ?_) (fun hq => ?_)
  · have hw := hw.1 hq
    exact k_P_neverAnswers_j19 C0  _  _ _ _ hM hS (lv_sub hl [] rfl) hw
  · have hw := hw.2 hq
    refine lv_aload_n hx hb dP_neverAnswers_8 rfl (lv_at hl 0 rfl) ?_
    obtain ⟨fs6, v5, h7, (tc 8), hw⟩ := hw
    refine z_get hx hb htb inw_P hown hK hM h7 rfl 6 (by decide) (htb _ t_347) (fun _ h9 => h9) (tc 8) dP_neverAnswers_9 ?_
    refine lv_if_ne (tgt := 19) hx hb dP_neverAnswers_12 (by decide) (fun hq => ?_) (fun hq => ?_)
    · have hw := hw.2 hq
      exact k_P_neverAnswers_j19 C0  _  _ _ _ hM hS (lv_sub hl [] rfl) hw
    · have hw := hw.1 hq
      refine lv_iconst (v := 1) hx hb dP_neverAnswers_15 (by decide +kernel) ?_
      refine lv_goto (tgt := 20) hx hb dP_neverAnswers_16 (by decide) ?_
      exact W.zret hx hb hr rfl (fun t ht hW => ⟨⟨_, _, rfl, hw, zB_of ht hM⟩, hS.F ht⟩) hS.2.2 dP_neverAnswers_20
end
