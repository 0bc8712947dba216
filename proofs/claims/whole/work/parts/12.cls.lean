abbrev r_A_init (mc ms : Nat) : Room := { frames := 4, cells := mc, slots := ms, locals := 100 }
def w_A_init (e0 : Nat) (post : zM → Prop) (mc : Nat) (ms : Nat) (M : zM) (h0 : Nat) : Prop := wNO M 5 [.null, .int 0, .int 0] 3 mc ms (fun q1 M5 => w_Y_init e0 (fun M6 => wPF M6 h0 0 0 (.ref q1) (fun M10 => wNO M10 5 [.null, .int 0, .int 0] 3 (mc - 1) (ms - 3) (fun q11 M15 => w_Y_init e0 (fun M16 => wPF M16 h0 0 1 (.ref q11) (fun M20 => wNO M20 5 [.null, .int 0, .int 0] 3 ((mc - 1) - 1) ((ms - 3) - 3) (fun q21 M25 => w_Y_init e0 (fun M26 => wPF M26 h0 0 2 (.ref q21) (fun M30 => post M30)) M25 q21))) M15 q11))) M5 q1)
set_option maxHeartbeats 4000000 in
set_option maxRecDepth 100000 in
theorem k_A_init {l : Launch} {D : va_G} {tc : Nat → ClassId} {A : Nat → Prop} {mc ms : Nat} {post : zM → Prop} {M : zM} {h0 : Nat} (hw : w_A_init (tc 9) post mc ms M h0) : Met l yA_init (.code yA_init cA_init 1 none :: zTB) (r_A_init mc ms) (va_Pc [.ref h0] (zI D tc A M)) (va_Qv post (zB D tc A) A) mc ms A := by
  refine Met.ofW (cc := cA_init) (maxL := 1) (ret := none) (by decide +kernel) rfl ?_
  intro p e s m args below meth c s₁ B hml hv
  obtain ⟨rfl, hA, hM, hG⟩ := hv
  have C0 := zC_of (D := D) (tc := tc) (A := A) B hml (zC_ex B) hA hG
  obtain ⟨hx, hb, hml, hr, hown, htb, hlk, hA, hG, hin, hex⟩ := id C0
  have hK := hG.1
  have hS : va_S A s.heap s.heap [] := va_S.rf
  have hl := lv_entry ([.ref h0]) (n := 1) (Nat.le_of_ble_eq_true rfl)
  rw [lg_entry_eq]
  generalize (lg_sl ([.ref h0]) ++ List.replicate (1 - (lg_sl ([.ref h0])).length) Slot.unset).toArray = ls at hl ⊢
  have hl : lv_has ls 1 [(0, .ref h0)] := hl
  refine lv_aload_n hx hb dA_init_0 rfl (lv_at hl 0 rfl) ?_
  refine W.objInit hx hb hown (htb _ t_28) (htb _ t_29) (htb _ t_30) rfl (by rw [hml]; exact hl.1) rfl dA_init_1 (Nat.le_of_ble_eq_true rfl) (Nat.le_of_ble_eq_true rfl) ?_
  refine lv_aload_n hx hb dA_init_4 rfl (lv_at hl 0 rfl) ?_
  obtain ⟨h2, h3, hw⟩ := hw
  refine z_newO (ci := 5) (fs := [.null, .int 0, .int 0]) hx hb htb inw_Y ty_Y tyok_Y hown (htb _ t_31) (htb _ t_32) (htb _ t_4) hK hM hS hA rfl defok_Y (show 0 + 1 ≤ mc by omega) (show 0 + 3 ≤ ms by omega) dA_init_5 (fun q1 H hn4 hM hS => ?_)
  have hw := hw q1 hn4
  refine lv_dup hx hb dA_init_8 rfl ?_
  refine va_callv (va_runI (As := []) (rest := [.ref q1, .ref h0]) ⟨hx, hb, hml, hown, htb⟩ (k_Y_init (l := l) (D := D) (tc := tc) (A := A) hw) (cw_A_9 htb ⟨Nat.le_of_ble_eq_true rfl, Nat.le_of_ble_eq_true rfl⟩) (z_preS hG hA hS hM) rfl rfl hl.1 rfl (lv_room (Nat.le_of_ble_eq_true rfl)) dA_init_9 ⟨show (0 + 1) + 0 ≤ mc by omega, show (0 + 3) + 0 ≤ ms by omega⟩) hS (fun _ _ h => h) (fun _ h => h) (fun M6 t H locs ht hvm hw hB _ _ hS => ?_)
  have hM : zP D vwCl tc A M6 H := by rw [← ht]; exact hB
  obtain ⟨fs7, h8, hl9, hw⟩ := hw
  refine z_putF (ty := (.object "java/util/ArrayList")) hx hb htb inw_A ty_A tyok_A nmok_A hown hK hM hS h8 rfl 0 (by decide) (htb _ t_57) (fun _ h9 => h9) rfl hin rfl (by decide +kernel) rfl rfl hl9 dA_init_12 (fun H locs hM hS => ?_)
  refine lv_aload_n hx hb dA_init_15 rfl (lv_at hl 0 rfl) ?_
  obtain ⟨h12, h13, hw⟩ := hw
  refine z_newO (ci := 5) (fs := [.null, .int 0, .int 0]) hx hb htb inw_Y ty_Y tyok_Y hown (htb _ t_31) (htb _ t_32) (htb _ t_4) hK hM hS hA rfl defok_Y (show (0 + 1) + 1 ≤ mc by omega) (show (0 + 3) + 3 ≤ ms by omega) dA_init_16 (fun q11 H hn14 hM hS => ?_)
  have hw := hw q11 hn14
  refine lv_dup hx hb dA_init_19 rfl ?_
  refine va_callv (va_runI (As := []) (rest := [.ref q11, .ref h0]) ⟨hx, hb, hml, hown, htb⟩ (k_Y_init (l := l) (D := D) (tc := tc) (A := A) hw) (cw_A_9 htb ⟨Nat.le_of_ble_eq_true rfl, Nat.le_of_ble_eq_true rfl⟩) (z_preS hG hA hS hM) rfl rfl hl.1 rfl (lv_room (Nat.le_of_ble_eq_true rfl)) dA_init_20 ⟨show ((0 + 1) + 1) + 0 ≤ mc by omega, show ((0 + 3) + 3) + 0 ≤ ms by omega⟩) hS (fun _ _ h => h) (fun _ h => h) (fun M16 t H locs ht hvm hw hB _ _ hS => ?_)
  have hM : zP D vwCl tc A M16 H := by rw [← ht]; exact hB
  obtain ⟨fs17, h18, hl19, hw⟩ := hw
  refine z_putF (ty := (.object "java/util/ArrayList")) hx hb htb inw_A ty_A tyok_A nmok_A hown hK hM hS h18 rfl 1 (by decide) (htb _ t_58) (fun _ h9 => h9) rfl hin rfl (by decide +kernel) rfl rfl hl19 dA_init_23 (fun H locs hM hS => ?_)
  refine lv_aload_n hx hb dA_init_26 rfl (lv_at hl 0 rfl) ?_
  obtain ⟨h22, h23, hw⟩ := hw
  refine z_newO (ci := 5) (fs := [.null, .int 0, .int 0]) hx hb htb inw_Y ty_Y tyok_Y hown (htb _ t_31) (htb _ t_32) (htb _ t_4) hK hM hS hA rfl defok_Y (show ((0 + 1) + 1) + 1 ≤ mc by omega) (show ((0 + 3) + 3) + 3 ≤ ms by omega) dA_init_27 (fun q21 H hn24 hM hS => ?_)
  have hw := hw q21 hn24
  refine lv_dup hx hb dA_init_30 rfl ?_
  refine va_callv (va_runI (As := []) (rest := [.ref q21, .ref h0]) ⟨hx, hb, hml, hown, htb⟩ (k_Y_init (l := l) (D := D) (tc := tc) (A := A) hw) (cw_A_9 htb ⟨Nat.le_of_ble_eq_true rfl, Nat.le_of_ble_eq_true rfl⟩) (z_preS hG hA hS hM) rfl rfl hl.1 rfl (lv_room (Nat.le_of_ble_eq_true rfl)) dA_init_31 ⟨show (((0 + 1) + 1) + 1) + 0 ≤ mc by omega, show (((0 + 3) + 3) + 3) + 0 ≤ ms by omega⟩) hS (fun _ _ h => h) (fun _ h => h) (fun M26 t H locs ht hvm hw hB _ _ hS => ?_)
  have hM : zP D vwCl tc A M26 H := by rw [← ht]; exact hB
  obtain ⟨fs27, h28, hl29, hw⟩ := hw
  refine z_putF (ty := (.object "java/util/ArrayList")) hx hb htb inw_A ty_A tyok_A nmok_A hown hK hM hS h28 rfl 2 (by decide) (htb _ t_59) (fun _ h9 => h9) rfl hin rfl (by decide +kernel) rfl rfl hl29 dA_init_34 (fun H locs hM hS => ?_)
  refine W.widen (k := mc) (n := ms) (by omega) (by omega) ?_
  exact W.vret hx hb hr (fun t ht hW => ⟨⟨_, rfl, hw, zB_of ht hM⟩, hS.F ht⟩) hS.2.2 dA_init_37
abbrev r_A_group (mc ms : Nat) : Room := { frames := 7, cells := mc, slots := ms, locals := 191 }
abbrev J_A_group_11 (p : Program) (l : Launch) (e : Env) (s : State) (m : MethodId) (args : Array Value) (below : List Frame) (meth : Method) (c : Code) (D : va_G) (tc : Nat → ClassId) (A : Nat → Prop) (mcT msT : Nat) (Q : State → Prop) (K : Nat → Nat → zM → Prop) : Prop := ∀ (mc : Nat) (ms : Nat) (M : zM) (H : Heap) (locs : List Loc) (cells slots : Nat) (ls : Array Slot), cells + mc ≤ mcT → slots + ms ≤ msT → zP D vwCl tc A M H → va_S A s.heap H locs → lv_has ls 3 [] → K mc ms M → W p l e (r_A_group mcT msT) s m args below meth c H locs cells slots Q (F0 m 11 ls [])
abbrev J_A_group_33 (p : Program) (l : Launch) (e : Env) (s : State) (m : MethodId) (args : Array Value) (below : List Frame) (meth : Method) (c : Code) (D : va_G) (tc : Nat → ClassId) (A : Nat → Prop) (mcT msT : Nat) (Q : State → Prop) (K : Nat → Nat → zM → Prop) : Prop := ∀ (mc : Nat) (ms : Nat) (M : zM) (H : Heap) (locs : List Loc) (cells slots : Nat) (ls : Array Slot), cells + mc ≤ mcT → slots + ms ≤ msT → zP D vwCl tc A M H → va_S A s.heap H locs → lv_has ls 3 [] → K mc ms M → W p l e (r_A_group mcT msT) s m args below meth c H locs cells slots Q (F0 m 33 ls [])
def w_A_group_j11 (e0 : Nat) (post : Int32 → zM → Prop) (px : String → zM → Prop) (mc : Nat) (ms : Nat) (M : zM) : Prop := 1 ≤ mc ∧ 6 ≤ ms ∧ px "java/lang/IndexOutOfBoundsException" M
set_option maxHeartbeats 4000000 in
set_option maxRecDepth 100000 in
theorem k_A_group_j11 {p : Program} {l : Launch} {e : Env} {s : State} {m : MethodId} {args : Array Value} {below : List Frame} {meth : Method} {c : Code} {D : va_G} {tc : Nat → ClassId} {A : Nat → Prop} {mcT msT : Nat} {post : Int32 → zM → Prop} {px : String → zM → Prop} (C0 : zC R_A cA_group 3 (some .int) "group" D tc A p l s m args meth c) (hst : l.stackTraces = false) : J_A_group_11 p l e s m args below meth c D tc A mcT msT (vx_MQ below (va_Qi post (zB D tc A) A) (zX D tc A px) args s mcT msT A) (w_A_group_j11 (tc 9) post px) := by
  obtain ⟨hx, hb, hml, hr, hown, htb, hlk, hA, hG, hin, hex⟩ := id C0
  have hK := hG.1
  intro mc ms M H locs cells slots ls hbc hbs hM hS hl hw
  obtain ⟨hbu1, hbu2, hw⟩ := hw
  exact z_throwS (k := 0) hx hb hst hown (by decide +kernel) (htb _ t_88) (htb _ t_9) rfl (th_A_26 htb hG.2.1) thg_A_22_26 hG hS hM (hl.1.trans hml.symm) dA_group_11 dA_group_14 dA_group_15 dA_group_17 dA_group_20 (fun x9 hx9 => (hex x9 hx9).elim) (Nat.le_of_ble_eq_true rfl) (Nat.le_of_ble_eq_true rfl) (show cells + 1 ≤ mcT by omega) (show slots + 6 ≤ msT by omega) hlk hw (show cells + 1 ≤ mcT by omega) (show slots + 6 ≤ msT by omega)
def w_A_group_j33 (e0 : Nat) (post : Int32 → zM → Prop) (px : String → zM → Prop) (mc : Nat) (ms : Nat) (M : zM) : Prop := 1 ≤ mc ∧ 6 ≤ ms ∧ px "java/lang/IndexOutOfBoundsException" M
set_option maxHeartbeats 4000000 in
set_option maxRecDepth 100000 in
theorem k_A_group_j33 {p : Program} {l : Launch} {e : Env} {s : State} {m : MethodId} {args : Array Value} {below : List Frame} {meth : Method} {c : Code} {D : va_G} {tc : Nat → ClassId} {A : Nat → Prop} {mcT msT : Nat} {post : Int32 → zM → Prop} {px : String → zM → Prop} (C0 : zC R_A cA_group 3 (some .int) "group" D tc A p l s m args meth c) (hst : l.stackTraces = false) : J_A_group_33 p l e s m args below meth c D tc A mcT msT (vx_MQ below (va_Qi post (zB D tc A) A) (zX D tc A px) args s mcT msT A) (w_A_group_j33 (tc 9) post px) := by
  obtain ⟨hx, hb, hml, hr, hown, htb, hlk, hA, hG, hin, hex⟩ := id C0
  have hK := hG.1
  intro mc ms M H locs cells slots ls hbc hbs hM hS hl hw
  obtain ⟨hbu1, hbu2, hw⟩ := hw
  exact z_throwS (k := 1) hx hb hst hown (by decide +kernel) (htb _ t_88) (htb _ t_9) rfl (th_A_26 htb hG.2.1) thg_A_22_26 hG hS hM (hl.1.trans hml.symm) dA_group_33 dA_group_36 dA_group_37 dA_group_39 dA_group_42 (fun x9 hx9 => (hex x9 hx9).elim) (Nat.le_of_ble_eq_true rfl) (Nat.le_of_ble_eq_true rfl) (show cells + 1 ≤ mcT by omega) (show slots + 6 ≤ msT by omega) hlk hw (show cells + 1 ≤ mcT by omega) (show slots + 6 ≤ msT by omega)
def w_A_group (e0 : Nat) (post : Int32 → zM → Prop) (px : String → zM → Prop) (mc : Nat) (ms : Nat) (M : zM) (h0 : Nat) (x1 : Int32) (x2 : Int32) : Prop := ((x1 < 1) → w_A_group_j11 e0 post px mc ms M) ∧ (¬ (x1 < 1) → ((x1 ≤ 20) → ((x2 < 1) → w_A_group_j33 e0 post px mc ms M) ∧ (¬ (x2 < 1) → ((x2 ≤ 3600) → wGR M h0 0 0 (fun v1 => wIs M v1 5 ∧ w_Y_size e0 (fun r6 M5 => ((r6 < 12) → wGR M5 h0 0 0 (fun v7 => wNO M5 2 [.int 0, .int 0, .int 0, .int 0, .int 0] 5 mc ms (fun q11 M15 => w_G_init e0 (fun M16 => wIs M16 v7 5 ∧ ∃ mc18 ms19 : Nat, mc18 ≤ (mc - 1) ∧ ms19 ≤ (ms - 5) ∧ w_Y_add1 e0 (fun r20 M17 => wGR M17 h0 0 0 (fun v21 => wIs M17 v21 5 ∧ w_Y_size e0 (fun r26 M25 => post (r26 - 1) M25) M17 v21)) mc18 ms19 M16 v7 q11) M15 q11 x1 x2))) ∧ (¬ (r6 < 12) → 1 ≤ mc ∧ 6 ≤ ms ∧ px "java/lang/UnsupportedOperationException" M5)) M v1)) ∧ (¬ (x2 ≤ 3600) → w_A_group_j33 e0 post px mc ms M))) ∧ (¬ (x1 ≤ 20) → w_A_group_j11 e0 post px mc ms M))
set_option maxHeartbeats 4000000 in
set_option maxRecDepth 100000 in
theorem k_A_group {l : Launch} {D : va_G} {tc : Nat → ClassId} {A : Nat → Prop} {mc ms : Nat} {post : Int32 → zM → Prop} {px : String → zM → Prop} {M : zM} {h0 : Nat} {x1 : Int32} {x2 : Int32} (hst : l.stackTraces = false) (hw : w_A_group (tc 9) post px mc ms M h0 x1 x2) : vx_Met l yA_group (.code yA_group cA_group 3 (some .int) :: zTB) (r_A_group mc ms) (va_Pc [.ref h0, .int x1, .int x2] (zI D tc A M)) (va_Qi post (zB D tc A) A) (zX D tc A px) mc ms A := by
  refine vx_ofW (cc := cA_group) (maxL := 3) (ret := (some .int)) (by decide) rfl ?_
  intro p e s m args below meth c s₁ B hml ht9 hv
  obtain ⟨rfl, hA, hM, hG⟩ := hv
  have C0 := zC_of (D := D) (tc := tc) (A := A) B hml ht9 hA hG
  obtain ⟨hx, hb, hml, hr, hown, htb, hlk, hA, hG, hin, hex⟩ := id C0
  have hK := hG.1
  have hS : va_S A s.heap s.heap [] := va_S.rf
  have hl := lv_entry ([.ref h0, .int x1, .int x2]) (n := 3) (Nat.le_of_ble_eq_true rfl)
  rw [lg_entry_eq]
  generalize (lg_sl ([.ref h0, .int x1, .int x2]) ++ List.replicate (3 - (lg_sl ([.ref h0, .int x1, .int x2])).length) Slot.unset).toArray = ls at hl ⊢
  have hl : lv_has ls 3 [(0, .ref h0), (1, .int x1), (2, .int x2)] := hl
  refine lv_iload_n hx hb dA_group_0 rfl (lv_at hl 1 rfl) ?_
  refine lv_iconst (v := 1) hx hb dA_group_1 (by decide +kernel) ?_
  refine lv_icmp_lt (tgt := 11) hx hb dA_group_2 (by decide) (fun hq => ?_) (fun hq => ?_)
  · have hw := hw.1 hq
    exact k_A_group_j11 C0 hst  _ _ _  _ _ _ _ _ (show 0 + mc ≤ mc by omega) (show 0 + ms ≤ ms by omega) hM hS (lv_sub hl [] rfl) hw
  · have hw := hw.2 hq
    refine lv_iload_n hx hb dA_group_5 rfl (lv_at hl 1 rfl) ?_
    refine lv_bipush (v := 20) hx hb dA_group_6 (by decide +kernel) ?_
    refine lv_icmp_le (tgt := 21) hx hb dA_group_8 (by decide) (fun hq => ?_) (fun hq => ?_)
    · have hw := hw.1 hq
      refine lv_iload_n hx hb dA_group_21 rfl (lv_at hl 2 rfl) ?_
      refine lv_iconst (v := 1) hx hb dA_group_22 (by decide +kernel) ?_
      refine lv_icmp_lt (tgt := 33) hx hb dA_group_23 (by decide) (fun hq => ?_) (fun hq => ?_)
      · have hw := hw.1 hq
        exact k_A_group_j33 C0 hst  _ _ _  _ _ _ _ _ (show 0 + mc ≤ mc by omega) (show 0 + ms ≤ ms by omega) hM hS (lv_sub hl [] rfl) hw
      · have hw := hw.2 hq
        refine lv_iload_n hx hb dA_group_26 rfl (lv_at hl 2 rfl) ?_
        refine lv_sipush (v := 3600) hx hb dA_group_27 (by decide +kernel) ?_
        refine lv_icmp_le (tgt := 43) hx hb dA_group_30 (by decide) (fun hq => ?_) (fun hq => ?_)
        · have hw := hw.1 hq
          refine lv_aload_n hx hb dA_group_43 rfl (lv_at hl 0 rfl) ?_
          obtain ⟨fs2, v1, h3, ev4, hw⟩ := hw
          refine z_get hx hb htb inw_A hown hK hM h3 rfl 0 (by decide) (htb _ t_57) (fun _ h9 => h9) ev4 dA_group_44 ?_
          obtain ⟨⟨fs31, h32⟩, hw⟩ := hw
          refine va_calli (va_runV (As := []) (rest := []) ⟨hx, hb, hml, hown, htb⟩ (k_Y_size (l := l) (D := D) (tc := tc) (A := A) hw) (cw_A_31 htb ⟨Nat.le_of_ble_eq_true rfl, Nat.le_of_ble_eq_true rfl⟩) (z_preV hG hA hS hM h32 rfl) rfl rfl hl.1 rfl (lv_room (Nat.le_of_ble_eq_true rfl)) dA_group_47 ⟨show 0 + 0 ≤ mc by omega, show 0 + 0 ≤ ms by omega⟩) hS (fun _ _ h => h) (fun _ h => h) (fun r6 M5 t H locs ht hvm hw hB _ _ hS => ?_)
          have hM : zP D vwCl tc A M5 H := by rw [← ht]; exact hB
          refine lv_bipush (v := 12) hx hb dA_group_50 (by decide +kernel) ?_
          refine lv_icmp_lt (tgt := 65) hx hb dA_group_52 (by decide) (fun hq => ?_) (fun hq => ?_)
          · have hw := hw.1 hq
            refine lv_aload_n hx hb dA_group_65 rfl (lv_at hl 0 rfl) ?_
            obtain ⟨fs8, v7, h9, ev10, hw⟩ := hw
            refine z_get hx hb htb inw_A hown hK hM h9 rfl 0 (by decide) (htb _ t_57) (fun _ h9 => h9) ev10 dA_group_66 ?_
            obtain ⟨h12, h13, hw⟩ := hw
            refine z_newO (ci := 2) (fs := [.int 0, .int 0, .int 0, .int 0, .int 0]) hx hb htb inw_G ty_G tyok_G hown (htb _ t_179) (htb _ t_180) (htb _ t_11) hK hM hS hA rfl defok_G (show 0 + 1 ≤ mc by omega) (show 0 + 5 ≤ ms by omega) dA_group_69 (fun q11 H hn14 hM hS => ?_)
            have hw := hw q11 hn14
            refine lv_dup hx hb dA_group_72 rfl ?_
            refine lv_iload_n hx hb dA_group_73 rfl (lv_at hl 1 rfl) ?_
            refine lv_iload_n hx hb dA_group_74 rfl (lv_at hl 2 rfl) ?_
            refine va_callv (va_runI (As := [.int x1, .int x2]) (rest := [.ref q11, .ref v7]) ⟨hx, hb, hml, hown, htb⟩ (k_G_init (l := l) (D := D) (tc := tc) (A := A) hw) (cw_A_42 htb ⟨Nat.le_of_ble_eq_true rfl, Nat.le_of_ble_eq_true rfl⟩) (z_preS hG hA hS hM) rfl rfl hl.1 rfl (lv_room (Nat.le_of_ble_eq_true rfl)) dA_group_75 ⟨show (0 + 1) + 0 ≤ mc by omega, show (0 + 5) + 0 ≤ ms by omega⟩) hS (fun _ _ h => h) (fun _ h => h) (fun M16 t H locs ht hvm hw hB _ _ hS => ?_)
            have hM : zP D vwCl tc A M16 H := by rw [← ht]; exact hB
            obtain ⟨⟨fs29, h30⟩, hw⟩ := hw
            obtain ⟨mc18, ms19, hbmc18, hbms19, hw⟩ := hw
            refine va_calli (va_runV (As := [.ref q11]) (rest := []) ⟨hx, hb, hml, hown, htb⟩ (k_Y_add1 (l := l) (D := D) (tc := tc) (A := A) hw) (cw_A_45 htb ⟨Nat.le_of_ble_eq_true rfl, Nat.le_of_ble_eq_true rfl⟩) (z_preV hG hA hS hM h30 rfl) rfl rfl hl.1 rfl (lv_room (Nat.le_of_ble_eq_true rfl)) dA_group_78 ⟨show (0 + 1) + mc18 ≤ mc by omega, show (0 + 5) + ms19 ≤ ms by omega⟩) hS (fun _ _ h => h) (fun _ h => h) (fun r20 M17 t H locs ht hvm hw hB _ _ hS => ?_)
            have hM : zP D vwCl tc A M17 H := by rw [← ht]; exact hB
            refine lv_pop hx hb dA_group_81 rfl ?_
            refine lv_aload_n hx hb dA_group_82 rfl (lv_at hl 0 rfl) ?_
            obtain ⟨fs22, v21, h23, ev24, hw⟩ := hw
            refine z_get hx hb htb inw_A hown hK hM h23 rfl 0 (by decide) (htb _ t_57) (fun _ h9 => h9) ev24 dA_group_83 ?_
            obtain ⟨⟨fs27, h28⟩, hw⟩ := hw
            refine va_calli (va_runV (As := []) (rest := []) ⟨hx, hb, hml, hown, htb⟩ (k_Y_size (l := l) (D := D) (tc := tc) (A := A) hw) (cw_A_31 htb ⟨Nat.le_of_ble_eq_true rfl, Nat.le_of_ble_eq_true rfl⟩) (z_preV hG hA hS hM h28 rfl) rfl rfl hl.1 rfl (lv_room (Nat.le_of_ble_eq_true rfl)) dA_group_86 ⟨show ((0 + 1) + mc18) + 0 ≤ mc by omega, show ((0 + 5) + ms19) + 0 ≤ ms by omega⟩) hS (fun _ _ h => h) (fun _ h => h) (fun r26 M25 t H locs ht hvm hw hB _ _ hS => ?_)
            have hM : zP D vwCl tc A M25 H := by rw [← ht]; exact hB
            refine lv_iconst (v := 1) hx hb dA_group_89 (by decide +kernel) ?_
            refine lv_isub hx hb dA_group_90 ?_
            refine vx_ret ?_
            refine W.widen (k := mc) (n := ms) (by omega) (by omega) ?_
            exact W.iret hx hb hr (fun t ht hW => ⟨⟨_, _, rfl, hw, zB_of ht hM⟩, hS.F ht⟩) hS.2.2 dA_group_91
          · have hw := hw.2 hq
            obtain ⟨hbu1, hbu2, hw⟩ := hw
            exact z_throwS (k := 2) hx hb hst hown (by decide +kernel) (htb _ t_163) (htb _ t_10) rfl (th_A_39 htb hG.2.1) thg_A_35_39 hG hS hM (hl.1.trans hml.symm) dA_group_55 dA_group_58 dA_group_59 dA_group_61 dA_group_64 (fun x9 hx9 => (hex x9 hx9).elim) (Nat.le_of_ble_eq_true rfl) (Nat.le_of_ble_eq_true rfl) (show 0 + 1 ≤ mc by omega) (show 0 + 6 ≤ ms by omega) hlk hw (show 0 + 1 ≤ mc by omega) (show 0 + 6 ≤ ms by omega)
        · have hw := hw.2 hq
          exact k_A_group_j33 C0 hst  _ _ _  _ _ _ _ _ (show 0 + mc ≤ mc by omega) (show 0 + ms ≤ ms by omega) hM hS (lv_sub hl [] rfl) hw
    · have hw := hw.2 hq
      exact k_A_group_j11 C0 hst  _ _ _  _ _ _ _ _ (show 0 + mc ≤ mc by omega) (show 0 + ms ≤ ms by omega) hM hS (lv_sub hl [] rfl) hw
abbrev r_A_requireGroup (mc ms : Nat) : Room := { frames := 6, cells := mc, slots := ms, locals := 90 }
abbrev J_A_requireGroup_15 (p : Program) (l : Launch) (e : Env) (s : State) (m : MethodId) (args : Array Value) (below : List Frame) (meth : Method) (c : Code) (D : va_G) (tc : Nat → ClassId) (A : Nat → Prop) (mcT msT : Nat) (Q : State → Prop) (K : Nat → Nat → zM → Prop) : Prop := ∀ (mc : Nat) (ms : Nat) (M : zM) (H : Heap) (locs : List Loc) (cells slots : Nat) (ls : Array Slot), cells + mc ≤ mcT → slots + ms ≤ msT → zP D vwCl tc A M H → va_S A s.heap H locs → lv_has ls 2 [] → K mc ms M → W p l e (r_A_requireGroup mcT msT) s m args below meth c H locs cells slots Q (F0 m 15 ls [])
def w_A_requireGroup_j15 (e0 : Nat) (post : zM → Prop) (px : String → zM → Prop) (mc : Nat) (ms : Nat) (M : zM) : Prop := 1 ≤ mc ∧ 6 ≤ ms ∧ px "java/lang/IllegalArgumentException" M
set_option maxHeartbeats 4000000 in
set_option maxRecDepth 100000 in
theorem k_A_requireGroup_j15 {p : Program} {l : Launch} {e : Env} {s : State} {m : MethodId} {args : Array Value} {below : List Frame} {meth : Method} {c : Code} {D : va_G} {tc : Nat → ClassId} {A : Nat → Prop} {mcT msT : Nat} {post : zM → Prop} {px : String → zM → Prop} (C0 : zC R_A cA_requireGroup 2 none "requireGroup" D tc A p l s m args meth c) (hst : l.stackTraces = false) : J_A_requireGroup_15 p l e s m args below meth c D tc A mcT msT (vx_MQ below (va_Qv post (zB D tc A) A) (zX D tc A px) args s mcT msT A) (w_A_requireGroup_j15 (tc 9) post px) := by
  obtain ⟨hx, hb, hml, hr, hown, htb, hlk, hA, hG, hin, hex⟩ := id C0
  have hK := hG.1
  intro mc ms M H locs cells slots ls hbc hbs hM hS hl hw
  obtain ⟨hbu1, hbu2, hw⟩ := hw
  exact z_throwS (k := 3) hx hb hst hown (by decide +kernel) (htb _ t_279) (htb _ t_16) rfl (th_A_177 htb hG.2.1) thg_A_173_177 hG hS hM (hl.1.trans hml.symm) dA_requireGroup_15 dA_requireGroup_18 dA_requireGroup_19 dA_requireGroup_21 dA_requireGroup_24 (fun x9 hx9 => (hex x9 hx9).elim) (Nat.le_of_ble_eq_true rfl) (Nat.le_of_ble_eq_true rfl) (show cells + 1 ≤ mcT by omega) (show slots + 6 ≤ msT by omega) hlk hw (show cells + 1 ≤ mcT by omega) (show slots + 6 ≤ msT by omega)
def w_A_requireGroup (e0 : Nat) (post : zM → Prop) (px : String → zM → Prop) (mc : Nat) (ms : Nat) (M : zM) (h0 : Nat) (x1 : Int32) : Prop := ((x1 < 0) → w_A_requireGroup_j15 e0 post px mc ms M) ∧ (¬ (x1 < 0) → wGR M h0 0 0 (fun v1 => wIs M v1 5 ∧ w_Y_size e0 (fun r6 M5 => ((x1 < r6) → post M5) ∧ (¬ (x1 < r6) → w_A_requireGroup_j15 e0 post px mc ms M5)) M v1))
set_option maxHeartbeats 4000000 in
set_option maxRecDepth 100000 in
theorem k_A_requireGroup {l : Launch} {D : va_G} {tc : Nat → ClassId} {A : Nat → Prop} {mc ms : Nat} {post : zM → Prop} {px : String → zM → Prop} {M : zM} {h0 : Nat} {x1 : Int32} (hst : l.stackTraces = false) (hw : w_A_requireGroup (tc 9) post px mc ms M h0 x1) : vx_Met l yA_requireGroup (.code yA_requireGroup cA_requireGroup 2 none :: zTB) (r_A_requireGroup mc ms) (va_Pc [.ref h0, .int x1] (zI D tc A M)) (va_Qv post (zB D tc A) A) (zX D tc A px) mc ms A := by
  refine vx_ofW (cc := cA_requireGroup) (maxL := 2) (ret := none) (by decide) rfl ?_
  intro p e s m args below meth c s₁ B hml ht9 hv
  obtain ⟨rfl, hA, hM, hG⟩ := hv
  have C0 := zC_of (D := D) (tc := tc) (A := A) B hml ht9 hA hG
  obtain ⟨hx, hb, hml, hr, hown, htb, hlk, hA, hG, hin, hex⟩ := id C0
  have hK := hG.1
  have hS : va_S A s.heap s.heap [] := va_S.rf
  have hl := lv_entry ([.ref h0, .int x1]) (n := 2) (Nat.le_of_ble_eq_true rfl)
  rw [lg_entry_eq]
  generalize (lg_sl ([.ref h0, .int x1]) ++ List.replicate (2 - (lg_sl ([.ref h0, .int x1])).length) Slot.unset).toArray = ls at hl ⊢
  have hl : lv_has ls 2 [(0, .ref h0), (1, .int x1)] := hl
  refine lv_iload_n hx hb dA_requireGroup_0 rfl (lv_at hl 1 rfl) ?_
  refine lv_if_lt (tgt := 15) hx hb dA_requireGroup_1 (by decide) (fun hq => ?_) (fun hq => ?_)
  · have hw := hw.1 hq
    exact k_A_requireGroup_j15 C0 hst  _ _ _  _ _ _ _ _ (show 0 + mc ≤ mc by omega) (show 0 + ms ≤ ms by omega) hM hS (lv_sub hl [] rfl) hw
  · have hw := hw.2 hq
    refine lv_iload_n hx hb dA_requireGroup_4 rfl (lv_at hl 1 rfl) ?_
    refine lv_aload_n hx hb dA_requireGroup_5 rfl (lv_at hl 0 rfl) ?_
    obtain ⟨fs2, v1, h3, ev4, hw⟩ := hw
    refine z_get hx hb htb inw_A hown hK hM h3 rfl 0 (by decide) (htb _ t_57) (fun _ h9 => h9) ev4 dA_requireGroup_6 ?_
    obtain ⟨⟨fs7, h8⟩, hw⟩ := hw
    refine va_calli (va_runV (As := []) (rest := [.int x1]) ⟨hx, hb, hml, hown, htb⟩ (k_Y_size (l := l) (D := D) (tc := tc) (A := A) hw) (cw_A_31 htb ⟨Nat.le_of_ble_eq_true rfl, Nat.le_of_ble_eq_true rfl⟩) (z_preV hG hA hS hM h8 rfl) rfl rfl hl.1 rfl (lv_room (Nat.le_of_ble_eq_true rfl)) dA_requireGroup_9 ⟨show 0 + 0 ≤ mc by omega, show 0 + 0 ≤ ms by omega⟩) hS (fun _ _ h => h) (fun _ h => h) (fun r6 M5 t H locs ht hvm hw hB _ _ hS => ?_)
    have hM : zP D vwCl tc A M5 H := by rw [← ht]; exact hB
    refine lv_icmp_lt (tgt := 25) hx hb dA_requireGroup_12 (by decide) (fun hq => ?_) (fun hq => ?_)
    · have hw := hw.1 hq
      refine vx_ret ?_
      refine W.widen (k := mc) (n := ms) (by omega) (by omega) ?_
      exact W.vret hx hb hr (fun t ht hW => ⟨⟨_, rfl, hw, zB_of ht hM⟩, hS.F ht⟩) hS.2.2 dA_requireGroup_25
    · have hw := hw.2 hq
      exact k_A_requireGroup_j15 C0 hst  _ _ _  _ _ _ _ _ (show 0 + mc ≤ mc by omega) (show 0 + ms ≤ ms by omega) hM hS (lv_sub hl [] rfl) hw
abbrev r_A_groupOf (mc ms : Nat) : Room := { frames := 7, cells := mc, slots := ms, locals := 111 }
def w_A_groupOf (e0 : Nat) (post : Option Nat → zM → Prop) (px : String → zM → Prop) (mc : Nat) (ms : Nat) (M : zM) (h0 : Nat) (x1 : Int32) : Prop := wIs M h0 0 ∧ ∃ mc2 ms3 : Nat, mc2 ≤ mc ∧ ms3 ≤ ms ∧ w_A_requireGroup e0 (fun M1 => wGR M1 h0 0 0 (fun v4 => wIs M1 v4 5 ∧ w_Y_get e0 (fun r9 M8 => wSm r9 (fun a10 => wIs M8 a10 2 ∧ post (some a10) M8)) M1 v4 x1)) px mc2 ms3 M h0 x1
set_option maxHeartbeats 4000000 in
set_option maxRecDepth 100000 in
theorem k_A_groupOf {l : Launch} {D : va_G} {tc : Nat → ClassId} {A : Nat → Prop} {mc ms : Nat} {post : Option Nat → zM → Prop} {px : String → zM → Prop} {M : zM} {h0 : Nat} {x1 : Int32} (hst : l.stackTraces = false) (hw : w_A_groupOf (tc 9) post px mc ms M h0 x1) : vx_Met l yA_groupOf (.code yA_groupOf cA_groupOf 2 (some (.object "AlertRows$Group")) :: zTB) (r_A_groupOf mc ms) (va_Pc [.ref h0, .int x1] (zI D tc A M)) (va_Qq post (zB D tc A) A) (zX D tc A px) mc ms A := by
  refine vx_ofW (cc := cA_groupOf) (maxL := 2) (ret := (some (.object "AlertRows$Group"))) (by decide) rfl ?_
  intro p e s m args below meth c s₁ B hml ht9 hv
  obtain ⟨rfl, hA, hM, hG⟩ := hv
  have C0 := zC_of (D := D) (tc := tc) (A := A) B hml ht9 hA hG
  obtain ⟨hx, hb, hml, hr, hown, htb, hlk, hA, hG, hin, hex⟩ := id C0
  have hK := hG.1
  have hS : va_S A s.heap s.heap [] := va_S.rf
  have hl := lv_entry ([.ref h0, .int x1]) (n := 2) (Nat.le_of_ble_eq_true rfl)
  rw [lg_entry_eq]
  generalize (lg_sl ([.ref h0, .int x1]) ++ List.replicate (2 - (lg_sl ([.ref h0, .int x1])).length) Slot.unset).toArray = ls at hl ⊢
  have hl : lv_has ls 2 [(0, .ref h0), (1, .int x1)] := hl
  refine lv_aload_n hx hb dA_groupOf_0 rfl (lv_at hl 0 rfl) ?_
  refine lv_iload_n hx hb dA_groupOf_1 rfl (lv_at hl 1 rfl) ?_
  obtain ⟨⟨fs15, h16⟩, hw⟩ := hw
  obtain ⟨mc2, ms3, hbmc2, hbms3, hw⟩ := hw
  refine vx_callv (vx_runV (As := [.int x1]) (rest := []) ⟨hx, hb, hml, hown, htb⟩ (k_A_requireGroup (l := l) (D := D) (tc := tc) (A := A) hst hw) (cw_A_53 htb ⟨Nat.le_of_ble_eq_true rfl, Nat.le_of_ble_eq_true rfl⟩) (z_preV hG hA hS hM h16 rfl) rfl rfl hl.1 rfl (lv_room (Nat.le_of_ble_eq_true rfl)) dA_groupOf_2 ⟨show 0 + mc2 ≤ mc by omega, show 0 + ms3 ≤ ms by omega⟩) hS (fun _ _ h => h) (fun _ h => h) (fun _ _ h => h) (fun E9 ce9 q9 u9 t9 H locs ht hvm hw hB _ _ hS hce hcv hcl => z_out (fun x9 hx9 => (hex x9 hx9).elim) hlk hce hcv hcl ht hB hS hw (show 0 + mc2 ≤ mc by omega) (show 0 + ms3 ≤ ms by omega)) (fun M1 t H locs ht hvm hw hB _ _ hS => ?_)
  have hM : zP D vwCl tc A M1 H := by rw [← ht]; exact hB
  refine lv_aload_n hx hb dA_groupOf_5 rfl (lv_at hl 0 rfl) ?_
  obtain ⟨fs5, v4, h6, ev7, hw⟩ := hw
  refine z_get hx hb htb inw_A hown hK hM h6 rfl 0 (by decide) (htb _ t_57) (fun _ h9 => h9) ev7 dA_groupOf_6 ?_
  refine lv_iload_n hx hb dA_groupOf_9 rfl (lv_at hl 1 rfl) ?_
  obtain ⟨⟨fs13, h14⟩, hw⟩ := hw
  refine va_callq (va_runV (As := [.int x1]) (rest := []) ⟨hx, hb, hml, hown, htb⟩ (k_Y_get (l := l) (D := D) (tc := tc) (A := A) hw) (cw_A_203 htb ⟨Nat.le_of_ble_eq_true rfl, Nat.le_of_ble_eq_true rfl⟩) (z_preV hG hA hS hM h14 rfl) rfl rfl hl.1 rfl (lv_room (Nat.le_of_ble_eq_true rfl)) dA_groupOf_10 ⟨show (0 + mc2) + 0 ≤ mc by omega, show (0 + ms3) + 0 ≤ ms by omega⟩) hS (fun _ _ h => h) (fun _ h => h) (fun r9 M8 t H locs ht hvm hw hB _ _ hS => ?_)
  have hM : zP D vwCl tc A M8 H := by rw [← ht]; exact hB
  obtain ⟨a10, rfl, hw⟩ := hw
  obtain ⟨⟨fs11, h12⟩, hw⟩ := hw
  refine va_castS hx hb hown (htb _ t_179) (hK.1 2 _ rfl).2 (z_recv hK hM h12 rfl) dA_groupOf_13 ?_
  refine vx_ret ?_
  refine W.widen (k := mc) (n := ms) (by omega) (by omega) ?_
  exact W.aret (v := va_rf (some a10)) hx hb hr (by first | exact Or.inl ⟨_, rfl⟩ | exact Or.inr ⟨_, rfl⟩) (va_rf_or _) (fun t ht hW => ⟨⟨_, _, rfl, hw, zB_of ht hM⟩, hS.F ht⟩) hS.2.2 dA_groupOf_16
abbrev r_A_next (mc ms : Nat) : Room := { frames := 8, cells := mc, slots := ms, locals := 132 }
abbrev J_A_next_31 (p : Program) (l : Launch) (e : Env) (s : State) (m : MethodId) (args : Array Value) (below : List Frame) (meth : Method) (c : Code) (D : va_G) (tc : Nat → ClassId) (A : Nat → Prop) (mcT msT : Nat) (Q : State → Prop) (K : Nat → Nat → zM → Int32 → Nat → Prop) : Prop := ∀ (mc : Nat) (ms : Nat) (M : zM) (l2 : Int32) (l3 : Nat) (H : Heap) (locs : List Loc) (cells slots : Nat) (ls : Array Slot), cells + mc ≤ mcT → slots + ms ≤ msT → zP D vwCl tc A M H → va_S A s.heap H locs → lv_has ls 4 [(2, .int l2), (3, .ref l3)] → K mc ms M l2 l3 → W p l e (r_A_next mcT msT) s m args below meth c H locs cells slots Q (F0 m 31 ls [])
def w_A_next_j31 (e0 : Nat) (post : zM → Prop) (px : String → zM → Prop) (mc : Nat) (ms : Nat) (M : zM) (l2 : Int32) (l3 : Nat) : Prop := wPF M l3 2 2 (.int l2) (fun M4 => post M4)
set_option maxHeartbeats 4000000 in
set_option maxRecDepth 100000 in
theorem k_A_next_j31 {p : Program} {l : Launch} {e : Env} {s : State} {m : MethodId} {args : Array Value} {below : List Frame} {meth : Method} {c : Code} {D : va_G} {tc : Nat → ClassId} {A : Nat → Prop} {mcT msT : Nat} {post : zM → Prop} {px : String → zM → Prop} (C0 : zC R_A cA_next 4 none "next" D tc A p l s m args meth c) (hst : l.stackTraces = false) : J_A_next_31 p l e s m args below meth c D tc A mcT msT (vx_MQ below (va_Qv post (zB D tc A) A) (zX D tc A px) args s mcT msT A) (w_A_next_j31 (tc 9) post px) := by
  obtain ⟨hx, hb, hml, hr, hown, htb, hlk, hA, hG, hin, hex⟩ := id C0
  have hK := hG.1
  intro mc ms M l2 l3 H locs cells slots ls hbc hbs hM hS hl hw
  refine lv_aload_n hx hb dA_next_31 rfl (lv_at hl 1 rfl) ?_
  refine lv_iload_n hx hb dA_next_32 rfl (lv_at hl 0 rfl) ?_
  obtain ⟨fs1, h2, hl3, hw⟩ := hw
  refine z_putN (ty := .int) hx hb htb inw_G ty_G tyok_G nmok_G hown hK hM hS h2 rfl 2 (by decide) (va_Nw.use rfl (hG.2.1 _ t_190)) (fun _ h9 => h9) rfl (by decide +kernel) rfl rfl hl3 dA_next_33 (fun H locs hM hS => ?_)
  refine vx_ret ?_
  refine W.widen (k := mcT) (n := msT) (by omega) (by omega) ?_
  exact W.vret hx hb hr (fun t ht hW => ⟨⟨_, rfl, hw, zB_of ht hM⟩, hS.F ht⟩) hS.2.2 dA_next_36
def w_A_next (e0 : Nat) (post : zM → Prop) (px : String → zM → Prop) (mc : Nat) (ms : Nat) (M : zM) (h0 : Nat) (x1 : Int32) (x2 : Int32) : Prop := wIs M h0 0 ∧ ∃ mc2 ms3 : Nat, mc2 ≤ mc ∧ ms3 ≤ ms ∧ w_A_groupOf e0 (fun r4 M1 => wSm r4 (fun a5 => ((x2 = (-1)) → w_A_next_j31 e0 post px (mc - mc2) (ms - ms3) M1 x2 a5) ∧ (¬ (x2 = (-1)) → wIs M1 h0 0 ∧ ∃ mc7 ms8 : Nat, mc7 ≤ (mc - mc2) ∧ ms8 ≤ (ms - ms3) ∧ w_A_requireGroup e0 (fun M6 => ((x1 < x2) → w_A_next_j31 e0 post px ((mc - mc2) - mc7) ((ms - ms3) - ms8) M6 x2 a5) ∧ (¬ (x1 < x2) → 1 ≤ ((mc - mc2) - mc7) ∧ 6 ≤ ((ms - ms3) - ms8) ∧ px "java/lang/IllegalStateException" M6)) px mc7 ms8 M1 h0 x2))) px mc2 ms3 M h0 x1
set_option maxHeartbeats 4000000 in
set_option maxRecDepth 100000 in
theorem k_A_next {l : Launch} {D : va_G} {tc : Nat → ClassId} {A : Nat → Prop} {mc ms : Nat} {post : zM → Prop} {px : String → zM → Prop} {M : zM} {h0 : Nat} {x1 : Int32} {x2 : Int32} (hst : l.stackTraces = false) (hw : w_A_next (tc 9) post px mc ms M h0 x1 x2) : vx_Met l yA_next (.code yA_next cA_next 4 none :: zTB) (r_A_next mc ms) (va_Pc [.ref h0, .int x1, .int x2] (zI D tc A M)) (va_Qv post (zB D tc A) A) (zX D tc A px) mc ms A := by
  refine vx_ofW (cc := cA_next) (maxL := 4) (ret := none) (by decide) rfl ?_
  intro p e s m args below meth c s₁ B hml ht9 hv
  obtain ⟨rfl, hA, hM, hG⟩ := hv
  have C0 := zC_of (D := D) (tc := tc) (A := A) B hml ht9 hA hG
  obtain ⟨hx, hb, hml, hr, hown, htb, hlk, hA, hG, hin, hex⟩ := id C0
  have hK := hG.1
  have hS : va_S A s.heap s.heap [] := va_S.rf
  have hl := lv_entry ([.ref h0, .int x1, .int x2]) (n := 4) (Nat.le_of_ble_eq_true rfl)
  rw [lg_entry_eq]
  generalize (lg_sl ([.ref h0, .int x1, .int x2]) ++ List.replicate (4 - (lg_sl ([.ref h0, .int x1, .int x2])).length) Slot.unset).toArray = ls at hl ⊢
  have hl : lv_has ls 4 [(0, .ref h0), (1, .int x1), (2, .int x2)] := hl
  refine lv_aload_n hx hb dA_next_0 rfl (lv_at hl 0 rfl) ?_
  refine lv_iload_n hx hb dA_next_1 rfl (lv_at hl 1 rfl) ?_
  obtain ⟨⟨fs11, h12⟩, hw⟩ := hw
  obtain ⟨mc2, ms3, hbmc2, hbms3, hw⟩ := hw
  refine zx_callq (vx_runV (As := [.int x1]) (rest := []) ⟨hx, hb, hml, hown, htb⟩ (k_A_groupOf (l := l) (D := D) (tc := tc) (A := A) hst hw) (cw_A_49 htb ⟨Nat.le_of_ble_eq_true rfl, Nat.le_of_ble_eq_true rfl⟩) (z_preV hG hA hS hM h12 rfl) rfl rfl hl.1 rfl (lv_room (Nat.le_of_ble_eq_true rfl)) dA_next_2 ⟨show 0 + mc2 ≤ mc by omega, show 0 + ms3 ≤ ms by omega⟩) hS (fun _ _ h => h) (fun _ h => h) (fun _ _ h => h) (fun E9 ce9 q9 u9 t9 H locs ht hvm hw hB _ _ hS hce hcv hcl => z_out (fun x9 hx9 => (hex x9 hx9).elim) hlk hce hcv hcl ht hB hS hw (show 0 + mc2 ≤ mc by omega) (show 0 + ms3 ≤ ms by omega)) (fun r4 M1 t H locs ht hvm hw hB _ _ hS => ?_)
  have hM : zP D vwCl tc A M1 H := by rw [← ht]; exact hB
  obtain ⟨a5, rfl, hw⟩ := hw
  refine lv_astore_n (lv' := [(3, .ref a5), (0, .ref h0), (1, .int x1), (2, .int x2)]) hx hb dA_next_5 rfl hl (by decide) rfl (fun ls hl => ?_)
  refine lv_iload_n hx hb dA_next_6 rfl (lv_at hl 3 rfl) ?_
  refine lv_iconst (v := (-1)) hx hb dA_next_7 (by decide +kernel) ?_
  refine lv_icmp_eq (tgt := 31) hx hb dA_next_8 (by decide) (fun hq => ?_) (fun hq => ?_)
  · have hw := hw.1 hq
    exact k_A_next_j31 C0 hst  _ _ _ _ _ _ _ _ _ _ (show (0 + mc2) + (mc - mc2) ≤ mc by omega) (show (0 + ms3) + (ms - ms3) ≤ ms by omega) hM hS (lv_sub hl [3, 0] rfl) hw
  · have hw := hw.2 hq
    refine lv_aload_n hx hb dA_next_11 rfl (lv_at hl 1 rfl) ?_
    refine lv_iload_n hx hb dA_next_12 rfl (lv_at hl 3 rfl) ?_
    obtain ⟨⟨fs9, h10⟩, hw⟩ := hw
    obtain ⟨mc7, ms8, hbmc7, hbms8, hw⟩ := hw
    refine vx_callv (vx_runV (As := [.int x2]) (rest := []) ⟨hx, hb, hml, hown, htb⟩ (k_A_requireGroup (l := l) (D := D) (tc := tc) (A := A) hst hw) (cw_A_53 htb ⟨Nat.le_of_ble_eq_true rfl, Nat.le_of_ble_eq_true rfl⟩) (z_preV hG hA hS hM h10 rfl) rfl rfl hl.1 rfl (lv_room (Nat.le_of_ble_eq_true rfl)) dA_next_13 ⟨show (0 + mc2) + mc7 ≤ mc by omega, show (0 + ms3) + ms8 ≤ ms by omega⟩) hS (fun _ _ h => h) (fun _ h => h) (fun _ _ h => h) (fun E9 ce9 q9 u9 t9 H locs ht hvm hw hB _ _ hS hce hcv hcl => z_out (fun x9 hx9 => (hex x9 hx9).elim) hlk hce hcv hcl ht hB hS hw (show (0 + mc2) + mc7 ≤ mc by omega) (show (0 + ms3) + ms8 ≤ ms by omega)) (fun M6 t H locs ht hvm hw hB _ _ hS => ?_)
    have hM : zP D vwCl tc A M6 H := by rw [← ht]; exact hB
    refine lv_iload_n hx hb dA_next_16 rfl (lv_at hl 3 rfl) ?_
    refine lv_iload_n hx hb dA_next_17 rfl (lv_at hl 2 rfl) ?_
    refine lv_icmp_gt (tgt := 31) hx hb dA_next_18 (by decide) (fun hq => ?_) (fun hq => ?_)
    · have hw := hw.1 hq
      exact k_A_next_j31 C0 hst  _ _ _ _ _ _ _ _ _ _ (show ((0 + mc2) + mc7) + ((mc - mc2) - mc7) ≤ mc by omega) (show ((0 + ms3) + ms8) + ((ms - ms3) - ms8) ≤ ms by omega) hM hS (lv_sub hl [3, 0] rfl) hw
    · have hw := hw.2 hq
      obtain ⟨hbu1, hbu2, hw⟩ := hw
      exact z_throwS (k := 4) hx hb hst hown (by decide +kernel) (htb _ t_309) (htb _ t_19) rfl (th_A_61 htb hG.2.1) thg_A_57_61 hG hS hM (hl.1.trans hml.symm) dA_next_21 dA_next_24 dA_next_25 dA_next_27 dA_next_30 (fun x9 hx9 => (hex x9 hx9).elim) (Nat.le_of_ble_eq_true rfl) (Nat.le_of_ble_eq_true rfl) (show ((0 + mc2) + mc7) + 1 ≤ mc by omega) (show ((0 + ms3) + ms8) + 6 ≤ ms by omega) hlk hw (show ((0 + mc2) + mc7) + 1 ≤ mc by omega) (show ((0 + ms3) + ms8) + 6 ≤ ms by omega)
abbrev r_A_person (mc ms : Nat) : Room := { frames := 7, cells := mc, slots := ms, locals := 191 }
def w_A_person (e0 : Nat) (post : Int32 → zM → Prop) (px : String → zM → Prop) (mc : Nat) (ms : Nat) (M : zM) (h0 : Nat) (x1 : Int32) : Prop := wIs M h0 0 ∧ ∃ mc2 ms3 : Nat, mc2 ≤ mc ∧ ms3 ≤ ms ∧ w_A_requireGroup e0 (fun M1 => wGR M1 h0 0 1 (fun v4 => wIs M1 v4 5 ∧ w_Y_size e0 (fun r9 M8 => ((r9 < 60) → wGR M8 h0 0 1 (fun v10 => wNO M8 3 [.int 0, .null, .null, .int 0, .int 0, .int 0, .int 0] 7 (mc - mc2) (ms - ms3) (fun q14 M18 => ∃ mc20 ms21 : Nat, mc20 ≤ ((mc - mc2) - 1) ∧ ms21 ≤ ((ms - ms3) - 7) ∧ w_P_init e0 (fun M19 => wIs M19 v10 5 ∧ ∃ mc23 ms24 : Nat, mc23 ≤ (((mc - mc2) - 1) - mc20) ∧ ms24 ≤ (((ms - ms3) - 7) - ms21) ∧ w_Y_add1 e0 (fun r25 M22 => wGR M22 h0 0 1 (fun v26 => wIs M22 v26 5 ∧ w_Y_size e0 (fun r31 M30 => post (r31 - 1) M30) M22 v26)) mc23 ms24 M19 v10 q14) mc20 ms21 M18 q14 x1))) ∧ (¬ (r9 < 60) → 1 ≤ (mc - mc2) ∧ 6 ≤ (ms - ms3) ∧ px "java/lang/UnsupportedOperationException" M8)) M1 v4)) px mc2 ms3 M h0 x1
set_option maxHeartbeats 4000000 in
set_option maxRecDepth 100000 in
theorem k_A_person {l : Launch} {D : va_G} {tc : Nat → ClassId} {A : Nat → Prop} {mc ms : Nat} {post : Int32 → zM → Prop} {px : String → zM → Prop} {M : zM} {h0 : Nat} {x1 : Int32} (hst : l.stackTraces = false) (hw : w_A_person (tc 9) post px mc ms M h0 x1) : vx_Met l yA_person (.code yA_person cA_person 2 (some .int) :: zTB) (r_A_person mc ms) (va_Pc [.ref h0, .int x1] (zI D tc A M)) (va_Qi post (zB D tc A) A) (zX D tc A px) mc ms A := by
  refine vx_ofW (cc := cA_person) (maxL := 2) (ret := (some .int)) (by decide) rfl ?_
  intro p e s m args below meth c s₁ B hml ht9 hv
  obtain ⟨rfl, hA, hM, hG⟩ := hv
  have C0 := zC_of (D := D) (tc := tc) (A := A) B hml ht9 hA hG
  obtain ⟨hx, hb, hml, hr, hown, htb, hlk, hA, hG, hin, hex⟩ := id C0
  have hK := hG.1
  have hS : va_S A s.heap s.heap [] := va_S.rf
  have hl := lv_entry ([.ref h0, .int x1]) (n := 2) (Nat.le_of_ble_eq_true rfl)
  rw [lg_entry_eq]
  generalize (lg_sl ([.ref h0, .int x1]) ++ List.replicate (2 - (lg_sl ([.ref h0, .int x1])).length) Slot.unset).toArray = ls at hl ⊢
  have hl : lv_has ls 2 [(0, .ref h0), (1, .int x1)] := hl
  refine lv_aload_n hx hb dA_person_0 rfl (lv_at hl 0 rfl) ?_
  refine lv_iload_n hx hb dA_person_1 rfl (lv_at hl 1 rfl) ?_
  obtain ⟨⟨fs38, h39⟩, hw⟩ := hw
  obtain ⟨mc2, ms3, hbmc2, hbms3, hw⟩ := hw
  refine vx_callv (vx_runV (As := [.int x1]) (rest := []) ⟨hx, hb, hml, hown, htb⟩ (k_A_requireGroup (l := l) (D := D) (tc := tc) (A := A) hst hw) (cw_A_53 htb ⟨Nat.le_of_ble_eq_true rfl, Nat.le_of_ble_eq_true rfl⟩) (z_preV hG hA hS hM h39 rfl) rfl rfl hl.1 rfl (lv_room (Nat.le_of_ble_eq_true rfl)) dA_person_2 ⟨show 0 + mc2 ≤ mc by omega, show 0 + ms3 ≤ ms by omega⟩) hS (fun _ _ h => h) (fun _ h => h) (fun _ _ h => h) (fun E9 ce9 q9 u9 t9 H locs ht hvm hw hB _ _ hS hce hcv hcl => z_out (fun x9 hx9 => (hex x9 hx9).elim) hlk hce hcv hcl ht hB hS hw (show 0 + mc2 ≤ mc by omega) (show 0 + ms3 ≤ ms by omega)) (fun M1 t H locs ht hvm hw hB _ _ hS => ?_)
  have hM : zP D vwCl tc A M1 H := by rw [← ht]; exact hB
  refine lv_aload_n hx hb dA_person_5 rfl (lv_at hl 0 rfl) ?_
  obtain ⟨fs5, v4, h6, ev7, hw⟩ := hw
  refine z_get hx hb htb inw_A hown hK hM h6 rfl 1 (by decide) (htb _ t_58) (fun _ h9 => h9) ev7 dA_person_6 ?_
  obtain ⟨⟨fs36, h37⟩, hw⟩ := hw
  refine va_calli (va_runV (As := []) (rest := []) ⟨hx, hb, hml, hown, htb⟩ (k_Y_size (l := l) (D := D) (tc := tc) (A := A) hw) (cw_A_31 htb ⟨Nat.le_of_ble_eq_true rfl, Nat.le_of_ble_eq_true rfl⟩) (z_preV hG hA hS hM h37 rfl) rfl rfl hl.1 rfl (lv_room (Nat.le_of_ble_eq_true rfl)) dA_person_9 ⟨show (0 + mc2) + 0 ≤ mc by omega, show (0 + ms3) + 0 ≤ ms by omega⟩) hS (fun _ _ h => h) (fun _ h => h) (fun r9 M8 t H locs ht hvm hw hB _ _ hS => ?_)
  have hM : zP D vwCl tc A M8 H := by rw [← ht]; exact hB
  refine lv_bipush (v := 60) hx hb dA_person_12 (by decide +kernel) ?_
  refine lv_icmp_lt (tgt := 27) hx hb dA_person_14 (by decide) (fun hq => ?_) (fun hq => ?_)
  · have hw := hw.1 hq
    refine lv_aload_n hx hb dA_person_27 rfl (lv_at hl 0 rfl) ?_
    obtain ⟨fs11, v10, h12, ev13, hw⟩ := hw
    refine z_get hx hb htb inw_A hown hK hM h12 rfl 1 (by decide) (htb _ t_58) (fun _ h9 => h9) ev13 dA_person_28 ?_
    obtain ⟨h15, h16, hw⟩ := hw
    refine z_newO (ci := 3) (fs := [.int 0, .null, .null, .int 0, .int 0, .int 0, .int 0]) hx hb htb inw_P ty_P tyok_P hown (htb _ t_333) (htb _ t_334) (htb _ t_20) hK hM hS hA rfl defok_P (show (0 + mc2) + 1 ≤ mc by omega) (show (0 + ms3) + 7 ≤ ms by omega) dA_person_31 (fun q14 H hn17 hM hS => ?_)
    have hw := hw q14 hn17
    refine lv_dup hx hb dA_person_34 rfl ?_
    refine lv_iload_n hx hb dA_person_35 rfl (lv_at hl 1 rfl) ?_
    obtain ⟨mc20, ms21, hbmc20, hbms21, hw⟩ := hw
    refine va_callv (va_runI (As := [.int x1]) (rest := [.ref q14, .ref v10]) ⟨hx, hb, hml, hown, htb⟩ (k_P_init (l := l) (D := D) (tc := tc) (A := A) hw) (cw_A_70 htb ⟨Nat.le_of_ble_eq_true rfl, Nat.le_of_ble_eq_true rfl⟩) (z_preS hG hA hS hM) rfl rfl hl.1 rfl (lv_room (Nat.le_of_ble_eq_true rfl)) dA_person_36 ⟨show ((0 + mc2) + 1) + mc20 ≤ mc by omega, show ((0 + ms3) + 7) + ms21 ≤ ms by omega⟩) hS (fun _ _ h => h) (fun _ h => h) (fun M19 t H locs ht hvm hw hB _ _ hS => ?_)
    have hM : zP D vwCl tc A M19 H := by rw [← ht]; exact hB
    obtain ⟨⟨fs34, h35⟩, hw⟩ := hw
    obtain ⟨mc23, ms24, hbmc23, hbms24, hw⟩ := hw
    refine va_calli (va_runV (As := [.ref q14]) (rest := []) ⟨hx, hb, hml, hown, htb⟩ (k_Y_add1 (l := l) (D := D) (tc := tc) (A := A) hw) (cw_A_45 htb ⟨Nat.le_of_ble_eq_true rfl, Nat.le_of_ble_eq_true rfl⟩) (z_preV hG hA hS hM h35 rfl) rfl rfl hl.1 rfl (lv_room (Nat.le_of_ble_eq_true rfl)) dA_person_39 ⟨show (((0 + mc2) + 1) + mc20) + mc23 ≤ mc by omega, show (((0 + ms3) + 7) + ms21) + ms24 ≤ ms by omega⟩) hS (fun _ _ h => h) (fun _ h => h) (fun r25 M22 t H locs ht hvm hw hB _ _ hS => ?_)
    have hM : zP D vwCl tc A M22 H := by rw [← ht]; exact hB
    refine lv_pop hx hb dA_person_42 rfl ?_
    refine lv_aload_n hx hb dA_person_43 rfl (lv_at hl 0 rfl) ?_
    obtain ⟨fs27, v26, h28, ev29, hw⟩ := hw
    refine z_get hx hb htb inw_A hown hK hM h28 rfl 1 (by decide) (htb _ t_58) (fun _ h9 => h9) ev29 dA_person_44 ?_
    obtain ⟨⟨fs32, h33⟩, hw⟩ := hw
    refine va_calli (va_runV (As := []) (rest := []) ⟨hx, hb, hml, hown, htb⟩ (k_Y_size (l := l) (D := D) (tc := tc) (A := A) hw) (cw_A_31 htb ⟨Nat.le_of_ble_eq_true rfl, Nat.le_of_ble_eq_true rfl⟩) (z_preV hG hA hS hM h33 rfl) rfl rfl hl.1 rfl (lv_room (Nat.le_of_ble_eq_true rfl)) dA_person_47 ⟨show ((((0 + mc2) + 1) + mc20) + mc23) + 0 ≤ mc by omega, show ((((0 + ms3) + 7) + ms21) + ms24) + 0 ≤ ms by omega⟩) hS (fun _ _ h => h) (fun _ h => h) (fun r31 M30 t H locs ht hvm hw hB _ _ hS => ?_)
    have hM : zP D vwCl tc A M30 H := by rw [← ht]; exact hB
    refine lv_iconst (v := 1) hx hb dA_person_50 (by decide +kernel) ?_
    refine lv_isub hx hb dA_person_51 ?_
    refine vx_ret ?_
    refine W.widen (k := mc) (n := ms) (by omega) (by omega) ?_
    exact W.iret hx hb hr (fun t ht hW => ⟨⟨_, _, rfl, hw, zB_of ht hM⟩, hS.F ht⟩) hS.2.2 dA_person_52
  · have hw := hw.2 hq
    obtain ⟨hbu1, hbu2, hw⟩ := hw
    exact z_throwS (k := 5) hx hb hst hown (by decide +kernel) (htb _ t_163) (htb _ t_10) rfl (th_A_39 htb hG.2.1) thg_A_35_39 hG hS hM (hl.1.trans hml.symm) dA_person_17 dA_person_20 dA_person_21 dA_person_23 dA_person_26 (fun x9 hx9 => (hex x9 hx9).elim) (Nat.le_of_ble_eq_true rfl) (Nat.le_of_ble_eq_true rfl) (show (0 + mc2) + 1 ≤ mc by omega) (show (0 + ms3) + 6 ≤ ms by omega) hlk hw (show (0 + mc2) + 1 ≤ mc by omega) (show (0 + ms3) + 6 ≤ ms by omega)
abbrev r_A_requirePerson (mc ms : Nat) : Room := { frames := 6, cells := mc, slots := ms, locals := 90 }
abbrev J_A_requirePerson_15 (p : Program) (l : Launch) (e : Env) (s : State) (m : MethodId) (args : Array Value) (below : List Frame) (meth : Method) (c : Code) (D : va_G) (tc : Nat → ClassId) (A : Nat → Prop) (mcT msT : Nat) (Q : State → Prop) (K : Nat → Nat → zM → Prop) : Prop := ∀ (mc : Nat) (ms : Nat) (M : zM) (H : Heap) (locs : List Loc) (cells slots : Nat) (ls : Array Slot), cells + mc ≤ mcT → slots + ms ≤ msT → zP D vwCl tc A M H → va_S A s.heap H locs → lv_has ls 2 [] → K mc ms M → W p l e (r_A_requirePerson mcT msT) s m args below meth c H locs cells slots Q (F0 m 15 ls [])
def w_A_requirePerson_j15 (e0 : Nat) (post : zM → Prop) (px : String → zM → Prop) (mc : Nat) (ms : Nat) (M : zM) : Prop := 1 ≤ mc ∧ 6 ≤ ms ∧ px "java/lang/IllegalArgumentException" M
set_option maxHeartbeats 4000000 in
set_option maxRecDepth 100000 in
theorem k_A_requirePerson_j15 {p : Program} {l : Launch} {e : Env} {s : State} {m : MethodId} {args : Array Value} {below : List Frame} {meth : Method} {c : Code} {D : va_G} {tc : Nat → ClassId} {A : Nat → Prop} {mcT msT : Nat} {post : zM → Prop} {px : String → zM → Prop} (C0 : zC R_A cA_requirePerson 2 none "requirePerson" D tc A p l s m args meth c) (hst : l.stackTraces = false) : J_A_requirePerson_15 p l e s m args below meth c D tc A mcT msT (vx_MQ below (va_Qv post (zB D tc A) A) (zX D tc A px) args s mcT msT A) (w_A_requirePerson_j15 (tc 9) post px) := by
  obtain ⟨hx, hb, hml, hr, hown, htb, hlk, hA, hG, hin, hex⟩ := id C0
  have hK := hG.1
  intro mc ms M H locs cells slots ls hbc hbs hM hS hl hw
  obtain ⟨hbu1, hbu2, hw⟩ := hw
  exact z_throwS (k := 6) hx hb hst hown (by decide +kernel) (htb _ t_279) (htb _ t_16) rfl (th_A_177 htb hG.2.1) thg_A_173_177 hG hS hM (hl.1.trans hml.symm) dA_requirePerson_15 dA_requirePerson_18 dA_requirePerson_19 dA_requirePerson_21 dA_requirePerson_24 (fun x9 hx9 => (hex x9 hx9).elim) (Nat.le_of_ble_eq_true rfl) (Nat.le_of_ble_eq_true rfl) (show cells + 1 ≤ mcT by omega) (show slots + 6 ≤ msT by omega) hlk hw (show cells + 1 ≤ mcT by omega) (show slots + 6 ≤ msT by omega)
def w_A_requirePerson (e0 : Nat) (post : zM → Prop) (px : String → zM → Prop) (mc : Nat) (ms : Nat) (M : zM) (h0 : Nat) (x1 : Int32) : Prop := ((x1 < 0) → w_A_requirePerson_j15 e0 post px mc ms M) ∧ (¬ (x1 < 0) → wGR M h0 0 1 (fun v1 => wIs M v1 5 ∧ w_Y_size e0 (fun r6 M5 => ((x1 < r6) → post M5) ∧ (¬ (x1 < r6) → w_A_requirePerson_j15 e0 post px mc ms M5)) M v1))
set_option maxHeartbeats 4000000 in
set_option maxRecDepth 100000 in
theorem k_A_requirePerson {l : Launch} {D : va_G} {tc : Nat → ClassId} {A : Nat → Prop} {mc ms : Nat} {post : zM → Prop} {px : String → zM → Prop} {M : zM} {h0 : Nat} {x1 : Int32} (hst : l.stackTraces = false) (hw : w_A_requirePerson (tc 9) post px mc ms M h0 x1) : vx_Met l yA_requirePerson (.code yA_requirePerson cA_requirePerson 2 none :: zTB) (r_A_requirePerson mc ms) (va_Pc [.ref h0, .int x1] (zI D tc A M)) (va_Qv post (zB D tc A) A) (zX D tc A px) mc ms A := by
  refine vx_ofW (cc := cA_requirePerson) (maxL := 2) (ret := none) (by decide) rfl ?_
  intro p e s m args below meth c s₁ B hml ht9 hv
  obtain ⟨rfl, hA, hM, hG⟩ := hv
  have C0 := zC_of (D := D) (tc := tc) (A := A) B hml ht9 hA hG
  obtain ⟨hx, hb, hml, hr, hown, htb, hlk, hA, hG, hin, hex⟩ := id C0
  have hK := hG.1
  have hS : va_S A s.heap s.heap [] := va_S.rf
  have hl := lv_entry ([.ref h0, .int x1]) (n := 2) (Nat.le_of_ble_eq_true rfl)
  rw [lg_entry_eq]
  generalize (lg_sl ([.ref h0, .int x1]) ++ List.replicate (2 - (lg_sl ([.ref h0, .int x1])).length) Slot.unset).toArray = ls at hl ⊢
  have hl : lv_has ls 2 [(0, .ref h0), (1, .int x1)] := hl
  refine lv_iload_n hx hb dA_requirePerson_0 rfl (lv_at hl 1 rfl) ?_
  refine lv_if_lt (tgt := 15) hx hb dA_requirePerson_1 (by decide) (fun hq => ?_) (fun hq => ?_)
  · have hw := hw.1 hq
    exact k_A_requirePerson_j15 C0 hst  _ _ _  _ _ _ _ _ (show 0 + mc ≤ mc by omega) (show 0 + ms ≤ ms by omega) hM hS (lv_sub hl [] rfl) hw
  · have hw := hw.2 hq
    refine lv_iload_n hx hb dA_requirePerson_4 rfl (lv_at hl 1 rfl) ?_
    refine lv_aload_n hx hb dA_requirePerson_5 rfl (lv_at hl 0 rfl) ?_
    obtain ⟨fs2, v1, h3, ev4, hw⟩ := hw
    refine z_get hx hb htb inw_A hown hK hM h3 rfl 1 (by decide) (htb _ t_58) (fun _ h9 => h9) ev4 dA_requirePerson_6 ?_
    obtain ⟨⟨fs7, h8⟩, hw⟩ := hw
    refine va_calli (va_runV (As := []) (rest := [.int x1]) ⟨hx, hb, hml, hown, htb⟩ (k_Y_size (l := l) (D := D) (tc := tc) (A := A) hw) (cw_A_31 htb ⟨Nat.le_of_ble_eq_true rfl, Nat.le_of_ble_eq_true rfl⟩) (z_preV hG hA hS hM h8 rfl) rfl rfl hl.1 rfl (lv_room (Nat.le_of_ble_eq_true rfl)) dA_requirePerson_9 ⟨show 0 + 0 ≤ mc by omega, show 0 + 0 ≤ ms by omega⟩) hS (fun _ _ h => h) (fun _ h => h) (fun r6 M5 t H locs ht hvm hw hB _ _ hS => ?_)
    have hM : zP D vwCl tc A M5 H := by rw [← ht]; exact hB
    refine lv_icmp_lt (tgt := 25) hx hb dA_requirePerson_12 (by decide) (fun hq => ?_) (fun hq => ?_)
    · have hw := hw.1 hq
      refine vx_ret ?_
      refine W.widen (k := mc) (n := ms) (by omega) (by omega) ?_
      exact W.vret hx hb hr (fun t ht hW => ⟨⟨_, rfl, hw, zB_of ht hM⟩, hS.F ht⟩) hS.2.2 dA_requirePerson_25
    · have hw := hw.2 hq
      exact k_A_requirePerson_j15 C0 hst  _ _ _  _ _ _ _ _ (show 0 + mc ≤ mc by omega) (show 0 + ms ≤ ms by omega) hM hS (lv_sub hl [] rfl) hw
abbrev r_A_personOf (mc ms : Nat) : Room := { frames := 7, cells := mc, slots := ms, locals := 111 }
def w_A_personOf (e0 : Nat) (post : Option Nat → zM → Prop) (px : String → zM → Prop) (mc : Nat) (ms : Nat) (M : zM) (h0 : Nat) (x1 : Int32) : Prop := wIs M h0 0 ∧ ∃ mc2 ms3 : Nat, mc2 ≤ mc ∧ ms3 ≤ ms ∧ w_A_requirePerson e0 (fun M1 => wGR M1 h0 0 1 (fun v4 => wIs M1 v4 5 ∧ w_Y_get e0 (fun r9 M8 => wSm r9 (fun a10 => wIs M8 a10 3 ∧ post (some a10) M8)) M1 v4 x1)) px mc2 ms3 M h0 x1
set_option maxHeartbeats 4000000 in
set_option maxRecDepth 100000 in
theorem k_A_personOf {l : Launch} {D : va_G} {tc : Nat → ClassId} {A : Nat → Prop} {mc ms : Nat} {post : Option Nat → zM → Prop} {px : String → zM → Prop} {M : zM} {h0 : Nat} {x1 : Int32} (hst : l.stackTraces = false) (hw : w_A_personOf (tc 9) post px mc ms M h0 x1) : vx_Met l yA_personOf (.code yA_personOf cA_personOf 2 (some (.object "AlertRows$Person")) :: zTB) (r_A_personOf mc ms) (va_Pc [.ref h0, .int x1] (zI D tc A M)) (va_Qq post (zB D tc A) A) (zX D tc A px) mc ms A := by
  refine vx_ofW (cc := cA_personOf) (maxL := 2) (ret := (some (.object "AlertRows$Person"))) (by decide) rfl ?_
  intro p e s m args below meth c s₁ B hml ht9 hv
  obtain ⟨rfl, hA, hM, hG⟩ := hv
  have C0 := zC_of (D := D) (tc := tc) (A := A) B hml ht9 hA hG
  obtain ⟨hx, hb, hml, hr, hown, htb, hlk, hA, hG, hin, hex⟩ := id C0
  have hK := hG.1
  have hS : va_S A s.heap s.heap [] := va_S.rf
  have hl := lv_entry ([.ref h0, .int x1]) (n := 2) (Nat.le_of_ble_eq_true rfl)
  rw [lg_entry_eq]
  generalize (lg_sl ([.ref h0, .int x1]) ++ List.replicate (2 - (lg_sl ([.ref h0, .int x1])).length) Slot.unset).toArray = ls at hl ⊢
  have hl : lv_has ls 2 [(0, .ref h0), (1, .int x1)] := hl
  refine lv_aload_n hx hb dA_personOf_0 rfl (lv_at hl 0 rfl) ?_
  refine lv_iload_n hx hb dA_personOf_1 rfl (lv_at hl 1 rfl) ?_
  obtain ⟨⟨fs15, h16⟩, hw⟩ := hw
  obtain ⟨mc2, ms3, hbmc2, hbms3, hw⟩ := hw
  refine vx_callv (vx_runV (As := [.int x1]) (rest := []) ⟨hx, hb, hml, hown, htb⟩ (k_A_requirePerson (l := l) (D := D) (tc := tc) (A := A) hst hw) (cw_A_106 htb ⟨Nat.le_of_ble_eq_true rfl, Nat.le_of_ble_eq_true rfl⟩) (z_preV hG hA hS hM h16 rfl) rfl rfl hl.1 rfl (lv_room (Nat.le_of_ble_eq_true rfl)) dA_personOf_2 ⟨show 0 + mc2 ≤ mc by omega, show 0 + ms3 ≤ ms by omega⟩) hS (fun _ _ h => h) (fun _ h => h) (fun _ _ h => h) (fun E9 ce9 q9 u9 t9 H locs ht hvm hw hB _ _ hS hce hcv hcl => z_out (fun x9 hx9 => (hex x9 hx9).elim) hlk hce hcv hcl ht hB hS hw (show 0 + mc2 ≤ mc by omega) (show 0 + ms3 ≤ ms by omega)) (fun M1 t H locs ht hvm hw hB _ _ hS => ?_)
  have hM : zP D vwCl tc A M1 H := by rw [← ht]; exact hB
  refine lv_aload_n hx hb dA_personOf_5 rfl (lv_at hl 0 rfl) ?_
  obtain ⟨fs5, v4, h6, ev7, hw⟩ := hw
  refine z_get hx hb htb inw_A hown hK hM h6 rfl 1 (by decide) (htb _ t_58) (fun _ h9 => h9) ev7 dA_personOf_6 ?_
  refine lv_iload_n hx hb dA_personOf_9 rfl (lv_at hl 1 rfl) ?_
  obtain ⟨⟨fs13, h14⟩, hw⟩ := hw
  refine va_callq (va_runV (As := [.int x1]) (rest := []) ⟨hx, hb, hml, hown, htb⟩ (k_Y_get (l := l) (D := D) (tc := tc) (A := A) hw) (cw_A_203 htb ⟨Nat.le_of_ble_eq_true rfl, Nat.le_of_ble_eq_true rfl⟩) (z_preV hG hA hS hM h14 rfl) rfl rfl hl.1 rfl (lv_room (Nat.le_of_ble_eq_true rfl)) dA_personOf_10 ⟨show (0 + mc2) + 0 ≤ mc by omega, show (0 + ms3) + 0 ≤ ms by omega⟩) hS (fun _ _ h => h) (fun _ h => h) (fun r9 M8 t H locs ht hvm hw hB _ _ hS => ?_)
  have hM : zP D vwCl tc A M8 H := by rw [← ht]; exact hB
  obtain ⟨a10, rfl, hw⟩ := hw
  obtain ⟨⟨fs11, h12⟩, hw⟩ := hw
  refine va_castS hx hb hown (htb _ t_333) (hK.1 3 _ rfl).2 (z_recv hK hM h12 rfl) dA_personOf_13 ?_
  refine vx_ret ?_
  refine W.widen (k := mc) (n := ms) (by omega) (by omega) ?_
  exact W.aret (v := va_rf (some a10)) hx hb hr (by first | exact Or.inl ⟨_, rfl⟩ | exact Or.inr ⟨_, rfl⟩) (va_rf_or _) (fun t ht hW => ⟨⟨_, _, rfl, hw, zB_of ht hM⟩, hS.F ht⟩) hS.2.2 dA_personOf_16
abbrev r_A_way (mc ms : Nat) : Room := { frames := 8, cells := mc, slots := ms, locals := 132 }
abbrev J_A_way_16 (p : Program) (l : Launch) (e : Env) (s : State) (m : MethodId) (args : Array Value) (below : List Frame) (meth : Method) (c : Code) (D : va_G) (tc : Nat → ClassId) (A : Nat → Prop) (mcT msT : Nat) (Q : State → Prop) (K : Nat → Nat → zM → Prop) : Prop := ∀ (mc : Nat) (ms : Nat) (M : zM) (H : Heap) (locs : List Loc) (cells slots : Nat) (ls : Array Slot), cells + mc ≤ mcT → slots + ms ≤ msT → zP D vwCl tc A M H → va_S A s.heap H locs → lv_has ls 5 [] → K mc ms M → W p l e (r_A_way mcT msT) s m args below meth c H locs cells slots Q (F0 m 16 ls [])
def w_A_way_j16 (e0 : Nat) (post : Int32 → zM → Prop) (px : String → zM → Prop) (mc : Nat) (ms : Nat) (M : zM) : Prop := 1 ≤ mc ∧ 6 ≤ ms ∧ px "java/lang/IndexOutOfBoundsException" M
set_option maxHeartbeats 4000000 in
set_option maxRecDepth 100000 in
theorem k_A_way_j16 {p : Program} {l : Launch} {e : Env} {s : State} {m : MethodId} {args : Array Value} {below : List Frame} {meth : Method} {c : Code} {D : va_G} {tc : Nat → ClassId} {A : Nat → Prop} {mcT msT : Nat} {post : Int32 → zM → Prop} {px : String → zM → Prop} (C0 : zC R_A cA_way 5 (some .int) "way" D tc A p l s m args meth c) (hst : l.stackTraces = false) : J_A_way_16 p l e s m args below meth c D tc A mcT msT (vx_MQ below (va_Qi post (zB D tc A) A) (zX D tc A px) args s mcT msT A) (w_A_way_j16 (tc 9) post px) := by
  obtain ⟨hx, hb, hml, hr, hown, htb, hlk, hA, hG, hin, hex⟩ := id C0
  have hK := hG.1
  intro mc ms M H locs cells slots ls hbc hbs hM hS hl hw
  obtain ⟨hbu1, hbu2, hw⟩ := hw
  exact z_throwS (k := 7) hx hb hst hown (by decide +kernel) (htb _ t_88) (htb _ t_9) rfl (th_A_26 htb hG.2.1) thg_A_22_26 hG hS hM (hl.1.trans hml.symm) dA_way_16 dA_way_19 dA_way_20 dA_way_22 dA_way_25 (fun x9 hx9 => (hex x9 hx9).elim) (Nat.le_of_ble_eq_true rfl) (Nat.le_of_ble_eq_true rfl) (show cells + 1 ≤ mcT by omega) (show slots + 6 ≤ msT by omega) hlk hw (show cells + 1 ≤ mcT by omega) (show slots + 6 ≤ msT by omega)
def w_A_way (e0 : Nat) (post : Int32 → zM → Prop) (px : String → zM → Prop) (mc : Nat) (ms : Nat) (M : zM) (h0 : Nat) (x1 : Int32) (x2 : Int32) (x3 : Int32) : Prop := wIs M h0 0 ∧ ∃ mc2 ms3 : Nat, mc2 ≤ mc ∧ ms3 ≤ ms ∧ w_A_personOf e0 (fun r4 M1 => wSm r4 (fun a5 => ((x2 < 0) → w_A_way_j16 e0 post px (mc - mc2) (ms - ms3) M1) ∧ (¬ (x2 < 0) → ((x2 < 3) → wIs M1 a5 3 ∧ w_P_setWay e0 (fun M6 => wGI M6 a5 3 3 (fun v7 => post v7 M6)) M1 a5 x2 x3) ∧ (¬ (x2 < 3) → w_A_way_j16 e0 post px (mc - mc2) (ms - ms3) M1)))) px mc2 ms3 M h0 x1
set_option maxHeartbeats 4000000 in
set_option maxRecDepth 100000 in
theorem k_A_way {l : Launch} {D : va_G} {tc : Nat → ClassId} {A : Nat → Prop} {mc ms : Nat} {post : Int32 → zM → Prop} {px : String → zM → Prop} {M : zM} {h0 : Nat} {x1 : Int32} {x2 : Int32} {x3 : Int32} (hst : l.stackTraces = false) (hw : w_A_way (tc 9) post px mc ms M h0 x1 x2 x3) : vx_Met l yA_way (.code yA_way cA_way 5 (some .int) :: zTB) (r_A_way mc ms) (va_Pc [.ref h0, .int x1, .int x2, .int x3] (zI D tc A M)) (va_Qi post (zB D tc A) A) (zX D tc A px) mc ms A := by
  refine vx_ofW (cc := cA_way) (maxL := 5) (ret := (some .int)) (by decide) rfl ?_
  intro p e s m args below meth c s₁ B hml ht9 hv
  obtain ⟨rfl, hA, hM, hG⟩ := hv
  have C0 := zC_of (D := D) (tc := tc) (A := A) B hml ht9 hA hG
  obtain ⟨hx, hb, hml, hr, hown, htb, hlk, hA, hG, hin, hex⟩ := id C0
  have hK := hG.1
  have hS : va_S A s.heap s.heap [] := va_S.rf
  have hl := lv_entry ([.ref h0, .int x1, .int x2, .int x3]) (n := 5) (Nat.le_of_ble_eq_true rfl)
  rw [lg_entry_eq]
  generalize (lg_sl ([.ref h0, .int x1, .int x2, .int x3]) ++ List.replicate (5 - (lg_sl ([.ref h0, .int x1, .int x2, .int x3])).length) Slot.unset).toArray = ls at hl ⊢
  have hl : lv_has ls 5 [(0, .ref h0), (1, .int x1), (2, .int x2), (3, .int x3)] := hl
  refine lv_aload_n hx hb dA_way_0 rfl (lv_at hl 0 rfl) ?_
  refine lv_iload_n hx hb dA_way_1 rfl (lv_at hl 1 rfl) ?_
  obtain ⟨⟨fs13, h14⟩, hw⟩ := hw
  obtain ⟨mc2, ms3, hbmc2, hbms3, hw⟩ := hw
  refine zx_callq (vx_runV (As := [.int x1]) (rest := []) ⟨hx, hb, hml, hown, htb⟩ (k_A_personOf (l := l) (D := D) (tc := tc) (A := A) hst hw) (cw_A_72 htb ⟨Nat.le_of_ble_eq_true rfl, Nat.le_of_ble_eq_true rfl⟩) (z_preV hG hA hS hM h14 rfl) rfl rfl hl.1 rfl (lv_room (Nat.le_of_ble_eq_true rfl)) dA_way_2 ⟨show 0 + mc2 ≤ mc by omega, show 0 + ms3 ≤ ms by omega⟩) hS (fun _ _ h => h) (fun _ h => h) (fun _ _ h => h) (fun E9 ce9 q9 u9 t9 H locs ht hvm hw hB _ _ hS hce hcv hcl => z_out (fun x9 hx9 => (hex x9 hx9).elim) hlk hce hcv hcl ht hB hS hw (show 0 + mc2 ≤ mc by omega) (show 0 + ms3 ≤ ms by omega)) (fun r4 M1 t H locs ht hvm hw hB _ _ hS => ?_)
  have hM : zP D vwCl tc A M1 H := by rw [← ht]; exact hB
  obtain ⟨a5, rfl, hw⟩ := hw
  refine lv_astore (lv' := [(4, .ref a5), (0, .ref h0), (1, .int x1), (2, .int x2), (3, .int x3)]) hx hb dA_way_5 hl (by decide) rfl (fun ls hl => ?_)
  refine lv_iload_n hx hb dA_way_7 rfl (lv_at hl 3 rfl) ?_
  refine lv_if_lt (tgt := 16) hx hb dA_way_8 (by decide) (fun hq => ?_) (fun hq => ?_)
  · have hw := hw.1 hq
    exact k_A_way_j16 C0 hst  _ _ _  _ _ _ _ _ (show (0 + mc2) + (mc - mc2) ≤ mc by omega) (show (0 + ms3) + (ms - ms3) ≤ ms by omega) hM hS (lv_sub hl [] rfl) hw
  · have hw := hw.2 hq
    refine lv_iload_n hx hb dA_way_11 rfl (lv_at hl 3 rfl) ?_
    refine lv_iconst (v := 3) hx hb dA_way_12 (by decide +kernel) ?_
    refine lv_icmp_lt (tgt := 26) hx hb dA_way_13 (by decide) (fun hq => ?_) (fun hq => ?_)
    · have hw := hw.1 hq
      refine lv_aload hx hb dA_way_26 (lv_at hl 0 rfl) ?_
      refine lv_iload_n hx hb dA_way_28 rfl (lv_at hl 3 rfl) ?_
      refine lv_iload_n hx hb dA_way_29 rfl (lv_at hl 4 rfl) ?_
      obtain ⟨⟨fs11, h12⟩, hw⟩ := hw
      refine va_callv (va_runV (As := [.int x2, .int x3]) (rest := []) ⟨hx, hb, hml, hown, htb⟩ (k_P_setWay (l := l) (D := D) (tc := tc) (A := A) hw) (cw_A_78 htb ⟨Nat.le_of_ble_eq_true rfl, Nat.le_of_ble_eq_true rfl⟩) (z_preV hG hA hS hM h12 rfl) rfl rfl hl.1 rfl (lv_room (Nat.le_of_ble_eq_true rfl)) dA_way_30 ⟨show (0 + mc2) + 0 ≤ mc by omega, show (0 + ms3) + 0 ≤ ms by omega⟩) hS (fun _ _ h => h) (fun _ h => h) (fun M6 t H locs ht hvm hw hB _ _ hS => ?_)
      have hM : zP D vwCl tc A M6 H := by rw [← ht]; exact hB
      refine lv_aload hx hb dA_way_33 (lv_at hl 0 rfl) ?_
      obtain ⟨fs8, v7, h9, ev10, hw⟩ := hw
      refine z_getN hx hb htb inw_P hown hK hM h9 rfl 3 (by decide) (va_Nw.use rfl (hG.2.1 _ t_343)) (fun _ h9 => h9) ev10 dA_way_35 ?_
      refine vx_ret ?_
      refine W.widen (k := mc) (n := ms) (by omega) (by omega) ?_
      exact W.iret hx hb hr (fun t ht hW => ⟨⟨_, _, rfl, hw, zB_of ht hM⟩, hS.F ht⟩) hS.2.2 dA_way_38
    · have hw := hw.2 hq
      exact k_A_way_j16 C0 hst  _ _ _  _ _ _ _ _ (show (0 + mc2) + (mc - mc2) ≤ mc by omega) (show (0 + ms3) + (ms - ms3) ≤ ms by omega) hM hS (lv_sub hl [] rfl) hw
abbrev r_A_is (mc ms : Nat) : Room := { frames := 8, cells := mc, slots := ms, locals := 132 }
abbrev J_A_is_15 (p : Program) (l : Launch) (e : Env) (s : State) (m : MethodId) (args : Array Value) (below : List Frame) (meth : Method) (c : Code) (D : va_G) (tc : Nat → ClassId) (A : Nat → Prop) (mcT msT : Nat) (Q : State → Prop) (K : Nat → Nat → zM → Prop) : Prop := ∀ (mc : Nat) (ms : Nat) (M : zM) (H : Heap) (locs : List Loc) (cells slots : Nat) (ls : Array Slot), cells + mc ≤ mcT → slots + ms ≤ msT → zP D vwCl tc A M H → va_S A s.heap H locs → lv_has ls 4 [] → K mc ms M → W p l e (r_A_is mcT msT) s m args below meth c H locs cells slots Q (F0 m 15 ls [])
def w_A_is_j15 (e0 : Nat) (post : zM → Prop) (px : String → zM → Prop) (mc : Nat) (ms : Nat) (M : zM) : Prop := 1 ≤ mc ∧ 6 ≤ ms ∧ px "java/lang/IndexOutOfBoundsException" M
set_option maxHeartbeats 4000000 in
set_option maxRecDepth 100000 in
theorem k_A_is_j15 {p : Program} {l : Launch} {e : Env} {s : State} {m : MethodId} {args : Array Value} {below : List Frame} {meth : Method} {c : Code} {D : va_G} {tc : Nat → ClassId} {A : Nat → Prop} {mcT msT : Nat} {post : zM → Prop} {px : String → zM → Prop} (C0 : zC R_A cA_is 4 none "is" D tc A p l s m args meth c) (hst : l.stackTraces = false) : J_A_is_15 p l e s m args below meth c D tc A mcT msT (vx_MQ below (va_Qv post (zB D tc A) A) (zX D tc A px) args s mcT msT A) (w_A_is_j15 (tc 9) post px) := by
  obtain ⟨hx, hb, hml, hr, hown, htb, hlk, hA, hG, hin, hex⟩ := id C0
  have hK := hG.1
  intro mc ms M H locs cells slots ls hbc hbs hM hS hl hw
  obtain ⟨hbu1, hbu2, hw⟩ := hw
  exact z_throwS (k := 8) hx hb hst hown (by decide +kernel) (htb _ t_88) (htb _ t_9) rfl (th_A_26 htb hG.2.1) thg_A_22_26 hG hS hM (hl.1.trans hml.symm) dA_is_15 dA_is_18 dA_is_19 dA_is_21 dA_is_24 (fun x9 hx9 => (hex x9 hx9).elim) (Nat.le_of_ble_eq_true rfl) (Nat.le_of_ble_eq_true rfl) (show cells + 1 ≤ mcT by omega) (show slots + 6 ≤ msT by omega) hlk hw (show cells + 1 ≤ mcT by omega) (show slots + 6 ≤ msT by omega)
def w_A_is (e0 : Nat) (post : zM → Prop) (px : String → zM → Prop) (mc : Nat) (ms : Nat) (M : zM) (h0 : Nat) (x1 : Int32) (x2 : Int32) : Prop := wIs M h0 0 ∧ ∃ mc2 ms3 : Nat, mc2 ≤ mc ∧ ms3 ≤ ms ∧ w_A_personOf e0 (fun r4 M1 => wSm r4 (fun a5 => ((x2 < 0) → w_A_is_j15 e0 post px (mc - mc2) (ms - ms3) M1) ∧ (¬ (x2 < 0) → ((x2 ≤ 2) → wPF M1 a5 3 4 (.int x2) (fun M9 => post M9)) ∧ (¬ (x2 ≤ 2) → w_A_is_j15 e0 post px (mc - mc2) (ms - ms3) M1)))) px mc2 ms3 M h0 x1
set_option maxHeartbeats 4000000 in
set_option maxRecDepth 100000 in
theorem k_A_is {l : Launch} {D : va_G} {tc : Nat → ClassId} {A : Nat → Prop} {mc ms : Nat} {post : zM → Prop} {px : String → zM → Prop} {M : zM} {h0 : Nat} {x1 : Int32} {x2 : Int32} (hst : l.stackTraces = false) (hw : w_A_is (tc 9) post px mc ms M h0 x1 x2) : vx_Met l yA_is (.code yA_is cA_is 4 none :: zTB) (r_A_is mc ms) (va_Pc [.ref h0, .int x1, .int x2] (zI D tc A M)) (va_Qv post (zB D tc A) A) (zX D tc A px) mc ms A := by
  refine vx_ofW (cc := cA_is) (maxL := 4) (ret := none) (by decide) rfl ?_
  intro p e s m args below meth c s₁ B hml ht9 hv
  obtain ⟨rfl, hA, hM, hG⟩ := hv
  have C0 := zC_of (D := D) (tc := tc) (A := A) B hml ht9 hA hG
  obtain ⟨hx, hb, hml, hr, hown, htb, hlk, hA, hG, hin, hex⟩ := id C0
  have hK := hG.1
  have hS : va_S A s.heap s.heap [] := va_S.rf
  have hl := lv_entry ([.ref h0, .int x1, .int x2]) (n := 4) (Nat.le_of_ble_eq_true rfl)
  rw [lg_entry_eq]
  generalize (lg_sl ([.ref h0, .int x1, .int x2]) ++ List.replicate (4 - (lg_sl ([.ref h0, .int x1, .int x2])).length) Slot.unset).toArray = ls at hl ⊢
  have hl : lv_has ls 4 [(0, .ref h0), (1, .int x1), (2, .int x2)] := hl
  refine lv_aload_n hx hb dA_is_0 rfl (lv_at hl 0 rfl) ?_
  refine lv_iload_n hx hb dA_is_1 rfl (lv_at hl 1 rfl) ?_
  obtain ⟨⟨fs10, h11⟩, hw⟩ := hw
  obtain ⟨mc2, ms3, hbmc2, hbms3, hw⟩ := hw
  refine zx_callq (vx_runV (As := [.int x1]) (rest := []) ⟨hx, hb, hml, hown, htb⟩ (k_A_personOf (l := l) (D := D) (tc := tc) (A := A) hst hw) (cw_A_72 htb ⟨Nat.le_of_ble_eq_true rfl, Nat.le_of_ble_eq_true rfl⟩) (z_preV hG hA hS hM h11 rfl) rfl rfl hl.1 rfl (lv_room (Nat.le_of_ble_eq_true rfl)) dA_is_2 ⟨show 0 + mc2 ≤ mc by omega, show 0 + ms3 ≤ ms by omega⟩) hS (fun _ _ h => h) (fun _ h => h) (fun _ _ h => h) (fun E9 ce9 q9 u9 t9 H locs ht hvm hw hB _ _ hS hce hcv hcl => z_out (fun x9 hx9 => (hex x9 hx9).elim) hlk hce hcv hcl ht hB hS hw (show 0 + mc2 ≤ mc by omega) (show 0 + ms3 ≤ ms by omega)) (fun r4 M1 t H locs ht hvm hw hB _ _ hS => ?_)
  have hM : zP D vwCl tc A M1 H := by rw [← ht]; exact hB
  obtain ⟨a5, rfl, hw⟩ := hw
  refine lv_astore_n (lv' := [(3, .ref a5), (0, .ref h0), (1, .int x1), (2, .int x2)]) hx hb dA_is_5 rfl hl (by decide) rfl (fun ls hl => ?_)
  refine lv_iload_n hx hb dA_is_6 rfl (lv_at hl 3 rfl) ?_
  refine lv_if_lt (tgt := 15) hx hb dA_is_7 (by decide) (fun hq => ?_) (fun hq => ?_)
  · have hw := hw.1 hq
    exact k_A_is_j15 C0 hst  _ _ _  _ _ _ _ _ (show (0 + mc2) + (mc - mc2) ≤ mc by omega) (show (0 + ms3) + (ms - ms3) ≤ ms by omega) hM hS (lv_sub hl [] rfl) hw
  · have hw := hw.2 hq
    refine lv_iload_n hx hb dA_is_10 rfl (lv_at hl 3 rfl) ?_
    refine lv_iconst (v := 2) hx hb dA_is_11 (by decide +kernel) ?_
    refine lv_icmp_le (tgt := 25) hx hb dA_is_12 (by decide) (fun hq => ?_) (fun hq => ?_)
    · have hw := hw.1 hq
      refine lv_aload_n hx hb dA_is_25 rfl (lv_at hl 0 rfl) ?_
      refine lv_iload_n hx hb dA_is_26 rfl (lv_at hl 3 rfl) ?_
      obtain ⟨fs6, h7, hl8, hw⟩ := hw
      refine z_putN (ty := .int) hx hb htb inw_P ty_P tyok_P nmok_P hown hK hM hS h7 rfl 4 (by decide) (va_Nw.use rfl (hG.2.1 _ t_345)) (fun _ h9 => h9) rfl (by decide +kernel) rfl rfl hl8 dA_is_27 (fun H locs hM hS => ?_)
      refine vx_ret ?_
      refine W.widen (k := mc) (n := ms) (by omega) (by omega) ?_
      exact W.vret hx hb hr (fun t ht hW => ⟨⟨_, rfl, hw, zB_of ht hM⟩, hS.F ht⟩) hS.2.2 dA_is_30
    · have hw := hw.2 hq
      exact k_A_is_j15 C0 hst  _ _ _  _ _ _ _ _ (show (0 + mc2) + (mc - mc2) ≤ mc by omega) (show (0 + ms3) + (ms - ms3) ≤ ms by omega) hM hS (lv_sub hl [] rfl) hw
abbrev r_A_wouldAskSomebody : Room := { frames := 3, cells := 0, slots := 0, locals := 64 }
abbrev J_A_wouldAskSomebody_2 (p : Program) (l : Launch) (e : Env) (s : State) (m : MethodId) (args : Array Value) (below : List Frame) (meth : Method) (c : Code) (D : va_G) (tc : Nat → ClassId) (A : Nat → Prop) (Q : State → Prop) (K : zM → Nat → Int32 → Int32 → Int32 → Prop) : Prop := ∀ (M : zM) (l0 : Nat) (l1 : Int32) (l2 : Int32) (l3 : Int32) (H : Heap) (locs : List Loc) (ls : Array Slot), zP D vwCl tc A M H → va_S A s.heap H locs → lv_has ls 4 [(0, .ref l0), (1, .int l1), (2, .int l2), (3, .int l3)] → K M l0 l1 l2 l3 → W p l e (r_A_wouldAskSomebody) s m args below meth c H locs 0 0 Q (F0 m 2 ls [])
def w_A_wouldAskSomebody_j2 (e0 : Nat) (post : Int32 → zM → Prop) : Nat → zM → Nat → Int32 → Int32 → Int32 → Prop
  | 0 => fun _ _ _ _ _ => False
  | n + 1 => fun M l0 l1 l2 l3 => wGR M l0 0 1 (fun v1 => wIs M v1 5 ∧ w_Y_size e0 (fun r6 M5 => ((r6 ≤ l3) → post 0 M5) ∧ (¬ (r6 ≤ l3) → wGR M5 l0 0 1 (fun v7 => wIs M5 v7 5 ∧ w_Y_get e0 (fun r12 M11 => wSm r12 (fun a13 => wIs M11 a13 3 ∧ wIs M11 a13 3 ∧ w_P_wouldBeAsked e0 (fun r17 M16 => ((r17 = 0) → w_A_wouldAskSomebody_j2 e0 post n M16 l0 l1 l2 (l3 + 1)) ∧ (¬ (r17 = 0) → post 1 M16)) M11 a13 l1 l2)) M5 v7 l3))) M v1)
set_option maxHeartbeats 4000000 in
set_option maxRecDepth 100000 in
theorem k_A_wouldAskSomebody_j2 {p : Program} {l : Launch} {e : Env} {s : State} {m : MethodId} {args : Array Value} {below : List Frame} {meth : Method} {c : Code} {D : va_G} {tc : Nat → ClassId} {A : Nat → Prop} {post : Int32 → zM → Prop} (C0 : zC R_A cA_wouldAskSomebody 4 (some .boolean) "wouldAskSomebody" D tc A p l s m args meth c) : ∀ n : Nat, J_A_wouldAskSomebody_2 p l e s m args below meth c D tc A (MQ below (va_Qi post (zB D tc A) A) args s 0 0 A) (w_A_wouldAskSomebody_j2 (tc 9) post n) := by
  obtain ⟨hx, hb, hml, hr, hown, htb, hlk, hA, hG, hin, hex⟩ := id C0
  have hK := hG.1
  intro n
  induction n with
  | zero => intro M l0 l1 l2 l3 H locs ls hM hS hl hw; exact hw.elim
  | succ n ih =>
    intro M l0 l1 l2 l3 H locs ls hM hS hl hw
    refine lv_iload_n hx hb dA_wouldAskSomebody_2 rfl (lv_at hl 3 rfl) ?_
    refine lv_aload_n hx hb dA_wouldAskSomebody_3 rfl (lv_at hl 0 rfl) ?_
    obtain ⟨fs2, v1, h3, ev4, hw⟩ := hw
    refine z_get hx hb htb inw_A hown hK hM h3 rfl 1 (by decide) (htb _ t_58) (fun _ h9 => h9) ev4 dA_wouldAskSomebody_4 ?_
    obtain ⟨⟨fs22, h23⟩, hw⟩ := hw
    refine va_calli (va_runV (As := []) (rest := [.int l3]) ⟨hx, hb, hml, hown, htb⟩ (k_Y_size (l := l) (D := D) (tc := tc) (A := A) hw) (cw_A_31 htb ⟨Nat.le_of_ble_eq_true rfl, Nat.le_of_ble_eq_true rfl⟩) (z_preV hG hA hS hM h23 rfl) rfl rfl hl.1 rfl (lv_room (Nat.le_of_ble_eq_true rfl)) dA_wouldAskSomebody_7 ⟨Nat.le_refl _, Nat.le_refl _⟩) hS (fun _ _ h => h) (fun _ h => h) (fun r6 M5 t H locs ht hvm hw hB _ _ hS => ?_)
    have hM : zP D vwCl tc A M5 H := by rw [← ht]; exact hB
    refine lv_icmp_ge (tgt := 40) hx hb dA_wouldAskSomebody_10 (by decide) (fun hq => ?_) (fun hq => ?_)
    · have hw := hw.1 hq
      refine lv_iconst (v := 0) hx hb dA_wouldAskSomebody_40 (by decide +kernel) ?_
      exact W.zret hx hb hr rfl (fun t ht hW => ⟨⟨_, _, rfl, hw, zB_of ht hM⟩, hS.F ht⟩) hS.2.2 dA_wouldAskSomebody_41
    · have hw := hw.2 hq
      refine lv_aload_n hx hb dA_wouldAskSomebody_13 rfl (lv_at hl 0 rfl) ?_
      obtain ⟨fs8, v7, h9, ev10, hw⟩ := hw
      refine z_get hx hb htb inw_A hown hK hM h9 rfl 1 (by decide) (htb _ t_58) (fun _ h9 => h9) ev10 dA_wouldAskSomebody_14 ?_
      refine lv_iload_n hx hb dA_wouldAskSomebody_17 rfl (lv_at hl 3 rfl) ?_
      obtain ⟨⟨fs20, h21⟩, hw⟩ := hw
      refine va_callq (va_runV (As := [.int l3]) (rest := []) ⟨hx, hb, hml, hown, htb⟩ (k_Y_get (l := l) (D := D) (tc := tc) (A := A) hw) (cw_A_203 htb ⟨Nat.le_of_ble_eq_true rfl, Nat.le_of_ble_eq_true rfl⟩) (z_preV hG hA hS hM h21 rfl) rfl rfl hl.1 rfl (lv_room (Nat.le_of_ble_eq_true rfl)) dA_wouldAskSomebody_18 ⟨Nat.le_refl _, Nat.le_refl _⟩) hS (fun _ _ h => h) (fun _ h => h) (fun r12 M11 t H locs ht hvm hw hB _ _ hS => ?_)
      have hM : zP D vwCl tc A M11 H := by rw [← ht]; exact hB
      obtain ⟨a13, rfl, hw⟩ := hw
      obtain ⟨⟨fs14, h15⟩, hw⟩ := hw
      refine va_castS hx hb hown (htb _ t_333) (hK.1 3 _ rfl).2 (z_recv hK hM h15 rfl) dA_wouldAskSomebody_21 ?_
      refine lv_iload_n hx hb dA_wouldAskSomebody_24 rfl (lv_at hl 1 rfl) ?_
      refine lv_iload_n hx hb dA_wouldAskSomebody_25 rfl (lv_at hl 2 rfl) ?_
      obtain ⟨⟨fs18, h19⟩, hw⟩ := hw
      refine va_calli (va_runV (As := [.int l1, .int l2]) (rest := []) ⟨hx, hb, hml, hown, htb⟩ (k_P_wouldBeAsked (l := l) (D := D) (tc := tc) (A := A) hw) (cw_A_227 htb ⟨Nat.le_of_ble_eq_true rfl, Nat.le_of_ble_eq_true rfl⟩) (z_preV hG hA hS hM h19 rfl) rfl rfl hl.1 rfl (lv_room (Nat.le_of_ble_eq_true rfl)) dA_wouldAskSomebody_26 ⟨Nat.le_refl _, Nat.le_refl _⟩) hS (fun _ _ h => h) (fun _ h => h) (fun r17 M16 t H locs ht hvm hw hB _ _ hS => ?_)
      have hM : zP D vwCl tc A M16 H := by rw [← ht]; exact hB
      refine lv_if_eq (tgt := 34) hx hb dA_wouldAskSomebody_29 (by decide) (fun hq => ?_) (fun hq => ?_)
      · have hw := hw.1 hq
        refine lv_iinc (v := (l3 + 1)) (lv' := [(3, .int (l3 + 1)), (0, .ref l0), (1, .int l1), (2, .int l2)]) hx hb dA_wouldAskSomebody_34 hl (k := 3) rfl rfl (by decide) rfl (fun ls hl => ?_)
        refine lv_goto (tgt := 2) hx hb dA_wouldAskSomebody_37 (by decide) ?_
        exact ih _ _ _ _ _ _ _ _ hM hS (lv_sub hl [1, 2, 3, 0] rfl) hw
      · have hw := hw.2 hq
        refine lv_iconst (v := 1) hx hb dA_wouldAskSomebody_32 (by decide +kernel) ?_
        exact W.zret hx hb hr rfl (fun t ht hW => ⟨⟨_, _, rfl, hw, zB_of ht hM⟩, hS.F ht⟩) hS.2.2 dA_wouldAskSomebody_33
def w_A_wouldAskSomebody (e0 : Nat) (post : Int32 → zM → Prop) (M : zM) (h0 : Nat) (x1 : Int32) (x2 : Int32) : Prop := ∃ nn, w_A_wouldAskSomebody_j2 e0 post nn M h0 x1 x2 0
set_option maxHeartbeats 4000000 in
set_option maxRecDepth 100000 in
theorem k_A_wouldAskSomebody {l : Launch} {D : va_G} {tc : Nat → ClassId} {A : Nat → Prop} {post : Int32 → zM → Prop} {M : zM} {h0 : Nat} {x1 : Int32} {x2 : Int32} (hw : w_A_wouldAskSomebody (tc 9) post M h0 x1 x2) : Met l yA_wouldAskSomebody (.code yA_wouldAskSomebody cA_wouldAskSomebody 4 (some .boolean) :: zTB) r_A_wouldAskSomebody (va_Pc [.ref h0, .int x1, .int x2] (zI D tc A M)) (va_Qi post (zB D tc A) A) 0 0 A := by
  refine Met.ofW (cc := cA_wouldAskSomebody) (maxL := 4) (ret := (some .boolean)) (by decide +kernel) rfl ?_
  intro p e s m args below meth c s₁ B hml hv
  obtain ⟨rfl, hA, hM, hG⟩ := hv
  have C0 := zC_of (D := D) (tc := tc) (A := A) B hml (zC_ex B) hA hG
  obtain ⟨hx, hb, hml, hr, hown, htb, hlk, hA, hG, hin, hex⟩ := id C0
  have hK := hG.1
  have hS : va_S A s.heap s.heap [] := va_S.rf
  have hl := lv_entry ([.ref h0, .int x1, .int x2]) (n := 4) (Nat.le_of_ble_eq_true rfl)
  rw [lg_entry_eq]
  generalize (lg_sl ([.ref h0, .int x1, .int x2]) ++ List.replicate (4 - (lg_sl ([.ref h0, .int x1, .int x2])).length) Slot.unset).toArray = ls at hl ⊢
  have hl : lv_has ls 4 [(0, .ref h0), (1, .int x1), (2, .int x2)] := hl
  refine lv_iconst (v := 0) hx hb dA_wouldAskSomebody_0 (by decide +kernel) ?_
  refine lv_istore_n (lv' := [(3, .int 0), (0, .ref h0), (1, .int x1), (2, .int x2)]) hx hb dA_wouldAskSomebody_1 rfl hl (by decide) rfl (fun ls hl => ?_)
  obtain ⟨nfu, hw⟩ := hw
  exact k_A_wouldAskSomebody_j2 C0  nfu _ _ _ _ _ _ _ _ hM hS (lv_sub hl [1, 2, 3, 0] rfl) hw
abbrev r_A_raise (mc ms : Nat) : Room := { frames := 8, cells := mc, slots := ms, locals := 191 }
abbrev J_A_raise_80 (p : Program) (l : Launch) (e : Env) (s : State) (m : MethodId) (args : Array Value) (below : List Frame) (meth : Method) (c : Code) (D : va_G) (tc : Nat → ClassId) (A : Nat → Prop) (mcT msT : Nat) (Q : State → Prop) (K : Nat → Nat → zM → Nat → Int32 → Int32 → Nat → Int32 → Prop) : Prop := ∀ (mc : Nat) (ms : Nat) (M : zM) (l0 : Nat) (l1 : Int32) (l2 : Int32) (l4 : Nat) (l5 : Int32) (H : Heap) (locs : List Loc) (cells slots : Nat) (ls : Array Slot), cells + mc ≤ mcT → slots + ms ≤ msT → zP D vwCl tc A M H → va_S A s.heap H locs → lv_has ls 7 [(0, .ref l0), (1, .int l1), (2, .int l2), (4, .ref l4), (5, .int l5)] → K mc ms M l0 l1 l2 l4 l5 → W p l e (r_A_raise mcT msT) s m args below meth c H locs cells slots Q (F0 m 80 ls [])
abbrev J_A_raise_32 (p : Program) (l : Launch) (e : Env) (s : State) (m : MethodId) (args : Array Value) (below : List Frame) (meth : Method) (c : Code) (D : va_G) (tc : Nat → ClassId) (A : Nat → Prop) (mcT msT : Nat) (Q : State → Prop) (K : Nat → Nat → zM → Nat → Int32 → Int32 → Nat → Int32 → Prop) : Prop := ∀ (mc : Nat) (ms : Nat) (M : zM) (l0 : Nat) (l1 : Int32) (l2 : Int32) (l4 : Nat) (l5 : Int32) (H : Heap) (locs : List Loc) (cells slots : Nat) (ls : Array Slot), cells + mc ≤ mcT → slots + ms ≤ msT → zP D vwCl tc A M H → va_S A s.heap H locs → lv_has ls 7 [(0, .ref l0), (1, .int l1), (2, .int l2), (4, .ref l4), (5, .int l5)] → K mc ms M l0 l1 l2 l4 l5 → W p l e (r_A_raise mcT msT) s m args below meth c H locs cells slots Q (F0 m 32 ls [])
def w_A_raise_j80 (e0 : Nat) (post : zM → Prop) (px : String → zM → Prop) (K32 : Nat → Nat → zM → Nat → Int32 → Int32 → Nat → Int32 → Prop) (mc : Nat) (ms : Nat) (M : zM) (l0 : Nat) (l1 : Int32) (l2 : Int32) (l4 : Nat) (l5 : Int32) : Prop := K32 mc ms M l0 l1 l2 l4 (l5 + 1)
set_option maxHeartbeats 4000000 in
set_option maxRecDepth 100000 in
theorem k_A_raise_j80 {p : Program} {l : Launch} {e : Env} {s : State} {m : MethodId} {args : Array Value} {below : List Frame} {meth : Method} {c : Code} {D : va_G} {tc : Nat → ClassId} {A : Nat → Prop} {mcT msT : Nat} {post : zM → Prop} {px : String → zM → Prop} (C0 : zC R_A cA_raise 7 none "raise" D tc A p l s m args meth c) (hst : l.stackTraces = false) {K32 : Nat → Nat → zM → Nat → Int32 → Int32 → Nat → Int32 → Prop} (hK32 : J_A_raise_32 p l e s m args below meth c D tc A mcT msT (vx_MQ below (va_Qv post (zB D tc A) A) (zX D tc A px) args s mcT msT A) K32) : J_A_raise_80 p l e s m args below meth c D tc A mcT msT (vx_MQ below (va_Qv post (zB D tc A) A) (zX D tc A px) args s mcT msT A) (w_A_raise_j80 (tc 9) post px K32) := by
  obtain ⟨hx, hb, hml, hr, hown, htb, hlk, hA, hG, hin, hex⟩ := id C0
  have hK := hG.1
  intro mc ms M l0 l1 l2 l4 l5 H locs cells slots ls hbc hbs hM hS hl hw
  refine lv_iinc (v := (l5 + 1)) (lv' := [(5, .int (l5 + 1)), (0, .ref l0), (1, .int l1), (2, .int l2), (4, .ref l4)]) hx hb dA_raise_80 hl (k := 4) rfl rfl (by decide) rfl (fun ls hl => ?_)
  refine lv_goto (tgt := 32) hx hb dA_raise_83 (by decide) ?_
  exact hK32 _ _ _ _ _ _ _ _ _ _ _ _ _ (show cells + mc ≤ mcT by omega) (show slots + ms ≤ msT by omega) hM hS (lv_sub hl [1, 2, 3, 4, 0] rfl) hw
def w_A_raise_j32 (e0 : Nat) (post : zM → Prop) (px : String → zM → Prop) : Nat → Nat → Nat → zM → Nat → Int32 → Int32 → Nat → Int32 → Prop
  | 0 => fun _ _ _ _ _ _ _ _ => False
  | n + 1 => fun mc ms M l0 l1 l2 l4 l5 => wGR M l0 0 1 (fun v1 => wIs M v1 5 ∧ w_Y_size e0 (fun r6 M5 => ((r6 ≤ l5) → wGR M5 l0 0 2 (fun v7 => wIs M5 v7 5 ∧ ∃ mc12 ms13 : Nat, mc12 ≤ mc ∧ ms13 ≤ ms ∧ w_Y_add1 e0 (fun r14 M11 => post M11) mc12 ms13 M5 v7 l4)) ∧ (¬ (r6 ≤ l5) → wGR M5 l0 0 1 (fun v17 => wIs M5 v17 5 ∧ w_Y_get e0 (fun r22 M21 => wSm r22 (fun a23 => wIs M21 a23 3 ∧ wIs M21 a23 3 ∧ w_P_wouldBeAsked e0 (fun r27 M26 => ((r27 = 0) → w_A_raise_j80 e0 post px (w_A_raise_j32 e0 post px n) mc ms M26 l0 l1 l2 l4 l5) ∧ (¬ (r27 = 0) → wIs M26 a23 3 ∧ w_P_reachNow e0 (fun r29 M28 => wIs M28 l4 1 ∧ w_L_ask e0 (fun M30 => w_A_raise_j80 e0 post px (w_A_raise_j32 e0 post px n) mc ms M30 l0 l1 l2 l4 l5) M28 l4 l5 r29) M26 a23)) M21 a23 l1 l2)) M5 v17 l5))) M v1)
set_option maxHeartbeats 4000000 in
set_option maxRecDepth 100000 in
theorem k_A_raise_j32 {p : Program} {l : Launch} {e : Env} {s : State} {m : MethodId} {args : Array Value} {below : List Frame} {meth : Method} {c : Code} {D : va_G} {tc : Nat → ClassId} {A : Nat → Prop} {mcT msT : Nat} {post : zM → Prop} {px : String → zM → Prop} (C0 : zC R_A cA_raise 7 none "raise" D tc A p l s m args meth c) (hst : l.stackTraces = false) : ∀ n : Nat, J_A_raise_32 p l e s m args below meth c D tc A mcT msT (vx_MQ below (va_Qv post (zB D tc A) A) (zX D tc A px) args s mcT msT A) (w_A_raise_j32 (tc 9) post px n) := by
  obtain ⟨hx, hb, hml, hr, hown, htb, hlk, hA, hG, hin, hex⟩ := id C0
  have hK := hG.1
  intro n
  induction n with
  | zero => intro mc ms M l0 l1 l2 l4 l5 H locs cells slots ls hbc hbs hM hS hl hw; exact hw.elim
  | succ n ih =>
    intro mc ms M l0 l1 l2 l4 l5 H locs cells slots ls hbc hbs hM hS hl hw
    refine lv_iload hx hb dA_raise_32 (lv_at hl 4 rfl) ?_
    refine lv_aload_n hx hb dA_raise_34 rfl (lv_at hl 0 rfl) ?_
    obtain ⟨fs2, v1, h3, ev4, hw⟩ := hw
    refine z_get hx hb htb inw_A hown hK hM h3 rfl 1 (by decide) (htb _ t_58) (fun _ h9 => h9) ev4 dA_raise_35 ?_
    obtain ⟨⟨fs39, h40⟩, hw⟩ := hw
    refine va_calli (va_runV (As := []) (rest := [.int l5]) ⟨hx, hb, hml, hown, htb⟩ (k_Y_size (l := l) (D := D) (tc := tc) (A := A) hw) (cw_A_31 htb ⟨Nat.le_of_ble_eq_true rfl, Nat.le_of_ble_eq_true rfl⟩) (z_preV hG hA hS hM h40 rfl) rfl rfl hl.1 rfl (lv_room (Nat.le_of_ble_eq_true rfl)) dA_raise_38 ⟨show cells + 0 ≤ mcT by omega, show slots + 0 ≤ msT by omega⟩) hS (fun _ _ h => h) (fun _ h => h) (fun r6 M5 t H locs ht hvm hw hB _ _ hS => ?_)
    have hM : zP D vwCl tc A M5 H := by rw [← ht]; exact hB
    refine lv_icmp_ge (tgt := 86) hx hb dA_raise_41 (by decide) (fun hq => ?_) (fun hq => ?_)
    · have hw := hw.1 hq
      refine lv_aload_n hx hb dA_raise_86 rfl (lv_at hl 0 rfl) ?_
      obtain ⟨fs8, v7, h9, ev10, hw⟩ := hw
      refine z_get hx hb htb inw_A hown hK hM h9 rfl 2 (by decide) (htb _ t_59) (fun _ h9 => h9) ev10 dA_raise_87 ?_
      refine lv_aload hx hb dA_raise_90 (lv_at hl 3 rfl) ?_
      obtain ⟨⟨fs15, h16⟩, hw⟩ := hw
      obtain ⟨mc12, ms13, hbmc12, hbms13, hw⟩ := hw
      refine va_calli (va_runV (As := [.ref l4]) (rest := []) ⟨hx, hb, hml, hown, htb⟩ (k_Y_add1 (l := l) (D := D) (tc := tc) (A := A) hw) (cw_A_45 htb ⟨Nat.le_of_ble_eq_true rfl, Nat.le_of_ble_eq_true rfl⟩) (z_preV hG hA hS hM h16 rfl) rfl rfl hl.1 rfl (lv_room (Nat.le_of_ble_eq_true rfl)) dA_raise_92 ⟨show cells + mc12 ≤ mcT by omega, show slots + ms13 ≤ msT by omega⟩) hS (fun _ _ h => h) (fun _ h => h) (fun r14 M11 t H locs ht hvm hw hB _ _ hS => ?_)
      have hM : zP D vwCl tc A M11 H := by rw [← ht]; exact hB
      refine lv_pop hx hb dA_raise_95 rfl ?_
      refine vx_ret ?_
      refine W.widen (k := mcT) (n := msT) (by omega) (by omega) ?_
      exact W.vret hx hb hr (fun t ht hW => ⟨⟨_, rfl, hw, zB_of ht hM⟩, hS.F ht⟩) hS.2.2 dA_raise_96
    · have hw := hw.2 hq
      refine lv_aload_n hx hb dA_raise_44 rfl (lv_at hl 0 rfl) ?_
      obtain ⟨fs18, v17, h19, ev20, hw⟩ := hw
      refine z_get hx hb htb inw_A hown hK hM h19 rfl 1 (by decide) (htb _ t_58) (fun _ h9 => h9) ev20 dA_raise_45 ?_
      refine lv_iload hx hb dA_raise_48 (lv_at hl 4 rfl) ?_
      obtain ⟨⟨fs37, h38⟩, hw⟩ := hw
      refine va_callq (va_runV (As := [.int l5]) (rest := []) ⟨hx, hb, hml, hown, htb⟩ (k_Y_get (l := l) (D := D) (tc := tc) (A := A) hw) (cw_A_203 htb ⟨Nat.le_of_ble_eq_true rfl, Nat.le_of_ble_eq_true rfl⟩) (z_preV hG hA hS hM h38 rfl) rfl rfl hl.1 rfl (lv_room (Nat.le_of_ble_eq_true rfl)) dA_raise_50 ⟨show cells + 0 ≤ mcT by omega, show slots + 0 ≤ msT by omega⟩) hS (fun _ _ h => h) (fun _ h => h) (fun r22 M21 t H locs ht hvm hw hB _ _ hS => ?_)
      have hM : zP D vwCl tc A M21 H := by rw [← ht]; exact hB
      obtain ⟨a23, rfl, hw⟩ := hw
      obtain ⟨⟨fs24, h25⟩, hw⟩ := hw
      refine va_castS hx hb hown (htb _ t_333) (hK.1 3 _ rfl).2 (z_recv hK hM h25 rfl) dA_raise_53 ?_
      refine lv_astore (lv' := [(6, .ref a23), (0, .ref l0), (1, .int l1), (2, .int l2), (4, .ref l4), (5, .int l5)]) hx hb dA_raise_56 hl (by decide) rfl (fun ls hl => ?_)
      refine lv_aload hx hb dA_raise_58 (lv_at hl 0 rfl) ?_
      refine lv_iload_n hx hb dA_raise_60 rfl (lv_at hl 2 rfl) ?_
      refine lv_iload_n hx hb dA_raise_61 rfl (lv_at hl 3 rfl) ?_
      obtain ⟨⟨fs35, h36⟩, hw⟩ := hw
      refine va_calli (va_runV (As := [.int l1, .int l2]) (rest := []) ⟨hx, hb, hml, hown, htb⟩ (k_P_wouldBeAsked (l := l) (D := D) (tc := tc) (A := A) hw) (cw_A_227 htb ⟨Nat.le_of_ble_eq_true rfl, Nat.le_of_ble_eq_true rfl⟩) (z_preV hG hA hS hM h36 rfl) rfl rfl hl.1 rfl (lv_room (Nat.le_of_ble_eq_true rfl)) dA_raise_62 ⟨show cells + 0 ≤ mcT by omega, show slots + 0 ≤ msT by omega⟩) hS (fun _ _ h => h) (fun _ h => h) (fun r27 M26 t H locs ht hvm hw hB _ _ hS => ?_)
      have hM : zP D vwCl tc A M26 H := by rw [← ht]; exact hB
      refine lv_if_eq (tgt := 80) hx hb dA_raise_65 (by decide) (fun hq => ?_) (fun hq => ?_)
      · have hw := hw.1 hq
        exact k_A_raise_j80 C0 hst ih _ _ _ _ _ _ _ _ _ _ _ _ _ (show cells + mc ≤ mcT by omega) (show slots + ms ≤ msT by omega) hM hS (lv_sub hl [1, 2, 3, 4, 5] rfl) hw
      · have hw := hw.2 hq
        refine lv_aload hx hb dA_raise_68 (lv_at hl 4 rfl) ?_
        refine lv_iload hx hb dA_raise_70 (lv_at hl 5 rfl) ?_
        refine lv_aload hx hb dA_raise_72 (lv_at hl 0 rfl) ?_
        obtain ⟨⟨fs33, h34⟩, hw⟩ := hw
        refine va_calli (va_runV (As := []) (rest := [.int l5, .ref l4]) ⟨hx, hb, hml, hown, htb⟩ (k_P_reachNow (l := l) (D := D) (tc := tc) (A := A) hw) (cw_A_236 htb ⟨Nat.le_of_ble_eq_true rfl, Nat.le_of_ble_eq_true rfl⟩) (z_preV hG hA hS hM h34 rfl) rfl rfl hl.1 rfl (lv_room (Nat.le_of_ble_eq_true rfl)) dA_raise_74 ⟨show cells + 0 ≤ mcT by omega, show slots + 0 ≤ msT by omega⟩) hS (fun _ _ h => h) (fun _ h => h) (fun r29 M28 t H locs ht hvm hw hB _ _ hS => ?_)
        have hM : zP D vwCl tc A M28 H := by rw [← ht]; exact hB
        obtain ⟨⟨fs31, h32⟩, hw⟩ := hw
        refine va_callv (va_runV (As := [.int l5, .int r29]) (rest := []) ⟨hx, hb, hml, hown, htb⟩ (k_L_ask (l := l) (D := D) (tc := tc) (A := A) hw) (cw_A_239 htb ⟨Nat.le_of_ble_eq_true rfl, Nat.le_of_ble_eq_true rfl⟩) (z_preV hG hA hS hM h32 rfl) rfl rfl hl.1 rfl (lv_room (Nat.le_of_ble_eq_true rfl)) dA_raise_77 ⟨show cells + 0 ≤ mcT by omega, show slots + 0 ≤ msT by omega⟩) hS (fun _ _ h => h) (fun _ h => h) (fun M30 t H locs ht hvm hw hB _ _ hS => ?_)
        have hM : zP D vwCl tc A M30 H := by rw [← ht]; exact hB
        exact k_A_raise_j80 C0 hst ih _ _ _ _ _ _ _ _ _ _ _ _ _ (show cells + mc ≤ mcT by omega) (show slots + ms ≤ msT by omega) hM hS (lv_sub hl [1, 2, 3, 4, 5] rfl) hw
def w_A_raise (e0 : Nat) (post : zM → Prop) (px : String → zM → Prop) (mc : Nat) (ms : Nat) (M : zM) (h0 : Nat) (x1 : Int32) (x2 : Int32) (x3 : Int32) : Prop := wNO M 1 [.int 0, .int 0, .int 0, .int 0, .int 0, .null, .null, .int 0] 8 mc ms (fun q1 M5 => wGI M5 h0 0 3 (fun v6 => wGI M5 h0 0 3 (fun v10 => wIs M5 h0 0 ∧ ∃ mc15 ms16 : Nat, mc15 ≤ (mc - 1) ∧ ms16 ≤ (ms - 8) ∧ w_A_groupOf e0 (fun r17 M14 => wSm r17 (fun a18 => wGI M14 a18 2 1 (fun v19 => ∃ mc24 ms25 : Nat, mc24 ≤ ((mc - 1) - mc15) ∧ ms25 ≤ ((ms - 8) - ms16) ∧ w_L_init e0 (fun M23 => ∃ nn, w_A_raise_j32 e0 post px nn (((mc - 1) - mc15) - mc24) (((ms - 8) - ms16) - ms25) M23 h0 x1 x2 q1 0) mc24 ms25 M14 q1 x1 x2 v6 (v10 + v19) x3))) px mc15 ms16 M5 h0 x1)))
set_option maxHeartbeats 4000000 in
set_option maxRecDepth 100000 in
theorem k_A_raise {l : Launch} {D : va_G} {tc : Nat → ClassId} {A : Nat → Prop} {mc ms : Nat} {post : zM → Prop} {px : String → zM → Prop} {M : zM} {h0 : Nat} {x1 : Int32} {x2 : Int32} {x3 : Int32} (hst : l.stackTraces = false) (hw : w_A_raise (tc 9) post px mc ms M h0 x1 x2 x3) : vx_Met l yA_raise (.code yA_raise cA_raise 7 none :: zTB) (r_A_raise mc ms) (va_Pc [.ref h0, .int x1, .int x2, .int x3] (zI D tc A M)) (va_Qv post (zB D tc A) A) (zX D tc A px) mc ms A := by
  refine vx_ofW (cc := cA_raise) (maxL := 7) (ret := none) (by decide) rfl ?_
  intro p e s m args below meth c s₁ B hml ht9 hv
  obtain ⟨rfl, hA, hM, hG⟩ := hv
  have C0 := zC_of (D := D) (tc := tc) (A := A) B hml ht9 hA hG
  obtain ⟨hx, hb, hml, hr, hown, htb, hlk, hA, hG, hin, hex⟩ := id C0
  have hK := hG.1
  have hS : va_S A s.heap s.heap [] := va_S.rf
  have hl := lv_entry ([.ref h0, .int x1, .int x2, .int x3]) (n := 7) (Nat.le_of_ble_eq_true rfl)
  rw [lg_entry_eq]
  generalize (lg_sl ([.ref h0, .int x1, .int x2, .int x3]) ++ List.replicate (7 - (lg_sl ([.ref h0, .int x1, .int x2, .int x3])).length) Slot.unset).toArray = ls at hl ⊢
  have hl : lv_has ls 7 [(0, .ref h0), (1, .int x1), (2, .int x2), (3, .int x3)] := hl
  obtain ⟨h2, h3, hw⟩ := hw
  refine z_newO (ci := 1) (fs := [.int 0, .int 0, .int 0, .int 0, .int 0, .null, .null, .int 0]) hx hb htb inw_L ty_L tyok_L hown (htb _ t_415) (htb _ t_416) (htb _ t_21) hK hM hS hA rfl defok_L (show 0 + 1 ≤ mc by omega) (show 0 + 8 ≤ ms by omega) dA_raise_0 (fun q1 H hn4 hM hS => ?_)
  have hw := hw q1 hn4
  refine lv_dup hx hb dA_raise_3 rfl ?_
  refine lv_iload_n hx hb dA_raise_4 rfl (lv_at hl 1 rfl) ?_
  refine lv_iload_n hx hb dA_raise_5 rfl (lv_at hl 2 rfl) ?_
  refine lv_aload_n hx hb dA_raise_6 rfl (lv_at hl 0 rfl) ?_
  obtain ⟨fs7, v6, h8, ev9, hw⟩ := hw
  refine z_get hx hb htb inw_A hown hK hM h8 rfl 3 (by decide) (htb _ t_60) (fun _ h9 => h9) ev9 dA_raise_7 ?_
  refine lv_aload_n hx hb dA_raise_10 rfl (lv_at hl 0 rfl) ?_
  obtain ⟨fs11, v10, h12, ev13, hw⟩ := hw
  refine z_get hx hb htb inw_A hown hK hM h12 rfl 3 (by decide) (htb _ t_60) (fun _ h9 => h9) ev13 dA_raise_11 ?_
  refine lv_aload_n hx hb dA_raise_14 rfl (lv_at hl 0 rfl) ?_
  refine lv_iload_n hx hb dA_raise_15 rfl (lv_at hl 1 rfl) ?_
  obtain ⟨⟨fs26, h27⟩, hw⟩ := hw
  obtain ⟨mc15, ms16, hbmc15, hbms16, hw⟩ := hw
  refine zx_callq (vx_runV (As := [.int x1]) (rest := [.int v10, .int v6, .int x2, .int x1, .ref q1, .ref q1]) ⟨hx, hb, hml, hown, htb⟩ (k_A_groupOf (l := l) (D := D) (tc := tc) (A := A) hst hw) (cw_A_49 htb ⟨Nat.le_of_ble_eq_true rfl, Nat.le_of_ble_eq_true rfl⟩) (z_preV hG hA hS hM h27 rfl) rfl rfl hl.1 rfl (lv_room (Nat.le_of_ble_eq_true rfl)) dA_raise_16 ⟨show (0 + 1) + mc15 ≤ mc by omega, show (0 + 8) + ms16 ≤ ms by omega⟩) hS (fun _ _ h => h) (fun _ h => h) (fun _ _ h => h) (fun E9 ce9 q9 u9 t9 H locs ht hvm hw hB _ _ hS hce hcv hcl => z_out (fun x9 hx9 => (hex x9 hx9).elim) hlk hce hcv hcl ht hB hS hw (show (0 + 1) + mc15 ≤ mc by omega) (show (0 + 8) + ms16 ≤ ms by omega)) (fun r17 M14 t H locs ht hvm hw hB _ _ hS => ?_)
  have hM : zP D vwCl tc A M14 H := by rw [← ht]; exact hB
  obtain ⟨a18, rfl, hw⟩ := hw
  obtain ⟨fs20, v19, h21, ev22, hw⟩ := hw
  refine z_getN hx hb htb inw_G hown hK hM h21 rfl 1 (by decide) (va_Nw.use rfl (hG.2.1 _ t_188)) (fun _ h9 => h9) ev22 dA_raise_19 ?_
  refine lv_iadd hx hb dA_raise_22 ?_
  refine lv_iload_n hx hb dA_raise_23 rfl (lv_at hl 3 rfl) ?_
  obtain ⟨mc24, ms25, hbmc24, hbms25, hw⟩ := hw
  refine va_callv (va_runI (As := [.int x1, .int x2, .int v6, .int (v10 + v19), .int x3]) (rest := [.ref q1]) ⟨hx, hb, hml, hown, htb⟩ (k_L_init (l := l) (D := D) (tc := tc) (A := A) hw) (cw_A_233 htb ⟨Nat.le_of_ble_eq_true rfl, Nat.le_of_ble_eq_true rfl⟩) (z_preS hG hA hS hM) rfl rfl hl.1 rfl (lv_room (Nat.le_of_ble_eq_true rfl)) dA_raise_24 ⟨show ((0 + 1) + mc15) + mc24 ≤ mc by omega, show ((0 + 8) + ms16) + ms25 ≤ ms by omega⟩) hS (fun _ _ h => h) (fun _ h => h) (fun M23 t H locs ht hvm hw hB _ _ hS => ?_)
  have hM : zP D vwCl tc A M23 H := by rw [← ht]; exact hB
  refine lv_astore (lv' := [(4, .ref q1), (0, .ref h0), (1, .int x1), (2, .int x2), (3, .int x3)]) hx hb dA_raise_27 hl (by decide) rfl (fun ls hl => ?_)
  refine lv_iconst (v := 0) hx hb dA_raise_29 (by decide +kernel) ?_
  refine lv_istore (lv' := [(5, .int 0), (4, .ref q1), (0, .ref h0), (1, .int x1), (2, .int x2), (3, .int x3)]) hx hb dA_raise_30 hl (by decide) rfl (fun ls hl => ?_)
  obtain ⟨nfu, hw⟩ := hw
  exact k_A_raise_j32 C0 hst  nfu _ _ _ _ _ _ _ _ _ _ _ _ _ (show (((0 + 1) + mc15) + mc24) + (((mc - 1) - mc15) - mc24) ≤ mc by omega) (show (((0 + 8) + ms16) + ms25) + (((ms - 8) - ms16) - ms25) ≤ ms by omega) hM hS (lv_sub hl [2, 3, 4, 1, 0] rfl) hw
abbrev r_A_alarm (mc ms : Nat) : Room := { frames := 9, cells := mc, slots := ms, locals := 217 }
def w_A_alarm (e0 : Nat) (post : Int32 → zM → Prop) (px : String → zM → Prop) (mc : Nat) (ms : Nat) (M : zM) (h0 : Nat) (x1 : Int32) (x2 : Int32) : Prop := wIs M h0 0 ∧ ∃ mc2 ms3 : Nat, mc2 ≤ mc ∧ ms3 ≤ ms ∧ w_A_requireGroup e0 (fun M1 => wIs M1 h0 0 ∧ w_A_wouldAskSomebody e0 (fun r5 M4 => ((r5 = 0) → 1 ≤ (mc - mc2) ∧ 6 ≤ (ms - ms3) ∧ px "java/lang/IllegalStateException" M4) ∧ (¬ (r5 = 0) → wGR M4 h0 0 2 (fun v6 => wIs M4 v6 5 ∧ w_Y_size e0 (fun r11 M10 => ((r11 < 60) → wIs M10 h0 0 ∧ ∃ mc13 ms14 : Nat, mc13 ≤ (mc - mc2) ∧ ms14 ≤ (ms - ms3) ∧ w_A_raise e0 (fun M12 => wGR M12 h0 0 2 (fun v15 => wIs M12 v15 5 ∧ w_Y_size e0 (fun r20 M19 => post (r20 - 1) M19) M12 v15)) px mc13 ms14 M10 h0 x1 x2 (-1)) ∧ (¬ (r11 < 60) → 1 ≤ (mc - mc2) ∧ 6 ≤ (ms - ms3) ∧ px "java/lang/UnsupportedOperationException" M10)) M4 v6))) M1 h0 x1 x2) px mc2 ms3 M h0 x1
set_option maxHeartbeats 4000000 in
set_option maxRecDepth 100000 in
theorem k_A_alarm {l : Launch} {D : va_G} {tc : Nat → ClassId} {A : Nat → Prop} {mc ms : Nat} {post : Int32 → zM → Prop} {px : String → zM → Prop} {M : zM} {h0 : Nat} {x1 : Int32} {x2 : Int32} (hst : l.stackTraces = false) (hw : w_A_alarm (tc 9) post px mc ms M h0 x1 x2) : vx_Met l yA_alarm (.code yA_alarm cA_alarm 3 (some .int) :: zTB) (r_A_alarm mc ms) (va_Pc [.ref h0, .int x1, .int x2] (zI D tc A M)) (va_Qi post (zB D tc A) A) (zX D tc A px) mc ms A := by
  refine vx_ofW (cc := cA_alarm) (maxL := 3) (ret := (some .int)) (by decide) rfl ?_
  intro p e s m args below meth c s₁ B hml ht9 hv
  obtain ⟨rfl, hA, hM, hG⟩ := hv
  have C0 := zC_of (D := D) (tc := tc) (A := A) B hml ht9 hA hG
  obtain ⟨hx, hb, hml, hr, hown, htb, hlk, hA, hG, hin, hex⟩ := id C0
  have hK := hG.1
  have hS : va_S A s.heap s.heap [] := va_S.rf
  have hl := lv_entry ([.ref h0, .int x1, .int x2]) (n := 3) (Nat.le_of_ble_eq_true rfl)
  rw [lg_entry_eq]
  generalize (lg_sl ([.ref h0, .int x1, .int x2]) ++ List.replicate (3 - (lg_sl ([.ref h0, .int x1, .int x2])).length) Slot.unset).toArray = ls at hl ⊢
  have hl : lv_has ls 3 [(0, .ref h0), (1, .int x1), (2, .int x2)] := hl
  refine lv_aload_n hx hb dA_alarm_0 rfl (lv_at hl 0 rfl) ?_
  refine lv_iload_n hx hb dA_alarm_1 rfl (lv_at hl 1 rfl) ?_
  obtain ⟨⟨fs29, h30⟩, hw⟩ := hw
  obtain ⟨mc2, ms3, hbmc2, hbms3, hw⟩ := hw
  refine vx_callv (vx_runV (As := [.int x1]) (rest := []) ⟨hx, hb, hml, hown, htb⟩ (k_A_requireGroup (l := l) (D := D) (tc := tc) (A := A) hst hw) (cw_A_53 htb ⟨Nat.le_of_ble_eq_true rfl, Nat.le_of_ble_eq_true rfl⟩) (z_preV hG hA hS hM h30 rfl) rfl rfl hl.1 rfl (lv_room (Nat.le_of_ble_eq_true rfl)) dA_alarm_2 ⟨show 0 + mc2 ≤ mc by omega, show 0 + ms3 ≤ ms by omega⟩) hS (fun _ _ h => h) (fun _ h => h) (fun _ _ h => h) (fun E9 ce9 q9 u9 t9 H locs ht hvm hw hB _ _ hS hce hcv hcl => z_out (fun x9 hx9 => (hex x9 hx9).elim) hlk hce hcv hcl ht hB hS hw (show 0 + mc2 ≤ mc by omega) (show 0 + ms3 ≤ ms by omega)) (fun M1 t H locs ht hvm hw hB _ _ hS => ?_)
  have hM : zP D vwCl tc A M1 H := by rw [← ht]; exact hB
  refine lv_aload_n hx hb dA_alarm_5 rfl (lv_at hl 0 rfl) ?_
  refine lv_iload_n hx hb dA_alarm_6 rfl (lv_at hl 1 rfl) ?_
  refine lv_iload_n hx hb dA_alarm_7 rfl (lv_at hl 2 rfl) ?_
  obtain ⟨⟨fs27, h28⟩, hw⟩ := hw
  refine va_calli (va_runV (As := [.int x1, .int x2]) (rest := []) ⟨hx, hb, hml, hown, htb⟩ (k_A_wouldAskSomebody (l := l) (D := D) (tc := tc) (A := A) hw) (cw_A_90 htb ⟨Nat.le_of_ble_eq_true rfl, Nat.le_of_ble_eq_true rfl⟩) (z_preV hG hA hS hM h28 rfl) rfl rfl hl.1 rfl (lv_room (Nat.le_of_ble_eq_true rfl)) dA_alarm_8 ⟨show (0 + mc2) + 0 ≤ mc by omega, show (0 + ms3) + 0 ≤ ms by omega⟩) hS (fun _ _ h => h) (fun _ h => h) (fun r5 M4 t H locs ht hvm hw hB _ _ hS => ?_)
  have hM : zP D vwCl tc A M4 H := by rw [← ht]; exact hB
  refine lv_if_ne (tgt := 24) hx hb dA_alarm_11 (by decide) (fun hq => ?_) (fun hq => ?_)
  · have hw := hw.2 hq
    refine lv_aload_n hx hb dA_alarm_24 rfl (lv_at hl 0 rfl) ?_
    obtain ⟨fs7, v6, h8, ev9, hw⟩ := hw
    refine z_get hx hb htb inw_A hown hK hM h8 rfl 2 (by decide) (htb _ t_59) (fun _ h9 => h9) ev9 dA_alarm_25 ?_
    obtain ⟨⟨fs25, h26⟩, hw⟩ := hw
    refine va_calli (va_runV (As := []) (rest := []) ⟨hx, hb, hml, hown, htb⟩ (k_Y_size (l := l) (D := D) (tc := tc) (A := A) hw) (cw_A_31 htb ⟨Nat.le_of_ble_eq_true rfl, Nat.le_of_ble_eq_true rfl⟩) (z_preV hG hA hS hM h26 rfl) rfl rfl hl.1 rfl (lv_room (Nat.le_of_ble_eq_true rfl)) dA_alarm_28 ⟨show (0 + mc2) + 0 ≤ mc by omega, show (0 + ms3) + 0 ≤ ms by omega⟩) hS (fun _ _ h => h) (fun _ h => h) (fun r11 M10 t H locs ht hvm hw hB _ _ hS => ?_)
    have hM : zP D vwCl tc A M10 H := by rw [← ht]; exact hB
    refine lv_bipush (v := 60) hx hb dA_alarm_31 (by decide +kernel) ?_
    refine lv_icmp_lt (tgt := 46) hx hb dA_alarm_33 (by decide) (fun hq => ?_) (fun hq => ?_)
    · have hw := hw.1 hq
      refine lv_aload_n hx hb dA_alarm_46 rfl (lv_at hl 0 rfl) ?_
      refine lv_iload_n hx hb dA_alarm_47 rfl (lv_at hl 1 rfl) ?_
      refine lv_iload_n hx hb dA_alarm_48 rfl (lv_at hl 2 rfl) ?_
      refine lv_iconst (v := (-1)) hx hb dA_alarm_49 (by decide +kernel) ?_
      obtain ⟨⟨fs23, h24⟩, hw⟩ := hw
      obtain ⟨mc13, ms14, hbmc13, hbms14, hw⟩ := hw
      refine vx_callv (vx_runV (As := [.int x1, .int x2, .int (-1)]) (rest := []) ⟨hx, hb, hml, hown, htb⟩ (k_A_raise (l := l) (D := D) (tc := tc) (A := A) hst hw) (cw_A_98 htb ⟨Nat.le_of_ble_eq_true rfl, Nat.le_of_ble_eq_true rfl⟩) (z_preV hG hA hS hM h24 rfl) rfl rfl hl.1 rfl (lv_room (Nat.le_of_ble_eq_true rfl)) dA_alarm_50 ⟨show (0 + mc2) + mc13 ≤ mc by omega, show (0 + ms3) + ms14 ≤ ms by omega⟩) hS (fun _ _ h => h) (fun _ h => h) (fun _ _ h => h) (fun E9 ce9 q9 u9 t9 H locs ht hvm hw hB _ _ hS hce hcv hcl => z_out (fun x9 hx9 => (hex x9 hx9).elim) hlk hce hcv hcl ht hB hS hw (show (0 + mc2) + mc13 ≤ mc by omega) (show (0 + ms3) + ms14 ≤ ms by omega)) (fun M12 t H locs ht hvm hw hB _ _ hS => ?_)
      have hM : zP D vwCl tc A M12 H := by rw [← ht]; exact hB
      refine lv_aload_n hx hb dA_alarm_53 rfl (lv_at hl 0 rfl) ?_
      obtain ⟨fs16, v15, h17, ev18, hw⟩ := hw
      refine z_get hx hb htb inw_A hown hK hM h17 rfl 2 (by decide) (htb _ t_59) (fun _ h9 => h9) ev18 dA_alarm_54 ?_
      obtain ⟨⟨fs21, h22⟩, hw⟩ := hw
      refine va_calli (va_runV (As := []) (rest := []) ⟨hx, hb, hml, hown, htb⟩ (k_Y_size (l := l) (D := D) (tc := tc) (A := A) hw) (cw_A_31 htb ⟨Nat.le_of_ble_eq_true rfl, Nat.le_of_ble_eq_true rfl⟩) (z_preV hG hA hS hM h22 rfl) rfl rfl hl.1 rfl (lv_room (Nat.le_of_ble_eq_true rfl)) dA_alarm_57 ⟨show ((0 + mc2) + mc13) + 0 ≤ mc by omega, show ((0 + ms3) + ms14) + 0 ≤ ms by omega⟩) hS (fun _ _ h => h) (fun _ h => h) (fun r20 M19 t H locs ht hvm hw hB _ _ hS => ?_)
      have hM : zP D vwCl tc A M19 H := by rw [← ht]; exact hB
      refine lv_iconst (v := 1) hx hb dA_alarm_60 (by decide +kernel) ?_
      refine lv_isub hx hb dA_alarm_61 ?_
      refine vx_ret ?_
      refine W.widen (k := mc) (n := ms) (by omega) (by omega) ?_
      exact W.iret hx hb hr (fun t ht hW => ⟨⟨_, _, rfl, hw, zB_of ht hM⟩, hS.F ht⟩) hS.2.2 dA_alarm_62
    · have hw := hw.2 hq
      obtain ⟨hbu1, hbu2, hw⟩ := hw
      exact z_throwS (k := 10) hx hb hst hown (by decide +kernel) (htb _ t_163) (htb _ t_10) rfl (th_A_39 htb hG.2.1) thg_A_35_39 hG hS hM (hl.1.trans hml.symm) dA_alarm_36 dA_alarm_39 dA_alarm_40 dA_alarm_42 dA_alarm_45 (fun x9 hx9 => (hex x9 hx9).elim) (Nat.le_of_ble_eq_true rfl) (Nat.le_of_ble_eq_true rfl) (show (0 + mc2) + 1 ≤ mc by omega) (show (0 + ms3) + 6 ≤ ms by omega) hlk hw (show (0 + mc2) + 1 ≤ mc by omega) (show (0 + ms3) + 6 ≤ ms by omega)
  · have hw := hw.1 hq
    obtain ⟨hbu1, hbu2, hw⟩ := hw
    exact z_throwS (k := 9) hx hb hst hown (by decide +kernel) (htb _ t_309) (htb _ t_19) rfl (th_A_61 htb hG.2.1) thg_A_57_61 hG hS hM (hl.1.trans hml.symm) dA_alarm_14 dA_alarm_17 dA_alarm_18 dA_alarm_20 dA_alarm_23 (fun x9 hx9 => (hex x9 hx9).elim) (Nat.le_of_ble_eq_true rfl) (Nat.le_of_ble_eq_true rfl) (show (0 + mc2) + 1 ≤ mc by omega) (show (0 + ms3) + 6 ≤ ms by omega) hlk hw (show (0 + mc2) + 1 ≤ mc by omega) (show (0 + ms3) + 6 ≤ ms by omega)
abbrev r_A_requireAlarm (mc ms : Nat) : Room := { frames := 6, cells := mc, slots := ms, locals := 90 }
abbrev J_A_requireAlarm_15 (p : Program) (l : Launch) (e : Env) (s : State) (m : MethodId) (args : Array Value) (below : List Frame) (meth : Method) (c : Code) (D : va_G) (tc : Nat → ClassId) (A : Nat → Prop) (mcT msT : Nat) (Q : State → Prop) (K : Nat → Nat → zM → Prop) : Prop := ∀ (mc : Nat) (ms : Nat) (M : zM) (H : Heap) (locs : List Loc) (cells slots : Nat) (ls : Array Slot), cells + mc ≤ mcT → slots + ms ≤ msT → zP D vwCl tc A M H → va_S A s.heap H locs → lv_has ls 2 [] → K mc ms M → W p l e (r_A_requireAlarm mcT msT) s m args below meth c H locs cells slots Q (F0 m 15 ls [])
def w_A_requireAlarm_j15 (e0 : Nat) (post : zM → Prop) (px : String → zM → Prop) (mc : Nat) (ms : Nat) (M : zM) : Prop := 1 ≤ mc ∧ 6 ≤ ms ∧ px "java/lang/IllegalArgumentException" M
set_option maxHeartbeats 4000000 in
set_option maxRecDepth 100000 in
theorem k_A_requireAlarm_j15 {p : Program} {l : Launch} {e : Env} {s : State} {m : MethodId} {args : Array Value} {below : List Frame} {meth : Method} {c : Code} {D : va_G} {tc : Nat → ClassId} {A : Nat → Prop} {mcT msT : Nat} {post : zM → Prop} {px : String → zM → Prop} (C0 : zC R_A cA_requireAlarm 2 none "requireAlarm" D tc A p l s m args meth c) (hst : l.stackTraces = false) : J_A_requireAlarm_15 p l e s m args below meth c D tc A mcT msT (vx_MQ below (va_Qv post (zB D tc A) A) (zX D tc A px) args s mcT msT A) (w_A_requireAlarm_j15 (tc 9) post px) := by
  obtain ⟨hx, hb, hml, hr, hown, htb, hlk, hA, hG, hin, hex⟩ := id C0
  have hK := hG.1
  intro mc ms M H locs cells slots ls hbc hbs hM hS hl hw
  obtain ⟨hbu1, hbu2, hw⟩ := hw
  exact z_throwS (k := 11) hx hb hst hown (by decide +kernel) (htb _ t_279) (htb _ t_16) rfl (th_A_177 htb hG.2.1) thg_A_173_177 hG hS hM (hl.1.trans hml.symm) dA_requireAlarm_15 dA_requireAlarm_18 dA_requireAlarm_19 dA_requireAlarm_21 dA_requireAlarm_24 (fun x9 hx9 => (hex x9 hx9).elim) (Nat.le_of_ble_eq_true rfl) (Nat.le_of_ble_eq_true rfl) (show cells + 1 ≤ mcT by omega) (show slots + 6 ≤ msT by omega) hlk hw (show cells + 1 ≤ mcT by omega) (show slots + 6 ≤ msT by omega)
def w_A_requireAlarm (e0 : Nat) (post : zM → Prop) (px : String → zM → Prop) (mc : Nat) (ms : Nat) (M : zM) (h0 : Nat) (x1 : Int32) : Prop := ((x1 < 0) → w_A_requireAlarm_j15 e0 post px mc ms M) ∧ (¬ (x1 < 0) → wGR M h0 0 2 (fun v1 => wIs M v1 5 ∧ w_Y_size e0 (fun r6 M5 => ((x1 < r6) → post M5) ∧ (¬ (x1 < r6) → w_A_requireAlarm_j15 e0 post px mc ms M5)) M v1))
set_option maxHeartbeats 4000000 in
set_option maxRecDepth 100000 in
theorem k_A_requireAlarm {l : Launch} {D : va_G} {tc : Nat → ClassId} {A : Nat → Prop} {mc ms : Nat} {post : zM → Prop} {px : String → zM → Prop} {M : zM} {h0 : Nat} {x1 : Int32} (hst : l.stackTraces = false) (hw : w_A_requireAlarm (tc 9) post px mc ms M h0 x1) : vx_Met l yA_requireAlarm (.code yA_requireAlarm cA_requireAlarm 2 none :: zTB) (r_A_requireAlarm mc ms) (va_Pc [.ref h0, .int x1] (zI D tc A M)) (va_Qv post (zB D tc A) A) (zX D tc A px) mc ms A := by
  refine vx_ofW (cc := cA_requireAlarm) (maxL := 2) (ret := none) (by decide) rfl ?_
  intro p e s m args below meth c s₁ B hml ht9 hv
  obtain ⟨rfl, hA, hM, hG⟩ := hv
  have C0 := zC_of (D := D) (tc := tc) (A := A) B hml ht9 hA hG
  obtain ⟨hx, hb, hml, hr, hown, htb, hlk, hA, hG, hin, hex⟩ := id C0
  have hK := hG.1
  have hS : va_S A s.heap s.heap [] := va_S.rf
  have hl := lv_entry ([.ref h0, .int x1]) (n := 2) (Nat.le_of_ble_eq_true rfl)
  rw [lg_entry_eq]
  generalize (lg_sl ([.ref h0, .int x1]) ++ List.replicate (2 - (lg_sl ([.ref h0, .int x1])).length) Slot.unset).toArray = ls at hl ⊢
  have hl : lv_has ls 2 [(0, .ref h0), (1, .int x1)] := hl
  refine lv_iload_n hx hb dA_requireAlarm_0 rfl (lv_at hl 1 rfl) ?_
  refine lv_if_lt (tgt := 15) hx hb dA_requireAlarm_1 (by decide) (fun hq => ?_) (fun hq => ?_)
  · have hw := hw.1 hq
    exact k_A_requireAlarm_j15 C0 hst  _ _ _  _ _ _ _ _ (show 0 + mc ≤ mc by omega) (show 0 + ms ≤ ms by omega) hM hS (lv_sub hl [] rfl) hw
  · have hw := hw.2 hq
    refine lv_iload_n hx hb dA_requireAlarm_4 rfl (lv_at hl 1 rfl) ?_
    refine lv_aload_n hx hb dA_requireAlarm_5 rfl (lv_at hl 0 rfl) ?_
    obtain ⟨fs2, v1, h3, ev4, hw⟩ := hw
    refine z_get hx hb htb inw_A hown hK hM h3 rfl 2 (by decide) (htb _ t_59) (fun _ h9 => h9) ev4 dA_requireAlarm_6 ?_
    obtain ⟨⟨fs7, h8⟩, hw⟩ := hw
    refine va_calli (va_runV (As := []) (rest := [.int x1]) ⟨hx, hb, hml, hown, htb⟩ (k_Y_size (l := l) (D := D) (tc := tc) (A := A) hw) (cw_A_31 htb ⟨Nat.le_of_ble_eq_true rfl, Nat.le_of_ble_eq_true rfl⟩) (z_preV hG hA hS hM h8 rfl) rfl rfl hl.1 rfl (lv_room (Nat.le_of_ble_eq_true rfl)) dA_requireAlarm_9 ⟨show 0 + 0 ≤ mc by omega, show 0 + 0 ≤ ms by omega⟩) hS (fun _ _ h => h) (fun _ h => h) (fun r6 M5 t H locs ht hvm hw hB _ _ hS => ?_)
    have hM : zP D vwCl tc A M5 H := by rw [← ht]; exact hB
    refine lv_icmp_lt (tgt := 25) hx hb dA_requireAlarm_12 (by decide) (fun hq => ?_) (fun hq => ?_)
    · have hw := hw.1 hq
      refine vx_ret ?_
      refine W.widen (k := mc) (n := ms) (by omega) (by omega) ?_
      exact W.vret hx hb hr (fun t ht hW => ⟨⟨_, rfl, hw, zB_of ht hM⟩, hS.F ht⟩) hS.2.2 dA_requireAlarm_25
    · have hw := hw.2 hq
      exact k_A_requireAlarm_j15 C0 hst  _ _ _  _ _ _ _ _ (show 0 + mc ≤ mc by omega) (show 0 + ms ≤ ms by omega) hM hS (lv_sub hl [] rfl) hw
abbrev r_A_alarmOf (mc ms : Nat) : Room := { frames := 7, cells := mc, slots := ms, locals := 111 }
def w_A_alarmOf (e0 : Nat) (post : Option Nat → zM → Prop) (px : String → zM → Prop) (mc : Nat) (ms : Nat) (M : zM) (h0 : Nat) (x1 : Int32) : Prop := wIs M h0 0 ∧ ∃ mc2 ms3 : Nat, mc2 ≤ mc ∧ ms3 ≤ ms ∧ w_A_requireAlarm e0 (fun M1 => wGR M1 h0 0 2 (fun v4 => wIs M1 v4 5 ∧ w_Y_get e0 (fun r9 M8 => wSm r9 (fun a10 => wIs M8 a10 1 ∧ post (some a10) M8)) M1 v4 x1)) px mc2 ms3 M h0 x1
set_option maxHeartbeats 4000000 in
set_option maxRecDepth 100000 in
theorem k_A_alarmOf {l : Launch} {D : va_G} {tc : Nat → ClassId} {A : Nat → Prop} {mc ms : Nat} {post : Option Nat → zM → Prop} {px : String → zM → Prop} {M : zM} {h0 : Nat} {x1 : Int32} (hst : l.stackTraces = false) (hw : w_A_alarmOf (tc 9) post px mc ms M h0 x1) : vx_Met l yA_alarmOf (.code yA_alarmOf cA_alarmOf 2 (some (.object "AlertRows$Alarm")) :: zTB) (r_A_alarmOf mc ms) (va_Pc [.ref h0, .int x1] (zI D tc A M)) (va_Qq post (zB D tc A) A) (zX D tc A px) mc ms A := by
  refine vx_ofW (cc := cA_alarmOf) (maxL := 2) (ret := (some (.object "AlertRows$Alarm"))) (by decide) rfl ?_
  intro p e s m args below meth c s₁ B hml ht9 hv
  obtain ⟨rfl, hA, hM, hG⟩ := hv
  have C0 := zC_of (D := D) (tc := tc) (A := A) B hml ht9 hA hG
  obtain ⟨hx, hb, hml, hr, hown, htb, hlk, hA, hG, hin, hex⟩ := id C0
  have hK := hG.1
  have hS : va_S A s.heap s.heap [] := va_S.rf
  have hl := lv_entry ([.ref h0, .int x1]) (n := 2) (Nat.le_of_ble_eq_true rfl)
  rw [lg_entry_eq]
  generalize (lg_sl ([.ref h0, .int x1]) ++ List.replicate (2 - (lg_sl ([.ref h0, .int x1])).length) Slot.unset).toArray = ls at hl ⊢
  have hl : lv_has ls 2 [(0, .ref h0), (1, .int x1)] := hl
  refine lv_aload_n hx hb dA_alarmOf_0 rfl (lv_at hl 0 rfl) ?_
  refine lv_iload_n hx hb dA_alarmOf_1 rfl (lv_at hl 1 rfl) ?_
  obtain ⟨⟨fs15, h16⟩, hw⟩ := hw
  obtain ⟨mc2, ms3, hbmc2, hbms3, hw⟩ := hw
  refine vx_callv (vx_runV (As := [.int x1]) (rest := []) ⟨hx, hb, hml, hown, htb⟩ (k_A_requireAlarm (l := l) (D := D) (tc := tc) (A := A) hst hw) (cw_A_224 htb ⟨Nat.le_of_ble_eq_true rfl, Nat.le_of_ble_eq_true rfl⟩) (z_preV hG hA hS hM h16 rfl) rfl rfl hl.1 rfl (lv_room (Nat.le_of_ble_eq_true rfl)) dA_alarmOf_2 ⟨show 0 + mc2 ≤ mc by omega, show 0 + ms3 ≤ ms by omega⟩) hS (fun _ _ h => h) (fun _ h => h) (fun _ _ h => h) (fun E9 ce9 q9 u9 t9 H locs ht hvm hw hB _ _ hS hce hcv hcl => z_out (fun x9 hx9 => (hex x9 hx9).elim) hlk hce hcv hcl ht hB hS hw (show 0 + mc2 ≤ mc by omega) (show 0 + ms3 ≤ ms by omega)) (fun M1 t H locs ht hvm hw hB _ _ hS => ?_)
  have hM : zP D vwCl tc A M1 H := by rw [← ht]; exact hB
  refine lv_aload_n hx hb dA_alarmOf_5 rfl (lv_at hl 0 rfl) ?_
  obtain ⟨fs5, v4, h6, ev7, hw⟩ := hw
  refine z_get hx hb htb inw_A hown hK hM h6 rfl 2 (by decide) (htb _ t_59) (fun _ h9 => h9) ev7 dA_alarmOf_6 ?_
  refine lv_iload_n hx hb dA_alarmOf_9 rfl (lv_at hl 1 rfl) ?_
  obtain ⟨⟨fs13, h14⟩, hw⟩ := hw
  refine va_callq (va_runV (As := [.int x1]) (rest := []) ⟨hx, hb, hml, hown, htb⟩ (k_Y_get (l := l) (D := D) (tc := tc) (A := A) hw) (cw_A_203 htb ⟨Nat.le_of_ble_eq_true rfl, Nat.le_of_ble_eq_true rfl⟩) (z_preV hG hA hS hM h14 rfl) rfl rfl hl.1 rfl (lv_room (Nat.le_of_ble_eq_true rfl)) dA_alarmOf_10 ⟨show (0 + mc2) + 0 ≤ mc by omega, show (0 + ms3) + 0 ≤ ms by omega⟩) hS (fun _ _ h => h) (fun _ h => h) (fun r9 M8 t H locs ht hvm hw hB _ _ hS => ?_)
  have hM : zP D vwCl tc A M8 H := by rw [← ht]; exact hB
  obtain ⟨a10, rfl, hw⟩ := hw
  obtain ⟨⟨fs11, h12⟩, hw⟩ := hw
  refine va_castS hx hb hown (htb _ t_415) (hK.1 1 _ rfl).2 (z_recv hK hM h12 rfl) dA_alarmOf_13 ?_
  refine vx_ret ?_
  refine W.widen (k := mc) (n := ms) (by omega) (by omega) ?_
  exact W.aret (v := va_rf (some a10)) hx hb hr (by first | exact Or.inl ⟨_, rfl⟩ | exact Or.inr ⟨_, rfl⟩) (va_rf_or _) (fun t ht hW => ⟨⟨_, _, rfl, hw, zB_of ht hM⟩, hS.F ht⟩) hS.2.2 dA_alarmOf_16
abbrev r_A_noteLate : Room := { frames := 3, cells := 0, slots := 0, locals := 64 }
abbrev J_A_noteLate_68 (p : Program) (l : Launch) (e : Env) (s : State) (m : MethodId) (args : Array Value) (below : List Frame) (meth : Method) (c : Code) (D : va_G) (tc : Nat → ClassId) (A : Nat → Prop) (Q : State → Prop) (K : zM → Nat → Int32 → Int32 → Int32 → Prop) : Prop := ∀ (M : zM) (l0 : Nat) (l1 : Int32) (l2 : Int32) (l3 : Int32) (H : Heap) (locs : List Loc) (ls : Array Slot), zP D vwCl tc A M H → va_S A s.heap H locs → lv_has ls 5 [(0, .ref l0), (1, .int l1), (2, .int l2), (3, .int l3)] → K M l0 l1 l2 l3 → W p l e (r_A_noteLate) s m args below meth c H locs 0 0 Q (F0 m 68 ls [])
abbrev J_A_noteLate_10 (p : Program) (l : Launch) (e : Env) (s : State) (m : MethodId) (args : Array Value) (below : List Frame) (meth : Method) (c : Code) (D : va_G) (tc : Nat → ClassId) (A : Nat → Prop) (Q : State → Prop) (K : zM → Nat → Int32 → Int32 → Int32 → Prop) : Prop := ∀ (M : zM) (l0 : Nat) (l1 : Int32) (l2 : Int32) (l3 : Int32) (H : Heap) (locs : List Loc) (ls : Array Slot), zP D vwCl tc A M H → va_S A s.heap H locs → lv_has ls 5 [(0, .ref l0), (1, .int l1), (2, .int l2), (3, .int l3)] → K M l0 l1 l2 l3 → W p l e (r_A_noteLate) s m args below meth c H locs 0 0 Q (F0 m 10 ls [])
def w_A_noteLate_j68 (e0 : Nat) (post : Int32 → zM → Prop) (K10 : zM → Nat → Int32 → Int32 → Int32 → Prop) (M : zM) (l0 : Nat) (l1 : Int32) (l2 : Int32) (l3 : Int32) : Prop := K10 M l0 l1 l2 (l3 + (-1))
set_option maxHeartbeats 4000000 in
set_option maxRecDepth 100000 in
theorem k_A_noteLate_j68 {p : Program} {l : Launch} {e : Env} {s : State} {m : MethodId} {args : Array Value} {below : List Frame} {meth : Method} {c : Code} {D : va_G} {tc : Nat → ClassId} {A : Nat → Prop} {post : Int32 → zM → Prop} (C0 : zC R_A cA_noteLate 5 (some .int) "noteLate" D tc A p l s m args meth c) {K10 : zM → Nat → Int32 → Int32 → Int32 → Prop} (hK10 : J_A_noteLate_10 p l e s m args below meth c D tc A (MQ below (va_Qi post (zB D tc A) A) args s 0 0 A) K10) : J_A_noteLate_68 p l e s m args below meth c D tc A (MQ below (va_Qi post (zB D tc A) A) args s 0 0 A) (w_A_noteLate_j68 (tc 9) post K10) := by
  obtain ⟨hx, hb, hml, hr, hown, htb, hlk, hA, hG, hin, hex⟩ := id C0
  have hK := hG.1
  intro M l0 l1 l2 l3 H locs ls hM hS hl hw
  refine lv_iinc (v := (l3 + (-1))) (lv' := [(3, .int (l3 + (-1))), (0, .ref l0), (1, .int l1), (2, .int l2)]) hx hb dA_noteLate_68 hl (k := 3) rfl rfl (by decide) rfl (fun ls hl => ?_)
  refine lv_goto (tgt := 10) hx hb dA_noteLate_71 (by decide) ?_
  exact hK10 _ _ _ _ _ _ _ _ hM hS (lv_sub hl [1, 2, 3, 0] rfl) hw
def w_A_noteLate_j10 (e0 : Nat) (post : Int32 → zM → Prop) : Nat → zM → Nat → Int32 → Int32 → Int32 → Prop
  | 0 => fun _ _ _ _ _ => False
  | n + 1 => fun M l0 l1 l2 l3 => ((l3 < 0) → post 3 M) ∧ (¬ (l3 < 0) → wGR M l0 0 2 (fun v1 => wIs M v1 5 ∧ w_Y_get e0 (fun r6 M5 => wSm r6 (fun a7 => wIs M5 a7 1 ∧ wGI M5 a7 1 7 (fun v10 => ((v10 = 0) → wIs M5 a7 1 ∧ w_L_hasAsked e0 (fun r15 M14 => ((r15 = 0) → w_A_noteLate_j68 e0 post (w_A_noteLate_j10 e0 post n) M14 l0 l1 l2 l3) ∧ (¬ (r15 = 0) → wGI M14 l0 0 3 (fun v16 => wIs M14 a7 1 ∧ w_L_hasReachedBy e0 (fun r21 M20 => ((r21 = 0) → post 3 M20) ∧ (¬ (r21 = 0) → wIs M20 a7 1 ∧ w_L_note e0 (fun M22 => post 2 M22) M20 a7 l1 l2)) M14 a7 v16 l1))) M5 a7 l1) ∧ (¬ (v10 = 0) → w_A_noteLate_j68 e0 post (w_A_noteLate_j10 e0 post n) M5 l0 l1 l2 l3)))) M v1 l3))
set_option maxHeartbeats 4000000 in
set_option maxRecDepth 100000 in
theorem k_A_noteLate_j10 {p : Program} {l : Launch} {e : Env} {s : State} {m : MethodId} {args : Array Value} {below : List Frame} {meth : Method} {c : Code} {D : va_G} {tc : Nat → ClassId} {A : Nat → Prop} {post : Int32 → zM → Prop} (C0 : zC R_A cA_noteLate 5 (some .int) "noteLate" D tc A p l s m args meth c) : ∀ n : Nat, J_A_noteLate_10 p l e s m args below meth c D tc A (MQ below (va_Qi post (zB D tc A) A) args s 0 0 A) (w_A_noteLate_j10 (tc 9) post n) := by
  obtain ⟨hx, hb, hml, hr, hown, htb, hlk, hA, hG, hin, hex⟩ := id C0
  have hK := hG.1
  intro n
  induction n with
  | zero => intro M l0 l1 l2 l3 H locs ls hM hS hl hw; exact hw.elim
  | succ n ih =>
    intro M l0 l1 l2 l3 H locs ls hM hS hl hw
    refine lv_iload_n hx hb dA_noteLate_10 rfl (lv_at hl 3 rfl) ?_
    refine lv_if_lt (tgt := 74) hx hb dA_noteLate_11 (by decide) (fun hq => ?_) (fun hq => ?_)
    · have hw := hw.1 hq
      refine lv_iconst (v := 3) hx hb dA_noteLate_74 (by decide +kernel) ?_
      exact W.iret hx hb hr (fun t ht hW => ⟨⟨_, _, rfl, hw, zB_of ht hM⟩, hS.F ht⟩) hS.2.2 dA_noteLate_75
    · have hw := hw.2 hq
      refine lv_aload_n hx hb dA_noteLate_14 rfl (lv_at hl 0 rfl) ?_
      obtain ⟨fs2, v1, h3, ev4, hw⟩ := hw
      refine z_get hx hb htb inw_A hown hK hM h3 rfl 2 (by decide) (htb _ t_59) (fun _ h9 => h9) ev4 dA_noteLate_15 ?_
      refine lv_iload_n hx hb dA_noteLate_18 rfl (lv_at hl 3 rfl) ?_
      obtain ⟨⟨fs29, h30⟩, hw⟩ := hw
      refine va_callq (va_runV (As := [.int l3]) (rest := []) ⟨hx, hb, hml, hown, htb⟩ (k_Y_get (l := l) (D := D) (tc := tc) (A := A) hw) (cw_A_203 htb ⟨Nat.le_of_ble_eq_true rfl, Nat.le_of_ble_eq_true rfl⟩) (z_preV hG hA hS hM h30 rfl) rfl rfl hl.1 rfl (lv_room (Nat.le_of_ble_eq_true rfl)) dA_noteLate_19 ⟨Nat.le_refl _, Nat.le_refl _⟩) hS (fun _ _ h => h) (fun _ h => h) (fun r6 M5 t H locs ht hvm hw hB _ _ hS => ?_)
      have hM : zP D vwCl tc A M5 H := by rw [← ht]; exact hB
      obtain ⟨a7, rfl, hw⟩ := hw
      obtain ⟨⟨fs8, h9⟩, hw⟩ := hw
      refine va_castS hx hb hown (htb _ t_415) (hK.1 1 _ rfl).2 (z_recv hK hM h9 rfl) dA_noteLate_22 ?_
      refine lv_astore (lv' := [(4, .ref a7), (0, .ref l0), (1, .int l1), (2, .int l2), (3, .int l3)]) hx hb dA_noteLate_25 hl (by decide) rfl (fun ls hl => ?_)
      refine lv_aload hx hb dA_noteLate_27 (lv_at hl 0 rfl) ?_
      obtain ⟨fs11, v10, h12, ev13, hw⟩ := hw
      refine z_getN hx hb htb inw_L hown hK hM h12 rfl 7 (by decide) (va_Nw.use rfl (hG.2.1 _ t_437)) (fun _ h9 => h9) ev13 dA_noteLate_29 ?_
      refine lv_if_ne (tgt := 68) hx hb dA_noteLate_32 (by decide) (fun hq => ?_) (fun hq => ?_)
      · have hw := hw.2 hq
        exact k_A_noteLate_j68 C0 ih _ _ _ _ _ _ _ _ hM hS (lv_sub hl [1, 2, 3, 4] rfl) hw
      · have hw := hw.1 hq
        refine lv_aload hx hb dA_noteLate_35 (lv_at hl 0 rfl) ?_
        refine lv_iload_n hx hb dA_noteLate_37 rfl (lv_at hl 2 rfl) ?_
        obtain ⟨⟨fs27, h28⟩, hw⟩ := hw
        refine va_calli (va_runV (As := [.int l1]) (rest := []) ⟨hx, hb, hml, hown, htb⟩ (k_L_hasAsked (l := l) (D := D) (tc := tc) (A := A) hw) (cw_A_242 htb ⟨Nat.le_of_ble_eq_true rfl, Nat.le_of_ble_eq_true rfl⟩) (z_preV hG hA hS hM h28 rfl) rfl rfl hl.1 rfl (lv_room (Nat.le_of_ble_eq_true rfl)) dA_noteLate_38 ⟨Nat.le_refl _, Nat.le_refl _⟩) hS (fun _ _ h => h) (fun _ h => h) (fun r15 M14 t H locs ht hvm hw hB _ _ hS => ?_)
        have hM : zP D vwCl tc A M14 H := by rw [← ht]; exact hB
        refine lv_if_eq (tgt := 68) hx hb dA_noteLate_41 (by decide) (fun hq => ?_) (fun hq => ?_)
        · have hw := hw.1 hq
          exact k_A_noteLate_j68 C0 ih _ _ _ _ _ _ _ _ hM hS (lv_sub hl [1, 2, 3, 4] rfl) hw
        · have hw := hw.2 hq
          refine lv_aload hx hb dA_noteLate_44 (lv_at hl 0 rfl) ?_
          refine lv_aload_n hx hb dA_noteLate_46 rfl (lv_at hl 1 rfl) ?_
          obtain ⟨fs17, v16, h18, ev19, hw⟩ := hw
          refine z_get hx hb htb inw_A hown hK hM h18 rfl 3 (by decide) (htb _ t_60) (fun _ h9 => h9) ev19 dA_noteLate_47 ?_
          refine lv_iload_n hx hb dA_noteLate_50 rfl (lv_at hl 2 rfl) ?_
          obtain ⟨⟨fs25, h26⟩, hw⟩ := hw
          refine va_calli (va_runV (As := [.int v16, .int l1]) (rest := []) ⟨hx, hb, hml, hown, htb⟩ (k_L_hasReachedBy (l := l) (D := D) (tc := tc) (A := A) hw) (cw_A_122 htb ⟨Nat.le_of_ble_eq_true rfl, Nat.le_of_ble_eq_true rfl⟩) (z_preV hG hA hS hM h26 rfl) rfl rfl hl.1 rfl (lv_room (Nat.le_of_ble_eq_true rfl)) dA_noteLate_51 ⟨Nat.le_refl _, Nat.le_refl _⟩) hS (fun _ _ h => h) (fun _ h => h) (fun r21 M20 t H locs ht hvm hw hB _ _ hS => ?_)
          have hM : zP D vwCl tc A M20 H := by rw [← ht]; exact hB
          refine lv_if_ne (tgt := 59) hx hb dA_noteLate_54 (by decide) (fun hq => ?_) (fun hq => ?_)
          · have hw := hw.2 hq
            refine lv_aload hx hb dA_noteLate_59 (lv_at hl 0 rfl) ?_
            refine lv_iload_n hx hb dA_noteLate_61 rfl (lv_at hl 2 rfl) ?_
            refine lv_iload_n hx hb dA_noteLate_62 rfl (lv_at hl 3 rfl) ?_
            obtain ⟨⟨fs23, h24⟩, hw⟩ := hw
            refine va_callv (va_runV (As := [.int l1, .int l2]) (rest := []) ⟨hx, hb, hml, hown, htb⟩ (k_L_note (l := l) (D := D) (tc := tc) (A := A) hw) (cw_A_130 htb ⟨Nat.le_of_ble_eq_true rfl, Nat.le_of_ble_eq_true rfl⟩) (z_preV hG hA hS hM h24 rfl) rfl rfl hl.1 rfl (lv_room (Nat.le_of_ble_eq_true rfl)) dA_noteLate_63 ⟨Nat.le_refl _, Nat.le_refl _⟩) hS (fun _ _ h => h) (fun _ h => h) (fun M22 t H locs ht hvm hw hB _ _ hS => ?_)
            have hM : zP D vwCl tc A M22 H := by rw [← ht]; exact hB
            refine lv_iconst (v := 2) hx hb dA_noteLate_66 (by decide +kernel) ?_
            exact W.iret hx hb hr (fun t ht hW => ⟨⟨_, _, rfl, hw, zB_of ht hM⟩, hS.F ht⟩) hS.2.2 dA_noteLate_67
          · have hw := hw.1 hq
            refine lv_iconst (v := 3) hx hb dA_noteLate_57 (by decide +kernel) ?_
            exact W.iret hx hb hr (fun t ht hW => ⟨⟨_, _, rfl, hw, zB_of ht hM⟩, hS.F ht⟩) hS.2.2 dA_noteLate_58
def w_A_noteLate (e0 : Nat) (post : Int32 → zM → Prop) (M : zM) (h0 : Nat) (x1 : Int32) (x2 : Int32) : Prop := wGR M h0 0 2 (fun v1 => wIs M v1 5 ∧ w_Y_size e0 (fun r6 M5 => ∃ nn, w_A_noteLate_j10 e0 post nn M5 h0 x1 x2 (r6 - 1)) M v1)
set_option maxHeartbeats 4000000 in
set_option maxRecDepth 100000 in
theorem k_A_noteLate {l : Launch} {D : va_G} {tc : Nat → ClassId} {A : Nat → Prop} {post : Int32 → zM → Prop} {M : zM} {h0 : Nat} {x1 : Int32} {x2 : Int32} (hw : w_A_noteLate (tc 9) post M h0 x1 x2) : Met l yA_noteLate (.code yA_noteLate cA_noteLate 5 (some .int) :: zTB) r_A_noteLate (va_Pc [.ref h0, .int x1, .int x2] (zI D tc A M)) (va_Qi post (zB D tc A) A) 0 0 A := by
  refine Met.ofW (cc := cA_noteLate) (maxL := 5) (ret := (some .int)) (by decide +kernel) rfl ?_
  intro p e s m args below meth c s₁ B hml hv
  obtain ⟨rfl, hA, hM, hG⟩ := hv
  have C0 := zC_of (D := D) (tc := tc) (A := A) B hml (zC_ex B) hA hG
  obtain ⟨hx, hb, hml, hr, hown, htb, hlk, hA, hG, hin, hex⟩ := id C0
  have hK := hG.1
  have hS : va_S A s.heap s.heap [] := va_S.rf
  have hl := lv_entry ([.ref h0, .int x1, .int x2]) (n := 5) (Nat.le_of_ble_eq_true rfl)
  rw [lg_entry_eq]
  generalize (lg_sl ([.ref h0, .int x1, .int x2]) ++ List.replicate (5 - (lg_sl ([.ref h0, .int x1, .int x2])).length) Slot.unset).toArray = ls at hl ⊢
  have hl : lv_has ls 5 [(0, .ref h0), (1, .int x1), (2, .int x2)] := hl
  refine lv_aload_n hx hb dA_noteLate_0 rfl (lv_at hl 0 rfl) ?_
  obtain ⟨fs2, v1, h3, ev4, hw⟩ := hw
  refine z_get hx hb htb inw_A hown hK hM h3 rfl 2 (by decide) (htb _ t_59) (fun _ h9 => h9) ev4 dA_noteLate_1 ?_
  obtain ⟨⟨fs7, h8⟩, hw⟩ := hw
  refine va_calli (va_runV (As := []) (rest := []) ⟨hx, hb, hml, hown, htb⟩ (k_Y_size (l := l) (D := D) (tc := tc) (A := A) hw) (cw_A_31 htb ⟨Nat.le_of_ble_eq_true rfl, Nat.le_of_ble_eq_true rfl⟩) (z_preV hG hA hS hM h8 rfl) rfl rfl hl.1 rfl (lv_room (Nat.le_of_ble_eq_true rfl)) dA_noteLate_4 ⟨Nat.le_refl _, Nat.le_refl _⟩) hS (fun _ _ h => h) (fun _ h => h) (fun r6 M5 t H locs ht hvm hw hB _ _ hS => ?_)
  have hM : zP D vwCl tc A M5 H := by rw [← ht]; exact hB
  refine lv_iconst (v := 1) hx hb dA_noteLate_7 (by decide +kernel) ?_
  refine lv_isub hx hb dA_noteLate_8 ?_
  refine lv_istore_n (lv' := [(3, .int (r6 - 1)), (0, .ref h0), (1, .int x1), (2, .int x2)]) hx hb dA_noteLate_9 rfl hl (by decide) rfl (fun ls hl => ?_)
  obtain ⟨nfu, hw⟩ := hw
  exact k_A_noteLate_j10 C0  nfu _ _ _ _ _ _ _ _ hM hS (lv_sub hl [1, 2, 3, 0] rfl) hw
abbrev r_A_answer (mc ms : Nat) : Room := { frames := 8, cells := mc, slots := ms, locals := 132 }
abbrev J_A_answer_23 (p : Program) (l : Launch) (e : Env) (s : State) (m : MethodId) (args : Array Value) (below : List Frame) (meth : Method) (c : Code) (D : va_G) (tc : Nat → ClassId) (A : Nat → Prop) (mcT msT : Nat) (Q : State → Prop) (K : Nat → Nat → zM → Prop) : Prop := ∀ (mc : Nat) (ms : Nat) (M : zM) (H : Heap) (locs : List Loc) (cells slots : Nat) (ls : Array Slot), cells + mc ≤ mcT → slots + ms ≤ msT → zP D vwCl tc A M H → va_S A s.heap H locs → lv_has ls 5 [] → K mc ms M → W p l e (r_A_answer mcT msT) s m args below meth c H locs cells slots Q (F0 m 23 ls [])
def w_A_answer_j23 (e0 : Nat) (post : Int32 → zM → Prop) (px : String → zM → Prop) (mc : Nat) (ms : Nat) (M : zM) : Prop := 1 ≤ mc ∧ 6 ≤ ms ∧ px "java/lang/IndexOutOfBoundsException" M
set_option maxHeartbeats 4000000 in
set_option maxRecDepth 100000 in
theorem k_A_answer_j23 {p : Program} {l : Launch} {e : Env} {s : State} {m : MethodId} {args : Array Value} {below : List Frame} {meth : Method} {c : Code} {D : va_G} {tc : Nat → ClassId} {A : Nat → Prop} {mcT msT : Nat} {post : Int32 → zM → Prop} {px : String → zM → Prop} (C0 : zC R_A cA_answer 5 (some .int) "answer" D tc A p l s m args meth c) (hst : l.stackTraces = false) : J_A_answer_23 p l e s m args below meth c D tc A mcT msT (vx_MQ below (va_Qi post (zB D tc A) A) (zX D tc A px) args s mcT msT A) (w_A_answer_j23 (tc 9) post px) := by
  obtain ⟨hx, hb, hml, hr, hown, htb, hlk, hA, hG, hin, hex⟩ := id C0
  have hK := hG.1
  intro mc ms M H locs cells slots ls hbc hbs hM hS hl hw
  obtain ⟨hbu1, hbu2, hw⟩ := hw
  exact z_throwS (k := 12) hx hb hst hown (by decide +kernel) (htb _ t_88) (htb _ t_9) rfl (th_A_26 htb hG.2.1) thg_A_22_26 hG hS hM (hl.1.trans hml.symm) dA_answer_23 dA_answer_26 dA_answer_27 dA_answer_29 dA_answer_32 (fun x9 hx9 => (hex x9 hx9).elim) (Nat.le_of_ble_eq_true rfl) (Nat.le_of_ble_eq_true rfl) (show cells + 1 ≤ mcT by omega) (show slots + 6 ≤ msT by omega) hlk hw (show cells + 1 ≤ mcT by omega) (show slots + 6 ≤ msT by omega)
def w_A_answer (e0 : Nat) (post : Int32 → zM → Prop) (px : String → zM → Prop) (mc : Nat) (ms : Nat) (M : zM) (h0 : Nat) (x1 : Int32) (x2 : Int32) (x3 : Int32) : Prop := wIs M h0 0 ∧ ∃ mc2 ms3 : Nat, mc2 ≤ mc ∧ ms3 ≤ ms ∧ w_A_alarmOf e0 (fun r4 M1 => wSm r4 (fun a5 => wIs M1 h0 0 ∧ ∃ mc7 ms8 : Nat, mc7 ≤ (mc - mc2) ∧ ms8 ≤ (ms - ms3) ∧ w_A_requirePerson e0 (fun M6 => ((x3 < (-1)) → w_A_answer_j23 e0 post px ((mc - mc2) - mc7) ((ms - ms3) - ms8) M6) ∧ (¬ (x3 < (-1)) → ((x3 ≤ 120) → wIs M6 a5 1 ∧ w_L_hasReached e0 (fun r10 M9 => ((r10 = 0) → 1 ≤ ((mc - mc2) - mc7) ∧ 6 ≤ ((ms - ms3) - ms8) ∧ px "java/lang/IllegalStateException" M9) ∧ (¬ (r10 = 0) → wGI M9 h0 0 3 (fun v11 => wIs M9 a5 1 ∧ w_L_hasReachedBy e0 (fun r16 M15 => ((r16 = 0) → wGI M15 h0 0 5 (fun v36 => wPF M15 h0 0 5 (.int (v36 + 1)) (fun M43 => post 4 M43))) ∧ (¬ (r16 = 0) → wGI M15 a5 1 7 (fun v17 => ((v17 = 0) → wIs M15 a5 1 ∧ w_L_note e0 (fun M33 => post 1 M33) M15 a5 x2 x3) ∧ (¬ (v17 = 0) → wGI M15 h0 0 4 (fun v21 => wPF M15 h0 0 4 (.int (v21 + 1)) (fun M28 => wIs M28 h0 0 ∧ w_A_noteLate e0 (fun r30 M29 => post r30 M29) M28 h0 x2 x3)))))) M9 a5 v11 x2))) M6 a5 x2) ∧ (¬ (x3 ≤ 120) → w_A_answer_j23 e0 post px ((mc - mc2) - mc7) ((ms - ms3) - ms8) M6))) px mc7 ms8 M1 h0 x2)) px mc2 ms3 M h0 x1
set_option maxHeartbeats 4000000 in
set_option maxRecDepth 100000 in
theorem k_A_answer {l : Launch} {D : va_G} {tc : Nat → ClassId} {A : Nat → Prop} {mc ms : Nat} {post : Int32 → zM → Prop} {px : String → zM → Prop} {M : zM} {h0 : Nat} {x1 : Int32} {x2 : Int32} {x3 : Int32} (hst : l.stackTraces = false) (hw : w_A_answer (tc 9) post px mc ms M h0 x1 x2 x3) : vx_Met l yA_answer (.code yA_answer cA_answer 5 (some .int) :: zTB) (r_A_answer mc ms) (va_Pc [.ref h0, .int x1, .int x2, .int x3] (zI D tc A M)) (va_Qi post (zB D tc A) A) (zX D tc A px) mc ms A := by
  refine vx_ofW (cc := cA_answer) (maxL := 5) (ret := (some .int)) (by decide) rfl ?_
  intro p e s m args below meth c s₁ B hml ht9 hv
  obtain ⟨rfl, hA, hM, hG⟩ := hv
  have C0 := zC_of (D := D) (tc := tc) (A := A) B hml ht9 hA hG
  obtain ⟨hx, hb, hml, hr, hown, htb, hlk, hA, hG, hin, hex⟩ := id C0
  have hK := hG.1
  have hS : va_S A s.heap s.heap [] := va_S.rf
  have hl := lv_entry ([.ref h0, .int x1, .int x2, .int x3]) (n := 5) (Nat.le_of_ble_eq_true rfl)
  rw [lg_entry_eq]
  generalize (lg_sl ([.ref h0, .int x1, .int x2, .int x3]) ++ List.replicate (5 - (lg_sl ([.ref h0, .int x1, .int x2, .int x3])).length) Slot.unset).toArray = ls at hl ⊢
  have hl : lv_has ls 5 [(0, .ref h0), (1, .int x1), (2, .int x2), (3, .int x3)] := hl
  refine lv_aload_n hx hb dA_answer_0 rfl (lv_at hl 0 rfl) ?_
  refine lv_iload_n hx hb dA_answer_1 rfl (lv_at hl 1 rfl) ?_
  obtain ⟨⟨fs50, h51⟩, hw⟩ := hw
  obtain ⟨mc2, ms3, hbmc2, hbms3, hw⟩ := hw
  refine zx_callq (vx_runV (As := [.int x1]) (rest := []) ⟨hx, hb, hml, hown, htb⟩ (k_A_alarmOf (l := l) (D := D) (tc := tc) (A := A) hst hw) (cw_A_102 htb ⟨Nat.le_of_ble_eq_true rfl, Nat.le_of_ble_eq_true rfl⟩) (z_preV hG hA hS hM h51 rfl) rfl rfl hl.1 rfl (lv_room (Nat.le_of_ble_eq_true rfl)) dA_answer_2 ⟨show 0 + mc2 ≤ mc by omega, show 0 + ms3 ≤ ms by omega⟩) hS (fun _ _ h => h) (fun _ h => h) (fun _ _ h => h) (fun E9 ce9 q9 u9 t9 H locs ht hvm hw hB _ _ hS hce hcv hcl => z_out (fun x9 hx9 => (hex x9 hx9).elim) hlk hce hcv hcl ht hB hS hw (show 0 + mc2 ≤ mc by omega) (show 0 + ms3 ≤ ms by omega)) (fun r4 M1 t H locs ht hvm hw hB _ _ hS => ?_)
  have hM : zP D vwCl tc A M1 H := by rw [← ht]; exact hB
  obtain ⟨a5, rfl, hw⟩ := hw
  refine lv_astore (lv' := [(4, .ref a5), (0, .ref h0), (1, .int x1), (2, .int x2), (3, .int x3)]) hx hb dA_answer_5 hl (by decide) rfl (fun ls hl => ?_)
  refine lv_aload_n hx hb dA_answer_7 rfl (lv_at hl 1 rfl) ?_
  refine lv_iload_n hx hb dA_answer_8 rfl (lv_at hl 3 rfl) ?_
  obtain ⟨⟨fs48, h49⟩, hw⟩ := hw
  obtain ⟨mc7, ms8, hbmc7, hbms8, hw⟩ := hw
  refine vx_callv (vx_runV (As := [.int x2]) (rest := []) ⟨hx, hb, hml, hown, htb⟩ (k_A_requirePerson (l := l) (D := D) (tc := tc) (A := A) hst hw) (cw_A_106 htb ⟨Nat.le_of_ble_eq_true rfl, Nat.le_of_ble_eq_true rfl⟩) (z_preV hG hA hS hM h49 rfl) rfl rfl hl.1 rfl (lv_room (Nat.le_of_ble_eq_true rfl)) dA_answer_9 ⟨show (0 + mc2) + mc7 ≤ mc by omega, show (0 + ms3) + ms8 ≤ ms by omega⟩) hS (fun _ _ h => h) (fun _ h => h) (fun _ _ h => h) (fun E9 ce9 q9 u9 t9 H locs ht hvm hw hB _ _ hS hce hcv hcl => z_out (fun x9 hx9 => (hex x9 hx9).elim) hlk hce hcv hcl ht hB hS hw (show (0 + mc2) + mc7 ≤ mc by omega) (show (0 + ms3) + ms8 ≤ ms by omega)) (fun M6 t H locs ht hvm hw hB _ _ hS => ?_)
  have hM : zP D vwCl tc A M6 H := by rw [← ht]; exact hB
  refine lv_iload_n hx hb dA_answer_12 rfl (lv_at hl 4 rfl) ?_
  refine lv_iconst (v := (-1)) hx hb dA_answer_13 (by decide +kernel) ?_
  refine lv_icmp_lt (tgt := 23) hx hb dA_answer_14 (by decide) (fun hq => ?_) (fun hq => ?_)
  · have hw := hw.1 hq
    exact k_A_answer_j23 C0 hst  _ _ _  _ _ _ _ _ (show ((0 + mc2) + mc7) + ((mc - mc2) - mc7) ≤ mc by omega) (show ((0 + ms3) + ms8) + ((ms - ms3) - ms8) ≤ ms by omega) hM hS (lv_sub hl [] rfl) hw
  · have hw := hw.2 hq
    refine lv_iload_n hx hb dA_answer_17 rfl (lv_at hl 4 rfl) ?_
    refine lv_bipush (v := 120) hx hb dA_answer_18 (by decide +kernel) ?_
    refine lv_icmp_le (tgt := 33) hx hb dA_answer_20 (by decide) (fun hq => ?_) (fun hq => ?_)
    · have hw := hw.1 hq
      refine lv_aload hx hb dA_answer_33 (lv_at hl 0 rfl) ?_
      refine lv_iload_n hx hb dA_answer_35 rfl (lv_at hl 3 rfl) ?_
      obtain ⟨⟨fs46, h47⟩, hw⟩ := hw
      refine va_calli (va_runV (As := [.int x2]) (rest := []) ⟨hx, hb, hml, hown, htb⟩ (k_L_hasReached (l := l) (D := D) (tc := tc) (A := A) hw) (cw_A_111 htb ⟨Nat.le_of_ble_eq_true rfl, Nat.le_of_ble_eq_true rfl⟩) (z_preV hG hA hS hM h47 rfl) rfl rfl hl.1 rfl (lv_room (Nat.le_of_ble_eq_true rfl)) dA_answer_36 ⟨show ((0 + mc2) + mc7) + 0 ≤ mc by omega, show ((0 + ms3) + ms8) + 0 ≤ ms by omega⟩) hS (fun _ _ h => h) (fun _ h => h) (fun r10 M9 t H locs ht hvm hw hB _ _ hS => ?_)
      have hM : zP D vwCl tc A M9 H := by rw [← ht]; exact hB
      refine lv_if_ne (tgt := 52) hx hb dA_answer_39 (by decide) (fun hq => ?_) (fun hq => ?_)
      · have hw := hw.2 hq
        refine lv_aload hx hb dA_answer_52 (lv_at hl 0 rfl) ?_
        refine lv_aload_n hx hb dA_answer_54 rfl (lv_at hl 1 rfl) ?_
        obtain ⟨fs12, v11, h13, ev14, hw⟩ := hw
        refine z_get hx hb htb inw_A hown hK hM h13 rfl 3 (by decide) (htb _ t_60) (fun _ h9 => h9) ev14 dA_answer_55 ?_
        refine lv_iload_n hx hb dA_answer_58 rfl (lv_at hl 3 rfl) ?_
        obtain ⟨⟨fs44, h45⟩, hw⟩ := hw
        refine va_calli (va_runV (As := [.int v11, .int x2]) (rest := []) ⟨hx, hb, hml, hown, htb⟩ (k_L_hasReachedBy (l := l) (D := D) (tc := tc) (A := A) hw) (cw_A_122 htb ⟨Nat.le_of_ble_eq_true rfl, Nat.le_of_ble_eq_true rfl⟩) (z_preV hG hA hS hM h45 rfl) rfl rfl hl.1 rfl (lv_room (Nat.le_of_ble_eq_true rfl)) dA_answer_59 ⟨show ((0 + mc2) + mc7) + 0 ≤ mc by omega, show ((0 + ms3) + ms8) + 0 ≤ ms by omega⟩) hS (fun _ _ h => h) (fun _ h => h) (fun r16 M15 t H locs ht hvm hw hB _ _ hS => ?_)
        have hM : zP D vwCl tc A M15 H := by rw [← ht]; exact hB
        refine lv_if_ne (tgt := 77) hx hb dA_answer_62 (by decide) (fun hq => ?_) (fun hq => ?_)
        · have hw := hw.2 hq
          refine lv_aload hx hb dA_answer_77 (lv_at hl 0 rfl) ?_
          obtain ⟨fs18, v17, h19, ev20, hw⟩ := hw
          refine z_getN hx hb htb inw_L hown hK hM h19 rfl 7 (by decide) (va_Nw.use rfl (hG.2.1 _ t_437)) (fun _ h9 => h9) ev20 dA_answer_79 ?_
          refine lv_if_ne (tgt := 94) hx hb dA_answer_82 (by decide) (fun hq => ?_) (fun hq => ?_)
          · have hw := hw.2 hq
            refine lv_aload_n hx hb dA_answer_94 rfl (lv_at hl 1 rfl) ?_
            refine lv_dup hx hb dA_answer_95 rfl ?_
            obtain ⟨fs22, v21, h23, ev24, hw⟩ := hw
            refine z_get hx hb htb inw_A hown hK hM h23 rfl 4 (by decide) (htb _ t_61) (fun _ h9 => h9) ev24 dA_answer_96 ?_
            refine lv_iconst (v := 1) hx hb dA_answer_99 (by decide +kernel) ?_
            refine lv_iadd hx hb dA_answer_100 ?_
            obtain ⟨fs25, h26, hl27, hw⟩ := hw
            refine z_put (ty := .int) hx hb htb inw_A ty_A tyok_A nmok_A hown hK hM hS h26 rfl 4 (by decide) (htb _ t_61) (fun _ h9 => h9) rfl (by decide +kernel) rfl rfl hl27 dA_answer_101 (fun H locs hM hS => ?_)
            refine lv_aload_n hx hb dA_answer_104 rfl (lv_at hl 1 rfl) ?_
            refine lv_iload_n hx hb dA_answer_105 rfl (lv_at hl 3 rfl) ?_
            refine lv_iload_n hx hb dA_answer_106 rfl (lv_at hl 4 rfl) ?_
            obtain ⟨⟨fs31, h32⟩, hw⟩ := hw
            refine va_calli (va_runV (As := [.int x2, .int x3]) (rest := []) ⟨hx, hb, hml, hown, htb⟩ (k_A_noteLate (l := l) (D := D) (tc := tc) (A := A) hw) (cw_A_136 htb ⟨Nat.le_of_ble_eq_true rfl, Nat.le_of_ble_eq_true rfl⟩) (z_preV hG hA hS hM h32 rfl) rfl rfl hl.1 rfl (lv_room (Nat.le_of_ble_eq_true rfl)) dA_answer_107 ⟨show ((0 + mc2) + mc7) + 0 ≤ mc by omega, show ((0 + ms3) + ms8) + 0 ≤ ms by omega⟩) hS (fun _ _ h => h) (fun _ h => h) (fun r30 M29 t H locs ht hvm hw hB _ _ hS => ?_)
            have hM : zP D vwCl tc A M29 H := by rw [← ht]; exact hB
            refine vx_ret ?_
            refine W.widen (k := mc) (n := ms) (by omega) (by omega) ?_
            exact W.iret hx hb hr (fun t ht hW => ⟨⟨_, _, rfl, hw, zB_of ht hM⟩, hS.F ht⟩) hS.2.2 dA_answer_110
          · have hw := hw.1 hq
            refine lv_aload hx hb dA_answer_85 (lv_at hl 0 rfl) ?_
            refine lv_iload_n hx hb dA_answer_87 rfl (lv_at hl 3 rfl) ?_
            refine lv_iload_n hx hb dA_answer_88 rfl (lv_at hl 4 rfl) ?_
            obtain ⟨⟨fs34, h35⟩, hw⟩ := hw
            refine va_callv (va_runV (As := [.int x2, .int x3]) (rest := []) ⟨hx, hb, hml, hown, htb⟩ (k_L_note (l := l) (D := D) (tc := tc) (A := A) hw) (cw_A_130 htb ⟨Nat.le_of_ble_eq_true rfl, Nat.le_of_ble_eq_true rfl⟩) (z_preV hG hA hS hM h35 rfl) rfl rfl hl.1 rfl (lv_room (Nat.le_of_ble_eq_true rfl)) dA_answer_89 ⟨show ((0 + mc2) + mc7) + 0 ≤ mc by omega, show ((0 + ms3) + ms8) + 0 ≤ ms by omega⟩) hS (fun _ _ h => h) (fun _ h => h) (fun M33 t H locs ht hvm hw hB _ _ hS => ?_)
            have hM : zP D vwCl tc A M33 H := by rw [← ht]; exact hB
            refine lv_iconst (v := 1) hx hb dA_answer_92 (by decide +kernel) ?_
            refine vx_ret ?_
            refine W.widen (k := mc) (n := ms) (by omega) (by omega) ?_
            exact W.iret hx hb hr (fun t ht hW => ⟨⟨_, _, rfl, hw, zB_of ht hM⟩, hS.F ht⟩) hS.2.2 dA_answer_93
        · have hw := hw.1 hq
          refine lv_aload_n hx hb dA_answer_65 rfl (lv_at hl 1 rfl) ?_
          refine lv_dup hx hb dA_answer_66 rfl ?_
          obtain ⟨fs37, v36, h38, ev39, hw⟩ := hw
          refine z_get hx hb htb inw_A hown hK hM h38 rfl 5 (by decide) (htb _ t_62) (fun _ h9 => h9) ev39 dA_answer_67 ?_
          refine lv_iconst (v := 1) hx hb dA_answer_70 (by decide +kernel) ?_
          refine lv_iadd hx hb dA_answer_71 ?_
          obtain ⟨fs40, h41, hl42, hw⟩ := hw
          refine z_put (ty := .int) hx hb htb inw_A ty_A tyok_A nmok_A hown hK hM hS h41 rfl 5 (by decide) (htb _ t_62) (fun _ h9 => h9) rfl (by decide +kernel) rfl rfl hl42 dA_answer_72 (fun H locs hM hS => ?_)
          refine lv_iconst (v := 4) hx hb dA_answer_75 (by decide +kernel) ?_
          refine vx_ret ?_
          refine W.widen (k := mc) (n := ms) (by omega) (by omega) ?_
          exact W.iret hx hb hr (fun t ht hW => ⟨⟨_, _, rfl, hw, zB_of ht hM⟩, hS.F ht⟩) hS.2.2 dA_answer_76
      · have hw := hw.1 hq
        obtain ⟨hbu1, hbu2, hw⟩ := hw
        exact z_throwS (k := 13) hx hb hst hown (by decide +kernel) (htb _ t_309) (htb _ t_19) rfl (th_A_61 htb hG.2.1) thg_A_57_61 hG hS hM (hl.1.trans hml.symm) dA_answer_42 dA_answer_45 dA_answer_46 dA_answer_48 dA_answer_51 (fun x9 hx9 => (hex x9 hx9).elim) (Nat.le_of_ble_eq_true rfl) (Nat.le_of_ble_eq_true rfl) (show ((0 + mc2) + mc7) + 1 ≤ mc by omega) (show ((0 + ms3) + ms8) + 6 ≤ ms by omega) hlk hw (show ((0 + mc2) + mc7) + 1 ≤ mc by omega) (show ((0 + ms3) + ms8) + 6 ≤ ms by omega)
    · have hw := hw.2 hq
      exact k_A_answer_j23 C0 hst  _ _ _  _ _ _ _ _ (show ((0 + mc2) + mc7) + ((mc - mc2) - mc7) ≤ mc by omega) (show ((0 + ms3) + ms8) + ((ms - ms3) - ms8) ≤ ms by omega) hM hS (lv_sub hl [] rfl) hw
abbrev r_A_firstDue : Room := { frames := 3, cells := 0, slots := 0, locals := 64 }
abbrev J_A_firstDue_61 (p : Program) (l : Launch) (e : Env) (s : State) (m : MethodId) (args : Array Value) (below : List Frame) (meth : Method) (c : Code) (D : va_G) (tc : Nat → ClassId) (A : Nat → Prop) (Q : State → Prop) (K : zM → Nat → Int32 → Int32 → Int32 → Prop) : Prop := ∀ (M : zM) (l0 : Nat) (l2 : Int32) (l3 : Int32) (l4 : Int32) (H : Heap) (locs : List Loc) (ls : Array Slot), zP D vwCl tc A M H → va_S A s.heap H locs → lv_has ls 6 [(0, .ref l0), (2, .int l2), (3, .int l3), (4, .int l4)] → K M l0 l2 l3 l4 → W p l e (r_A_firstDue) s m args below meth c H locs 0 0 Q (F0 m 61 ls [])
abbrev J_A_firstDue_9 (p : Program) (l : Launch) (e : Env) (s : State) (m : MethodId) (args : Array Value) (below : List Frame) (meth : Method) (c : Code) (D : va_G) (tc : Nat → ClassId) (A : Nat → Prop) (Q : State → Prop) (K : zM → Nat → Int32 → Int32 → Int32 → Prop) : Prop := ∀ (M : zM) (l0 : Nat) (l2 : Int32) (l3 : Int32) (l4 : Int32) (H : Heap) (locs : List Loc) (ls : Array Slot), zP D vwCl tc A M H → va_S A s.heap H locs → lv_has ls 6 [(0, .ref l0), (2, .int l2), (3, .int l3), (4, .int l4)] → K M l0 l2 l3 l4 → W p l e (r_A_firstDue) s m args below meth c H locs 0 0 Q (F0 m 9 ls [])
def w_A_firstDue_j61 (e0 : Nat) (post : Int32 → zM → Prop) (K9 : zM → Nat → Int32 → Int32 → Int32 → Prop) (M : zM) (l0 : Nat) (l2 : Int32) (l3 : Int32) (l4 : Int32) : Prop := K9 M l0 l2 l3 (l4 + 1)
set_option maxHeartbeats 4000000 in
set_option maxRecDepth 100000 in
theorem k_A_firstDue_j61 {p : Program} {l : Launch} {e : Env} {s : State} {m : MethodId} {args : Array Value} {below : List Frame} {meth : Method} {c : Code} {D : va_G} {tc : Nat → ClassId} {A : Nat → Prop} {post : Int32 → zM → Prop} (C0 : zC R_A cA_firstDue 6 (some .int) "firstDue" D tc A p l s m args meth c) {K9 : zM → Nat → Int32 → Int32 → Int32 → Prop} (hK9 : J_A_firstDue_9 p l e s m args below meth c D tc A (MQ below (va_Qi post (zB D tc A) A) args s 0 0 A) K9) : J_A_firstDue_61 p l e s m args below meth c D tc A (MQ below (va_Qi post (zB D tc A) A) args s 0 0 A) (w_A_firstDue_j61 (tc 9) post K9) := by
  obtain ⟨hx, hb, hml, hr, hown, htb, hlk, hA, hG, hin, hex⟩ := id C0
  have hK := hG.1
  intro M l0 l2 l3 l4 H locs ls hM hS hl hw
  refine lv_iinc (v := (l4 + 1)) (lv' := [(4, .int (l4 + 1)), (0, .ref l0), (2, .int l2), (3, .int l3)]) hx hb dA_firstDue_61 hl (k := 3) rfl rfl (by decide) rfl (fun ls hl => ?_)
  refine lv_goto (tgt := 9) hx hb dA_firstDue_64 (by decide) ?_
  exact hK9 _ _ _ _ _ _ _ _ hM hS (lv_sub hl [1, 2, 3, 0] rfl) hw
def w_A_firstDue_j9 (e0 : Nat) (post : Int32 → zM → Prop) : Nat → zM → Nat → Int32 → Int32 → Int32 → Prop
  | 0 => fun _ _ _ _ _ => False
  | n + 1 => fun M l0 l2 l3 l4 => wGR M l0 0 2 (fun v1 => wIs M v1 5 ∧ w_Y_size e0 (fun r6 M5 => ((r6 ≤ l4) → post l2 M5) ∧ (¬ (r6 ≤ l4) → wGR M5 l0 0 2 (fun v7 => wIs M5 v7 5 ∧ w_Y_get e0 (fun r12 M11 => wSm r12 (fun a13 => wIs M11 a13 1 ∧ wGI M11 a13 1 7 (fun v16 => ((v16 = 0) → wGI M11 a13 1 3 (fun v20 => ((l3 ≤ v20) → w_A_firstDue_j61 e0 post (w_A_firstDue_j9 e0 post n) M11 l0 l2 l3 l4) ∧ (¬ (l3 ≤ v20) → wGI M11 a13 1 3 (fun v24 => w_A_firstDue_j61 e0 post (w_A_firstDue_j9 e0 post n) M11 l0 l4 v24 l4)))) ∧ (¬ (v16 = 0) → w_A_firstDue_j61 e0 post (w_A_firstDue_j9 e0 post n) M11 l0 l2 l3 l4)))) M5 v7 l4))) M v1)
set_option maxHeartbeats 4000000 in
set_option maxRecDepth 100000 in
theorem k_A_firstDue_j9 {p : Program} {l : Launch} {e : Env} {s : State} {m : MethodId} {args : Array Value} {below : List Frame} {meth : Method} {c : Code} {D : va_G} {tc : Nat → ClassId} {A : Nat → Prop} {post : Int32 → zM → Prop} (C0 : zC R_A cA_firstDue 6 (some .int) "firstDue" D tc A p l s m args meth c) : ∀ n : Nat, J_A_firstDue_9 p l e s m args below meth c D tc A (MQ below (va_Qi post (zB D tc A) A) args s 0 0 A) (w_A_firstDue_j9 (tc 9) post n) := by
  obtain ⟨hx, hb, hml, hr, hown, htb, hlk, hA, hG, hin, hex⟩ := id C0
  have hK := hG.1
  intro n
  induction n with
  | zero => intro M l0 l2 l3 l4 H locs ls hM hS hl hw; exact hw.elim
  | succ n ih =>
    intro M l0 l2 l3 l4 H locs ls hM hS hl hw
    refine lv_iload hx hb dA_firstDue_9 (lv_at hl 3 rfl) ?_
    refine lv_aload_n hx hb dA_firstDue_11 rfl (lv_at hl 0 rfl) ?_
    obtain ⟨fs2, v1, h3, ev4, hw⟩ := hw
    refine z_get hx hb htb inw_A hown hK hM h3 rfl 2 (by decide) (htb _ t_59) (fun _ h9 => h9) ev4 dA_firstDue_12 ?_
    obtain ⟨⟨fs30, h31⟩, hw⟩ := hw
    refine va_calli (va_runV (As := []) (rest := [.int l4]) ⟨hx, hb, hml, hown, htb⟩ (k_Y_size (l := l) (D := D) (tc := tc) (A := A) hw) (cw_A_31 htb ⟨Nat.le_of_ble_eq_true rfl, Nat.le_of_ble_eq_true rfl⟩) (z_preV hG hA hS hM h31 rfl) rfl rfl hl.1 rfl (lv_room (Nat.le_of_ble_eq_true rfl)) dA_firstDue_15 ⟨Nat.le_refl _, Nat.le_refl _⟩) hS (fun _ _ h => h) (fun _ h => h) (fun r6 M5 t H locs ht hvm hw hB _ _ hS => ?_)
    have hM : zP D vwCl tc A M5 H := by rw [← ht]; exact hB
    refine lv_icmp_ge (tgt := 67) hx hb dA_firstDue_18 (by decide) (fun hq => ?_) (fun hq => ?_)
    · have hw := hw.1 hq
      refine lv_iload_n hx hb dA_firstDue_67 rfl (lv_at hl 1 rfl) ?_
      exact W.iret hx hb hr (fun t ht hW => ⟨⟨_, _, rfl, hw, zB_of ht hM⟩, hS.F ht⟩) hS.2.2 dA_firstDue_68
    · have hw := hw.2 hq
      refine lv_aload_n hx hb dA_firstDue_21 rfl (lv_at hl 0 rfl) ?_
      obtain ⟨fs8, v7, h9, ev10, hw⟩ := hw
      refine z_get hx hb htb inw_A hown hK hM h9 rfl 2 (by decide) (htb _ t_59) (fun _ h9 => h9) ev10 dA_firstDue_22 ?_
      refine lv_iload hx hb dA_firstDue_25 (lv_at hl 3 rfl) ?_
      obtain ⟨⟨fs28, h29⟩, hw⟩ := hw
      refine va_callq (va_runV (As := [.int l4]) (rest := []) ⟨hx, hb, hml, hown, htb⟩ (k_Y_get (l := l) (D := D) (tc := tc) (A := A) hw) (cw_A_203 htb ⟨Nat.le_of_ble_eq_true rfl, Nat.le_of_ble_eq_true rfl⟩) (z_preV hG hA hS hM h29 rfl) rfl rfl hl.1 rfl (lv_room (Nat.le_of_ble_eq_true rfl)) dA_firstDue_27 ⟨Nat.le_refl _, Nat.le_refl _⟩) hS (fun _ _ h => h) (fun _ h => h) (fun r12 M11 t H locs ht hvm hw hB _ _ hS => ?_)
      have hM : zP D vwCl tc A M11 H := by rw [← ht]; exact hB
      obtain ⟨a13, rfl, hw⟩ := hw
      obtain ⟨⟨fs14, h15⟩, hw⟩ := hw
      refine va_castS hx hb hown (htb _ t_415) (hK.1 1 _ rfl).2 (z_recv hK hM h15 rfl) dA_firstDue_30 ?_
      refine lv_astore (lv' := [(5, .ref a13), (0, .ref l0), (2, .int l2), (3, .int l3), (4, .int l4)]) hx hb dA_firstDue_33 hl (by decide) rfl (fun ls hl => ?_)
      refine lv_aload hx hb dA_firstDue_35 (lv_at hl 0 rfl) ?_
      obtain ⟨fs17, v16, h18, ev19, hw⟩ := hw
      refine z_getN hx hb htb inw_L hown hK hM h18 rfl 7 (by decide) (va_Nw.use rfl (hG.2.1 _ t_437)) (fun _ h9 => h9) ev19 dA_firstDue_37 ?_
      refine lv_if_ne (tgt := 61) hx hb dA_firstDue_40 (by decide) (fun hq => ?_) (fun hq => ?_)
      · have hw := hw.2 hq
        exact k_A_firstDue_j61 C0 ih _ _ _ _ _ _ _ _ hM hS (lv_sub hl [1, 2, 3, 4] rfl) hw
      · have hw := hw.1 hq
        refine lv_aload hx hb dA_firstDue_43 (lv_at hl 0 rfl) ?_
        obtain ⟨fs21, v20, h22, ev23, hw⟩ := hw
        refine z_getN hx hb htb inw_L hown hK hM h22 rfl 3 (by decide) (va_Nw.use rfl (hG.2.1 _ t_431)) (fun _ h9 => h9) ev23 dA_firstDue_45 ?_
        refine lv_iload_n hx hb dA_firstDue_48 rfl (lv_at hl 3 rfl) ?_
        refine lv_icmp_ge (tgt := 61) hx hb dA_firstDue_49 (by decide) (fun hq => ?_) (fun hq => ?_)
        · have hw := hw.1 hq
          exact k_A_firstDue_j61 C0 ih _ _ _ _ _ _ _ _ hM hS (lv_sub hl [1, 2, 3, 4] rfl) hw
        · have hw := hw.2 hq
          refine lv_iload hx hb dA_firstDue_52 (lv_at hl 4 rfl) ?_
          refine lv_istore_n (lv' := [(2, .int l4), (5, .ref a13), (0, .ref l0), (3, .int l3), (4, .int l4)]) hx hb dA_firstDue_54 rfl hl (by decide) rfl (fun ls hl => ?_)
          refine lv_aload hx hb dA_firstDue_55 (lv_at hl 1 rfl) ?_
          obtain ⟨fs25, v24, h26, ev27, hw⟩ := hw
          refine z_getN hx hb htb inw_L hown hK hM h26 rfl 3 (by decide) (va_Nw.use rfl (hG.2.1 _ t_431)) (fun _ h9 => h9) ev27 dA_firstDue_57 ?_
          refine lv_istore_n (lv' := [(3, .int v24), (2, .int l4), (5, .ref a13), (0, .ref l0), (4, .int l4)]) hx hb dA_firstDue_60 rfl hl (by decide) rfl (fun ls hl => ?_)
          exact k_A_firstDue_j61 C0 ih _ _ _ _ _ _ _ _ hM hS (lv_sub hl [3, 1, 0, 4] rfl) hw
def w_A_firstDue (e0 : Nat) (post : Int32 → zM → Prop) (M : zM) (h0 : Nat) (x1 : Int32) : Prop := ∃ nn, w_A_firstDue_j9 e0 post nn M h0 (-1) (x1 + 1) 0
set_option maxHeartbeats 4000000 in
set_option maxRecDepth 100000 in
theorem k_A_firstDue {l : Launch} {D : va_G} {tc : Nat → ClassId} {A : Nat → Prop} {post : Int32 → zM → Prop} {M : zM} {h0 : Nat} {x1 : Int32} (hw : w_A_firstDue (tc 9) post M h0 x1) : Met l yA_firstDue (.code yA_firstDue cA_firstDue 6 (some .int) :: zTB) r_A_firstDue (va_Pc [.ref h0, .int x1] (zI D tc A M)) (va_Qi post (zB D tc A) A) 0 0 A := by
  refine Met.ofW (cc := cA_firstDue) (maxL := 6) (ret := (some .int)) (by decide +kernel) rfl ?_
  intro p e s m args below meth c s₁ B hml hv
  obtain ⟨rfl, hA, hM, hG⟩ := hv
  have C0 := zC_of (D := D) (tc := tc) (A := A) B hml (zC_ex B) hA hG
  obtain ⟨hx, hb, hml, hr, hown, htb, hlk, hA, hG, hin, hex⟩ := id C0
  have hK := hG.1
  have hS : va_S A s.heap s.heap [] := va_S.rf
  have hl := lv_entry ([.ref h0, .int x1]) (n := 6) (Nat.le_of_ble_eq_true rfl)
  rw [lg_entry_eq]
  generalize (lg_sl ([.ref h0, .int x1]) ++ List.replicate (6 - (lg_sl ([.ref h0, .int x1])).length) Slot.unset).toArray = ls at hl ⊢
  have hl : lv_has ls 6 [(0, .ref h0), (1, .int x1)] := hl
  refine lv_iconst (v := (-1)) hx hb dA_firstDue_0 (by decide +kernel) ?_
  refine lv_istore_n (lv' := [(2, .int (-1)), (0, .ref h0), (1, .int x1)]) hx hb dA_firstDue_1 rfl hl (by decide) rfl (fun ls hl => ?_)
  refine lv_iload_n hx hb dA_firstDue_2 rfl (lv_at hl 2 rfl) ?_
  refine lv_iconst (v := 1) hx hb dA_firstDue_3 (by decide +kernel) ?_
  refine lv_iadd hx hb dA_firstDue_4 ?_
  refine lv_istore_n (lv' := [(3, .int (x1 + 1)), (2, .int (-1)), (0, .ref h0), (1, .int x1)]) hx hb dA_firstDue_5 rfl hl (by decide) rfl (fun ls hl => ?_)
  refine lv_iconst (v := 0) hx hb dA_firstDue_6 (by decide +kernel) ?_
  refine lv_istore (lv' := [(4, .int 0), (3, .int (x1 + 1)), (2, .int (-1)), (0, .ref h0), (1, .int x1)]) hx hb dA_firstDue_7 hl (by decide) rfl (fun ls hl => ?_)
  obtain ⟨nfu, hw⟩ := hw
  exact k_A_firstDue_j9 C0  nfu _ _ _ _ _ _ _ _ hM hS (lv_sub hl [3, 2, 1, 0] rfl) hw
abbrev r_A_addUp : Room := { frames := 3, cells := 0, slots := 0, locals := 64 }
abbrev J_A_addUp_66 (p : Program) (l : Launch) (e : Env) (s : State) (m : MethodId) (args : Array Value) (below : List Frame) (meth : Method) (c : Code) (D : va_G) (tc : Nat → ClassId) (A : Nat → Prop) (Q : State → Prop) (K : zM → Nat → Nat → Int32 → Prop) : Prop := ∀ (M : zM) (l0 : Nat) (l1 : Nat) (l3 : Int32) (H : Heap) (locs : List Loc) (ls : Array Slot), zP D vwCl tc A M H → va_S A s.heap H locs → lv_has ls 4 [(0, .ref l0), (1, .ref l1), (3, .int l3)] → K M l0 l1 l3 → W p l e (r_A_addUp) s m args below meth c H locs 0 0 Q (F0 m 66 ls [])
abbrev J_A_addUp_28 (p : Program) (l : Launch) (e : Env) (s : State) (m : MethodId) (args : Array Value) (below : List Frame) (meth : Method) (c : Code) (D : va_G) (tc : Nat → ClassId) (A : Nat → Prop) (Q : State → Prop) (K : zM → Nat → Nat → Int32 → Prop) : Prop := ∀ (M : zM) (l0 : Nat) (l1 : Nat) (l3 : Int32) (H : Heap) (locs : List Loc) (ls : Array Slot), zP D vwCl tc A M H → va_S A s.heap H locs → lv_has ls 4 [(0, .ref l0), (1, .ref l1), (3, .int l3)] → K M l0 l1 l3 → W p l e (r_A_addUp) s m args below meth c H locs 0 0 Q (F0 m 28 ls [])
def w_A_addUp_j66 (e0 : Nat) (post : zM → Prop) (K28 : zM → Nat → Nat → Int32 → Prop) (M : zM) (l0 : Nat) (l1 : Nat) (l3 : Int32) : Prop := K28 M l0 l1 (l3 + 1)
set_option maxHeartbeats 4000000 in
set_option maxRecDepth 100000 in
theorem k_A_addUp_j66 {p : Program} {l : Launch} {e : Env} {s : State} {m : MethodId} {args : Array Value} {below : List Frame} {meth : Method} {c : Code} {D : va_G} {tc : Nat → ClassId} {A : Nat → Prop} {post : zM → Prop} (C0 : zC R_A cA_addUp 4 none "addUp" D tc A p l s m args meth c) {K28 : zM → Nat → Nat → Int32 → Prop} (hK28 : J_A_addUp_28 p l e s m args below meth c D tc A (MQ below (va_Qv post (zB D tc A) A) args s 0 0 A) K28) : J_A_addUp_66 p l e s m args below meth c D tc A (MQ below (va_Qv post (zB D tc A) A) args s 0 0 A) (w_A_addUp_j66 (tc 9) post K28) := by
  obtain ⟨hx, hb, hml, hr, hown, htb, hlk, hA, hG, hin, hex⟩ := id C0
  have hK := hG.1
  intro M l0 l1 l3 H locs ls hM hS hl hw
  refine lv_iinc (v := (l3 + 1)) (lv' := [(3, .int (l3 + 1)), (0, .ref l0), (1, .ref l1)]) hx hb dA_addUp_66 hl (k := 2) rfl rfl (by decide) rfl (fun ls hl => ?_)
  refine lv_goto (tgt := 28) hx hb dA_addUp_69 (by decide) ?_
  exact hK28 _ _ _ _ _ _ _ hM hS (lv_sub hl [1, 2, 0] rfl) hw
def w_A_addUp_j28 (e0 : Nat) (post : zM → Prop) : Nat → zM → Nat → Nat → Int32 → Prop
  | 0 => fun _ _ _ _ => False
  | n + 1 => fun M l0 l1 l3 => wGR M l0 0 1 (fun v1 => wIs M v1 5 ∧ w_Y_size e0 (fun r6 M5 => ((r6 ≤ l3) → post M5) ∧ (¬ (r6 ≤ l3) → wIs M5 l1 1 ∧ w_L_hasAsked e0 (fun r8 M7 => ((r8 = 0) → w_A_addUp_j66 e0 post (w_A_addUp_j28 e0 post n) M7 l0 l1 l3) ∧ (¬ (r8 = 0) → wGR M7 l0 0 1 (fun v9 => wIs M7 v9 5 ∧ w_Y_get e0 (fun r14 M13 => wSm r14 (fun a15 => wIs M13 a15 3 ∧ wIs M13 l1 1 ∧ w_L_hasAnswer e0 (fun r19 M18 => wIs M18 a15 3 ∧ w_P_addClosed e0 (fun M20 => w_A_addUp_j66 e0 post (w_A_addUp_j28 e0 post n) M20 l0 l1 l3) M18 a15 r19) M13 l1 l3)) M7 v9 l3))) M5 l1 l3)) M v1)
set_option maxHeartbeats 4000000 in
set_option maxRecDepth 100000 in
theorem k_A_addUp_j28 {p : Program} {l : Launch} {e : Env} {s : State} {m : MethodId} {args : Array Value} {below : List Frame} {meth : Method} {c : Code} {D : va_G} {tc : Nat → ClassId} {A : Nat → Prop} {post : zM → Prop} (C0 : zC R_A cA_addUp 4 none "addUp" D tc A p l s m args meth c) : ∀ n : Nat, J_A_addUp_28 p l e s m args below meth c D tc A (MQ below (va_Qv post (zB D tc A) A) args s 0 0 A) (w_A_addUp_j28 (tc 9) post n) := by
  obtain ⟨hx, hb, hml, hr, hown, htb, hlk, hA, hG, hin, hex⟩ := id C0
  have hK := hG.1
  intro n
  induction n with
  | zero => intro M l0 l1 l3 H locs ls hM hS hl hw; exact hw.elim
  | succ n ih =>
    intro M l0 l1 l3 H locs ls hM hS hl hw
    refine lv_iload_n hx hb dA_addUp_28 rfl (lv_at hl 2 rfl) ?_
    refine lv_aload_n hx hb dA_addUp_29 rfl (lv_at hl 0 rfl) ?_
    obtain ⟨fs2, v1, h3, ev4, hw⟩ := hw
    refine z_get hx hb htb inw_A hown hK hM h3 rfl 1 (by decide) (htb _ t_58) (fun _ h9 => h9) ev4 dA_addUp_30 ?_
    obtain ⟨⟨fs29, h30⟩, hw⟩ := hw
    refine va_calli (va_runV (As := []) (rest := [.int l3]) ⟨hx, hb, hml, hown, htb⟩ (k_Y_size (l := l) (D := D) (tc := tc) (A := A) hw) (cw_A_31 htb ⟨Nat.le_of_ble_eq_true rfl, Nat.le_of_ble_eq_true rfl⟩) (z_preV hG hA hS hM h30 rfl) rfl rfl hl.1 rfl (lv_room (Nat.le_of_ble_eq_true rfl)) dA_addUp_33 ⟨Nat.le_refl _, Nat.le_refl _⟩) hS (fun _ _ h => h) (fun _ h => h) (fun r6 M5 t H locs ht hvm hw hB _ _ hS => ?_)
    have hM : zP D vwCl tc A M5 H := by rw [← ht]; exact hB
    refine lv_icmp_ge (tgt := 72) hx hb dA_addUp_36 (by decide) (fun hq => ?_) (fun hq => ?_)
    · have hw := hw.1 hq
      exact W.vret hx hb hr (fun t ht hW => ⟨⟨_, rfl, hw, zB_of ht hM⟩, hS.F ht⟩) hS.2.2 dA_addUp_72
    · have hw := hw.2 hq
      refine lv_aload_n hx hb dA_addUp_39 rfl (lv_at hl 1 rfl) ?_
      refine lv_iload_n hx hb dA_addUp_40 rfl (lv_at hl 2 rfl) ?_
      obtain ⟨⟨fs27, h28⟩, hw⟩ := hw
      refine va_calli (va_runV (As := [.int l3]) (rest := []) ⟨hx, hb, hml, hown, htb⟩ (k_L_hasAsked (l := l) (D := D) (tc := tc) (A := A) hw) (cw_A_242 htb ⟨Nat.le_of_ble_eq_true rfl, Nat.le_of_ble_eq_true rfl⟩) (z_preV hG hA hS hM h28 rfl) rfl rfl hl.1 rfl (lv_room (Nat.le_of_ble_eq_true rfl)) dA_addUp_41 ⟨Nat.le_refl _, Nat.le_refl _⟩) hS (fun _ _ h => h) (fun _ h => h) (fun r8 M7 t H locs ht hvm hw hB _ _ hS => ?_)
      have hM : zP D vwCl tc A M7 H := by rw [← ht]; exact hB
      refine lv_if_eq (tgt := 66) hx hb dA_addUp_44 (by decide) (fun hq => ?_) (fun hq => ?_)
      · have hw := hw.1 hq
        exact k_A_addUp_j66 C0 ih _ _ _ _ _ _ _ hM hS (lv_sub hl [0, 1, 2] rfl) hw
      · have hw := hw.2 hq
        refine lv_aload_n hx hb dA_addUp_47 rfl (lv_at hl 0 rfl) ?_
        obtain ⟨fs10, v9, h11, ev12, hw⟩ := hw
        refine z_get hx hb htb inw_A hown hK hM h11 rfl 1 (by decide) (htb _ t_58) (fun _ h9 => h9) ev12 dA_addUp_48 ?_
        refine lv_iload_n hx hb dA_addUp_51 rfl (lv_at hl 2 rfl) ?_
        obtain ⟨⟨fs25, h26⟩, hw⟩ := hw
        refine va_callq (va_runV (As := [.int l3]) (rest := []) ⟨hx, hb, hml, hown, htb⟩ (k_Y_get (l := l) (D := D) (tc := tc) (A := A) hw) (cw_A_203 htb ⟨Nat.le_of_ble_eq_true rfl, Nat.le_of_ble_eq_true rfl⟩) (z_preV hG hA hS hM h26 rfl) rfl rfl hl.1 rfl (lv_room (Nat.le_of_ble_eq_true rfl)) dA_addUp_52 ⟨Nat.le_refl _, Nat.le_refl _⟩) hS (fun _ _ h => h) (fun _ h => h) (fun r14 M13 t H locs ht hvm hw hB _ _ hS => ?_)
        have hM : zP D vwCl tc A M13 H := by rw [← ht]; exact hB
        obtain ⟨a15, rfl, hw⟩ := hw
        obtain ⟨⟨fs16, h17⟩, hw⟩ := hw
        refine va_castS hx hb hown (htb _ t_333) (hK.1 3 _ rfl).2 (z_recv hK hM h17 rfl) dA_addUp_55 ?_
        refine lv_aload_n hx hb dA_addUp_58 rfl (lv_at hl 1 rfl) ?_
        refine lv_iload_n hx hb dA_addUp_59 rfl (lv_at hl 2 rfl) ?_
        obtain ⟨⟨fs23, h24⟩, hw⟩ := hw
        refine va_calli (va_runV (As := [.int l3]) (rest := [.ref a15]) ⟨hx, hb, hml, hown, htb⟩ (k_L_hasAnswer (l := l) (D := D) (tc := tc) (A := A) hw) (cw_A_265 htb ⟨Nat.le_of_ble_eq_true rfl, Nat.le_of_ble_eq_true rfl⟩) (z_preV hG hA hS hM h24 rfl) rfl rfl hl.1 rfl (lv_room (Nat.le_of_ble_eq_true rfl)) dA_addUp_60 ⟨Nat.le_refl _, Nat.le_refl _⟩) hS (fun _ _ h => h) (fun _ h => h) (fun r19 M18 t H locs ht hvm hw hB _ _ hS => ?_)
        have hM : zP D vwCl tc A M18 H := by rw [← ht]; exact hB
        obtain ⟨⟨fs21, h22⟩, hw⟩ := hw
        refine va_callv (va_runV (As := [.int r19]) (rest := []) ⟨hx, hb, hml, hown, htb⟩ (k_P_addClosed (l := l) (D := D) (tc := tc) (A := A) hw) (cw_A_268 htb ⟨Nat.le_of_ble_eq_true rfl, Nat.le_of_ble_eq_true rfl⟩) (z_preV hG hA hS hM h22 rfl) rfl rfl hl.1 rfl (lv_room (Nat.le_of_ble_eq_true rfl)) dA_addUp_63 ⟨Nat.le_refl _, Nat.le_refl _⟩) hS (fun _ _ h => h) (fun _ h => h) (fun M20 t H locs ht hvm hw hB _ _ hS => ?_)
        have hM : zP D vwCl tc A M20 H := by rw [← ht]; exact hB
        exact k_A_addUp_j66 C0 ih _ _ _ _ _ _ _ hM hS (lv_sub hl [0, 1, 2] rfl) hw
def w_A_addUp (e0 : Nat) (post : zM → Prop) (M : zM) (h0 : Nat) (h1 : Nat) (h2 : Nat) : Prop := wGI M h2 2 3 (fun v1 => wIs M h1 1 ∧ w_L_askedPersons e0 (fun r6 M5 => wPF M5 h2 2 3 (.int (v1 + r6)) (fun M10 => wGI M10 h2 2 4 (fun v11 => wIs M10 h1 1 ∧ w_L_answeredPersons e0 (fun r16 M15 => wPF M15 h2 2 4 (.int (v11 + r16)) (fun M20 => ∃ nn, w_A_addUp_j28 e0 post nn M20 h0 h1 0)) M10 h1))) M h1)
set_option maxHeartbeats 4000000 in
set_option maxRecDepth 100000 in
theorem k_A_addUp {l : Launch} {D : va_G} {tc : Nat → ClassId} {A : Nat → Prop} {post : zM → Prop} {M : zM} {h0 : Nat} {h1 : Nat} {h2 : Nat} (hw : w_A_addUp (tc 9) post M h0 h1 h2) : Met l yA_addUp (.code yA_addUp cA_addUp 4 none :: zTB) r_A_addUp (va_Pc [.ref h0, .ref h1, .ref h2] (zI D tc A M)) (va_Qv post (zB D tc A) A) 0 0 A := by
  refine Met.ofW (cc := cA_addUp) (maxL := 4) (ret := none) (by decide +kernel) rfl ?_
  intro p e s m args below meth c s₁ B hml hv
  obtain ⟨rfl, hA, hM, hG⟩ := hv
  have C0 := zC_of (D := D) (tc := tc) (A := A) B hml (zC_ex B) hA hG
  obtain ⟨hx, hb, hml, hr, hown, htb, hlk, hA, hG, hin, hex⟩ := id C0
  have hK := hG.1
  have hS : va_S A s.heap s.heap [] := va_S.rf
  have hl := lv_entry ([.ref h0, .ref h1, .ref h2]) (n := 4) (Nat.le_of_ble_eq_true rfl)
  rw [lg_entry_eq]
  generalize (lg_sl ([.ref h0, .ref h1, .ref h2]) ++ List.replicate (4 - (lg_sl ([.ref h0, .ref h1, .ref h2])).length) Slot.unset).toArray = ls at hl ⊢
  have hl : lv_has ls 4 [(0, .ref h0), (1, .ref h1), (2, .ref h2)] := hl
  refine lv_aload_n hx hb dA_addUp_0 rfl (lv_at hl 2 rfl) ?_
  refine lv_dup hx hb dA_addUp_1 rfl ?_
  obtain ⟨fs2, v1, h3, ev4, hw⟩ := hw
  refine z_getN hx hb htb inw_G hown hK hM h3 rfl 3 (by decide) (va_Nw.use rfl (hG.2.1 _ t_191)) (fun _ h9 => h9) ev4 dA_addUp_2 ?_
  refine lv_aload_n hx hb dA_addUp_5 rfl (lv_at hl 1 rfl) ?_
  obtain ⟨⟨fs23, h24⟩, hw⟩ := hw
  refine va_calli (va_runV (As := []) (rest := [.int v1, .ref h2]) ⟨hx, hb, hml, hown, htb⟩ (k_L_askedPersons (l := l) (D := D) (tc := tc) (A := A) hw) (cw_A_155 htb ⟨Nat.le_of_ble_eq_true rfl, Nat.le_of_ble_eq_true rfl⟩) (z_preV hG hA hS hM h24 rfl) rfl rfl hl.1 rfl (lv_room (Nat.le_of_ble_eq_true rfl)) dA_addUp_6 ⟨Nat.le_refl _, Nat.le_refl _⟩) hS (fun _ _ h => h) (fun _ h => h) (fun r6 M5 t H locs ht hvm hw hB _ _ hS => ?_)
  have hM : zP D vwCl tc A M5 H := by rw [← ht]; exact hB
  refine lv_iadd hx hb dA_addUp_9 ?_
  obtain ⟨fs7, h8, hl9, hw⟩ := hw
  refine z_putN (ty := .int) hx hb htb inw_G ty_G tyok_G nmok_G hown hK hM hS h8 rfl 3 (by decide) (va_Nw.use rfl (hG.2.1 _ t_191)) (fun _ h9 => h9) rfl (by decide +kernel) rfl rfl hl9 dA_addUp_10 (fun H locs hM hS => ?_)
  refine lv_aload_n hx hb dA_addUp_13 rfl (lv_at hl 2 rfl) ?_
  refine lv_dup hx hb dA_addUp_14 rfl ?_
  obtain ⟨fs12, v11, h13, ev14, hw⟩ := hw
  refine z_getN hx hb htb inw_G hown hK hM h13 rfl 4 (by decide) (va_Nw.use rfl (hG.2.1 _ t_192)) (fun _ h9 => h9) ev14 dA_addUp_15 ?_
  refine lv_aload_n hx hb dA_addUp_18 rfl (lv_at hl 1 rfl) ?_
  obtain ⟨⟨fs21, h22⟩, hw⟩ := hw
  refine va_calli (va_runV (As := []) (rest := [.int v11, .ref h2]) ⟨hx, hb, hml, hown, htb⟩ (k_L_answeredPersons (l := l) (D := D) (tc := tc) (A := A) hw) (cw_A_161 htb ⟨Nat.le_of_ble_eq_true rfl, Nat.le_of_ble_eq_true rfl⟩) (z_preV hG hA hS hM h22 rfl) rfl rfl hl.1 rfl (lv_room (Nat.le_of_ble_eq_true rfl)) dA_addUp_19 ⟨Nat.le_refl _, Nat.le_refl _⟩) hS (fun _ _ h => h) (fun _ h => h) (fun r16 M15 t H locs ht hvm hw hB _ _ hS => ?_)
  have hM : zP D vwCl tc A M15 H := by rw [← ht]; exact hB
  refine lv_iadd hx hb dA_addUp_22 ?_
  obtain ⟨fs17, h18, hl19, hw⟩ := hw
  refine z_putN (ty := .int) hx hb htb inw_G ty_G tyok_G nmok_G hown hK hM hS h18 rfl 4 (by decide) (va_Nw.use rfl (hG.2.1 _ t_192)) (fun _ h9 => h9) rfl (by decide +kernel) rfl rfl hl19 dA_addUp_23 (fun H locs hM hS => ?_)
  refine lv_iconst (v := 0) hx hb dA_addUp_26 (by decide +kernel) ?_
  refine lv_istore_n (lv' := [(3, .int 0), (0, .ref h0), (1, .ref h1), (2, .ref h2)]) hx hb dA_addUp_27 rfl hl (by decide) rfl (fun ls hl => ?_)
  obtain ⟨nfu, hw⟩ := hw
  exact k_A_addUp_j28 C0  nfu _ _ _ _ _ _ _ hM hS (lv_sub hl [1, 2, 0] rfl) hw
abbrev r_A_raiseSecond (mc ms : Nat) : Room := { frames := 9, cells := mc, slots := ms, locals := 217 }
def w_A_raiseSecond (e0 : Nat) (post : zM → Prop) (px : String → zM → Prop) (mc : Nat) (ms : Nat) (M : zM) (h0 : Nat) (x1 : Int32) (x2 : Int32) : Prop := ((x1 = (-1)) → post M) ∧ (¬ (x1 = (-1)) → wGR M h0 0 2 (fun v1 => wIs M v1 5 ∧ w_Y_size e0 (fun r6 M5 => ((60 ≤ r6) → post M5) ∧ (¬ (60 ≤ r6) → wIs M5 h0 0 ∧ w_A_wouldAskSomebody e0 (fun r8 M7 => ((r8 = 0) → post M7) ∧ (¬ (r8 = 0) → wIs M7 h0 0 ∧ ∃ mc10 ms11 : Nat, mc10 ≤ mc ∧ ms11 ≤ ms ∧ w_A_raise e0 (fun M9 => wGI M9 h0 0 6 (fun v12 => wPF M9 h0 0 6 (.int (v12 + 1)) (fun M19 => post M19))) px mc10 ms11 M7 h0 x1 0 x2)) M5 h0 x1 0)) M v1))
set_option maxHeartbeats 4000000 in
set_option maxRecDepth 100000 in
theorem k_A_raiseSecond {l : Launch} {D : va_G} {tc : Nat → ClassId} {A : Nat → Prop} {mc ms : Nat} {post : zM → Prop} {px : String → zM → Prop} {M : zM} {h0 : Nat} {x1 : Int32} {x2 : Int32} (hst : l.stackTraces = false) (hw : w_A_raiseSecond (tc 9) post px mc ms M h0 x1 x2) : vx_Met l yA_raiseSecond (.code yA_raiseSecond cA_raiseSecond 3 none :: zTB) (r_A_raiseSecond mc ms) (va_Pc [.ref h0, .int x1, .int x2] (zI D tc A M)) (va_Qv post (zB D tc A) A) (zX D tc A px) mc ms A := by
  refine vx_ofW (cc := cA_raiseSecond) (maxL := 3) (ret := none) (by decide) rfl ?_
  intro p e s m args below meth c s₁ B hml ht9 hv
  obtain ⟨rfl, hA, hM, hG⟩ := hv
  have C0 := zC_of (D := D) (tc := tc) (A := A) B hml ht9 hA hG
  obtain ⟨hx, hb, hml, hr, hown, htb, hlk, hA, hG, hin, hex⟩ := id C0
  have hK := hG.1
  have hS : va_S A s.heap s.heap [] := va_S.rf
  have hl := lv_entry ([.ref h0, .int x1, .int x2]) (n := 3) (Nat.le_of_ble_eq_true rfl)
  rw [lg_entry_eq]
  generalize (lg_sl ([.ref h0, .int x1, .int x2]) ++ List.replicate (3 - (lg_sl ([.ref h0, .int x1, .int x2])).length) Slot.unset).toArray = ls at hl ⊢
  have hl : lv_has ls 3 [(0, .ref h0), (1, .int x1), (2, .int x2)] := hl
  refine lv_iload_n hx hb dA_raiseSecond_0 rfl (lv_at hl 1 rfl) ?_
  refine lv_iconst (v := (-1)) hx hb dA_raiseSecond_1 (by decide +kernel) ?_
  refine lv_icmp_eq (tgt := 26) hx hb dA_raiseSecond_2 (by decide) (fun hq => ?_) (fun hq => ?_)
  · have hw := hw.1 hq
    refine vx_ret ?_
    refine W.widen (k := mc) (n := ms) (by omega) (by omega) ?_
    exact W.vret hx hb hr (fun t ht hW => ⟨⟨_, rfl, hw, zB_of ht hM⟩, hS.F ht⟩) hS.2.2 dA_raiseSecond_26
  · have hw := hw.2 hq
    refine lv_aload_n hx hb dA_raiseSecond_5 rfl (lv_at hl 0 rfl) ?_
    obtain ⟨fs2, v1, h3, ev4, hw⟩ := hw
    refine z_get hx hb htb inw_A hown hK hM h3 rfl 2 (by decide) (htb _ t_59) (fun _ h9 => h9) ev4 dA_raiseSecond_6 ?_
    obtain ⟨⟨fs24, h25⟩, hw⟩ := hw
    refine va_calli (va_runV (As := []) (rest := []) ⟨hx, hb, hml, hown, htb⟩ (k_Y_size (l := l) (D := D) (tc := tc) (A := A) hw) (cw_A_31 htb ⟨Nat.le_of_ble_eq_true rfl, Nat.le_of_ble_eq_true rfl⟩) (z_preV hG hA hS hM h25 rfl) rfl rfl hl.1 rfl (lv_room (Nat.le_of_ble_eq_true rfl)) dA_raiseSecond_9 ⟨show 0 + 0 ≤ mc by omega, show 0 + 0 ≤ ms by omega⟩) hS (fun _ _ h => h) (fun _ h => h) (fun r6 M5 t H locs ht hvm hw hB _ _ hS => ?_)
    have hM : zP D vwCl tc A M5 H := by rw [← ht]; exact hB
    refine lv_bipush (v := 60) hx hb dA_raiseSecond_12 (by decide +kernel) ?_
    refine lv_icmp_ge (tgt := 26) hx hb dA_raiseSecond_14 (by decide) (fun hq => ?_) (fun hq => ?_)
    · have hw := hw.1 hq
      refine vx_ret ?_
      refine W.widen (k := mc) (n := ms) (by omega) (by omega) ?_
      exact W.vret hx hb hr (fun t ht hW => ⟨⟨_, rfl, hw, zB_of ht hM⟩, hS.F ht⟩) hS.2.2 dA_raiseSecond_26
    · have hw := hw.2 hq
      refine lv_aload_n hx hb dA_raiseSecond_17 rfl (lv_at hl 0 rfl) ?_
      refine lv_iload_n hx hb dA_raiseSecond_18 rfl (lv_at hl 1 rfl) ?_
      refine lv_iconst (v := 0) hx hb dA_raiseSecond_19 (by decide +kernel) ?_
      obtain ⟨⟨fs22, h23⟩, hw⟩ := hw
      refine va_calli (va_runV (As := [.int x1, .int 0]) (rest := []) ⟨hx, hb, hml, hown, htb⟩ (k_A_wouldAskSomebody (l := l) (D := D) (tc := tc) (A := A) hw) (cw_A_90 htb ⟨Nat.le_of_ble_eq_true rfl, Nat.le_of_ble_eq_true rfl⟩) (z_preV hG hA hS hM h23 rfl) rfl rfl hl.1 rfl (lv_room (Nat.le_of_ble_eq_true rfl)) dA_raiseSecond_20 ⟨show 0 + 0 ≤ mc by omega, show 0 + 0 ≤ ms by omega⟩) hS (fun _ _ h => h) (fun _ h => h) (fun r8 M7 t H locs ht hvm hw hB _ _ hS => ?_)
      have hM : zP D vwCl tc A M7 H := by rw [← ht]; exact hB
      refine lv_if_ne (tgt := 27) hx hb dA_raiseSecond_23 (by decide) (fun hq => ?_) (fun hq => ?_)
      · have hw := hw.2 hq
        refine lv_aload_n hx hb dA_raiseSecond_27 rfl (lv_at hl 0 rfl) ?_
        refine lv_iload_n hx hb dA_raiseSecond_28 rfl (lv_at hl 1 rfl) ?_
        refine lv_iconst (v := 0) hx hb dA_raiseSecond_29 (by decide +kernel) ?_
        refine lv_iload_n hx hb dA_raiseSecond_30 rfl (lv_at hl 2 rfl) ?_
        obtain ⟨⟨fs20, h21⟩, hw⟩ := hw
        obtain ⟨mc10, ms11, hbmc10, hbms11, hw⟩ := hw
        refine vx_callv (vx_runV (As := [.int x1, .int 0, .int x2]) (rest := []) ⟨hx, hb, hml, hown, htb⟩ (k_A_raise (l := l) (D := D) (tc := tc) (A := A) hst hw) (cw_A_98 htb ⟨Nat.le_of_ble_eq_true rfl, Nat.le_of_ble_eq_true rfl⟩) (z_preV hG hA hS hM h21 rfl) rfl rfl hl.1 rfl (lv_room (Nat.le_of_ble_eq_true rfl)) dA_raiseSecond_31 ⟨show 0 + mc10 ≤ mc by omega, show 0 + ms11 ≤ ms by omega⟩) hS (fun _ _ h => h) (fun _ h => h) (fun _ _ h => h) (fun E9 ce9 q9 u9 t9 H locs ht hvm hw hB _ _ hS hce hcv hcl => z_out (fun x9 hx9 => (hex x9 hx9).elim) hlk hce hcv hcl ht hB hS hw (show 0 + mc10 ≤ mc by omega) (show 0 + ms11 ≤ ms by omega)) (fun M9 t H locs ht hvm hw hB _ _ hS => ?_)
        have hM : zP D vwCl tc A M9 H := by rw [← ht]; exact hB
        refine lv_aload_n hx hb dA_raiseSecond_34 rfl (lv_at hl 0 rfl) ?_
        refine lv_dup hx hb dA_raiseSecond_35 rfl ?_
        obtain ⟨fs13, v12, h14, ev15, hw⟩ := hw
        refine z_get hx hb htb inw_A hown hK hM h14 rfl 6 (by decide) (htb _ t_63) (fun _ h9 => h9) ev15 dA_raiseSecond_36 ?_
        refine lv_iconst (v := 1) hx hb dA_raiseSecond_39 (by decide +kernel) ?_
        refine lv_iadd hx hb dA_raiseSecond_40 ?_
        obtain ⟨fs16, h17, hl18, hw⟩ := hw
        refine z_put (ty := .int) hx hb htb inw_A ty_A tyok_A nmok_A hown hK hM hS h17 rfl 6 (by decide) (htb _ t_63) (fun _ h9 => h9) rfl (by decide +kernel) rfl rfl hl18 dA_raiseSecond_41 (fun H locs hM hS => ?_)
        refine vx_ret ?_
        refine W.widen (k := mc) (n := ms) (by omega) (by omega) ?_
        exact W.vret hx hb hr (fun t ht hW => ⟨⟨_, rfl, hw, zB_of ht hM⟩, hS.F ht⟩) hS.2.2 dA_raiseSecond_44
      · have hw := hw.1 hq
        refine vx_ret ?_
        refine W.widen (k := mc) (n := ms) (by omega) (by omega) ?_
        exact W.vret hx hb hr (fun t ht hW => ⟨⟨_, rfl, hw, zB_of ht hM⟩, hS.F ht⟩) hS.2.2 dA_raiseSecond_26
abbrev r_A_closeAlarm (mc ms : Nat) : Room := { frames := 10, cells := mc, slots := ms, locals := 239 }
abbrev J_A_closeAlarm_40 (p : Program) (l : Launch) (e : Env) (s : State) (m : MethodId) (args : Array Value) (below : List Frame) (meth : Method) (c : Code) (D : va_G) (tc : Nat → ClassId) (A : Nat → Prop) (mcT msT : Nat) (Q : State → Prop) (K : Nat → Nat → zM → Nat → Int32 → Nat → Nat → Int32 → Nat → Prop) : Prop := ∀ (mc : Nat) (ms : Nat) (M : zM) (l0 : Nat) (l1 : Int32) (l2 : Nat) (l3 : Nat) (s0 : Int32) (s1 : Nat) (H : Heap) (locs : List Loc) (cells slots : Nat) (ls : Array Slot), cells + mc ≤ mcT → slots + ms ≤ msT → zP D vwCl tc A M H → va_S A s.heap H locs → lv_has ls 4 [(0, .ref l0), (1, .int l1), (2, .ref l2), (3, .ref l3)] → K mc ms M l0 l1 l2 l3 s0 s1 → W p l e (r_A_closeAlarm mcT msT) s m args below meth c H locs cells slots Q (F0 m 40 ls [.int s0, .ref s1])
def w_A_closeAlarm_j40 (e0 : Nat) (post : zM → Prop) (px : String → zM → Prop) (mc : Nat) (ms : Nat) (M : zM) (l0 : Nat) (l1 : Int32) (l2 : Nat) (l3 : Nat) (s0 : Int32) (s1 : Nat) : Prop := wPF M s1 1 7 (.int s0) (fun M4 => wIs M4 l0 0 ∧ w_A_addUp e0 (fun M5 => wGI M5 l2 1 7 (fun v6 => ((v6 = 2) → wGI M5 l2 1 1 (fun v10 => ((v10 = 0) → wGI M5 l3 2 2 (fun v14 => wIs M5 l0 0 ∧ ∃ mc19 ms20 : Nat, mc19 ≤ mc ∧ ms20 ≤ ms ∧ w_A_raiseSecond e0 (fun M18 => post M18) px mc19 ms20 M5 l0 v14 l1)) ∧ (¬ (v10 = 0) → post M5))) ∧ (¬ (v6 = 2) → post M5))) M4 l0 l2 l3)
set_option maxHeartbeats 4000000 in
set_option maxRecDepth 100000 in
theorem k_A_closeAlarm_j40 {p : Program} {l : Launch} {e : Env} {s : State} {m : MethodId} {args : Array Value} {below : List Frame} {meth : Method} {c : Code} {D : va_G} {tc : Nat → ClassId} {A : Nat → Prop} {mcT msT : Nat} {post : zM → Prop} {px : String → zM → Prop} (C0 : zC R_A cA_closeAlarm 4 none "closeAlarm" D tc A p l s m args meth c) (hst : l.stackTraces = false) : J_A_closeAlarm_40 p l e s m args below meth c D tc A mcT msT (vx_MQ below (va_Qv post (zB D tc A) A) (zX D tc A px) args s mcT msT A) (w_A_closeAlarm_j40 (tc 9) post px) := by
  obtain ⟨hx, hb, hml, hr, hown, htb, hlk, hA, hG, hin, hex⟩ := id C0
  have hK := hG.1
  intro mc ms M l0 l1 l2 l3 s0 s1 H locs cells slots ls hbc hbs hM hS hl hw
  obtain ⟨fs1, h2, hl3, hw⟩ := hw
  refine z_putN (ty := .int) hx hb htb inw_L ty_L tyok_L nmok_L hown hK hM hS h2 rfl 7 (by decide) (va_Nw.use rfl (hG.2.1 _ t_437)) (fun _ h9 => h9) rfl (by decide +kernel) rfl rfl hl3 dA_closeAlarm_40 (fun H locs hM hS => ?_)
  refine lv_aload_n hx hb dA_closeAlarm_43 rfl (lv_at hl 0 rfl) ?_
  refine lv_aload_n hx hb dA_closeAlarm_44 rfl (lv_at hl 2 rfl) ?_
  refine lv_aload_n hx hb dA_closeAlarm_45 rfl (lv_at hl 3 rfl) ?_
  obtain ⟨⟨fs23, h24⟩, hw⟩ := hw
  refine va_callv (va_runV (As := [.ref l2, .ref l3]) (rest := []) ⟨hx, hb, hml, hown, htb⟩ (k_A_addUp (l := l) (D := D) (tc := tc) (A := A) hw) (cw_A_254 htb ⟨Nat.le_of_ble_eq_true rfl, Nat.le_of_ble_eq_true rfl⟩) (z_preV hG hA hS hM h24 rfl) rfl rfl hl.1 rfl (lv_room (Nat.le_of_ble_eq_true rfl)) dA_closeAlarm_46 ⟨show cells + 0 ≤ mcT by omega, show slots + 0 ≤ msT by omega⟩) hS (fun _ _ h => h) (fun _ h => h) (fun M5 t H locs ht hvm hw hB _ _ hS => ?_)
  have hM : zP D vwCl tc A M5 H := by rw [← ht]; exact hB
  refine lv_aload_n hx hb dA_closeAlarm_49 rfl (lv_at hl 2 rfl) ?_
  obtain ⟨fs7, v6, h8, ev9, hw⟩ := hw
  refine z_getN hx hb htb inw_L hown hK hM h8 rfl 7 (by decide) (va_Nw.use rfl (hG.2.1 _ t_437)) (fun _ h9 => h9) ev9 dA_closeAlarm_50 ?_
  refine lv_iconst (v := 2) hx hb dA_closeAlarm_53 (by decide +kernel) ?_
  refine lv_icmp_ne (tgt := 73) hx hb dA_closeAlarm_54 (by decide) (fun hq => ?_) (fun hq => ?_)
  · have hw := hw.2 hq
    refine vx_ret ?_
    refine W.widen (k := mcT) (n := msT) (by omega) (by omega) ?_
    exact W.vret hx hb hr (fun t ht hW => ⟨⟨_, rfl, hw, zB_of ht hM⟩, hS.F ht⟩) hS.2.2 dA_closeAlarm_73
  · have hw := hw.1 hq
    refine lv_aload_n hx hb dA_closeAlarm_57 rfl (lv_at hl 2 rfl) ?_
    obtain ⟨fs11, v10, h12, ev13, hw⟩ := hw
    refine z_getN hx hb htb inw_L hown hK hM h12 rfl 1 (by decide) (va_Nw.use rfl (hG.2.1 _ t_427)) (fun _ h9 => h9) ev13 dA_closeAlarm_58 ?_
    refine lv_if_ne (tgt := 73) hx hb dA_closeAlarm_61 (by decide) (fun hq => ?_) (fun hq => ?_)
    · have hw := hw.2 hq
      refine vx_ret ?_
      refine W.widen (k := mcT) (n := msT) (by omega) (by omega) ?_
      exact W.vret hx hb hr (fun t ht hW => ⟨⟨_, rfl, hw, zB_of ht hM⟩, hS.F ht⟩) hS.2.2 dA_closeAlarm_73
    · have hw := hw.1 hq
      refine lv_aload_n hx hb dA_closeAlarm_64 rfl (lv_at hl 0 rfl) ?_
      refine lv_aload_n hx hb dA_closeAlarm_65 rfl (lv_at hl 3 rfl) ?_
      obtain ⟨fs15, v14, h16, ev17, hw⟩ := hw
      refine z_getN hx hb htb inw_G hown hK hM h16 rfl 2 (by decide) (va_Nw.use rfl (hG.2.1 _ t_190)) (fun _ h9 => h9) ev17 dA_closeAlarm_66 ?_
      refine lv_iload_n hx hb dA_closeAlarm_69 rfl (lv_at hl 1 rfl) ?_
      obtain ⟨⟨fs21, h22⟩, hw⟩ := hw
      obtain ⟨mc19, ms20, hbmc19, hbms20, hw⟩ := hw
      refine vx_callv (vx_runV (As := [.int v14, .int l1]) (rest := []) ⟨hx, hb, hml, hown, htb⟩ (k_A_raiseSecond (l := l) (D := D) (tc := tc) (A := A) hst hw) (cw_A_262 htb ⟨Nat.le_of_ble_eq_true rfl, Nat.le_of_ble_eq_true rfl⟩) (z_preV hG hA hS hM h22 rfl) rfl rfl hl.1 rfl (lv_room (Nat.le_of_ble_eq_true rfl)) dA_closeAlarm_70 ⟨show cells + mc19 ≤ mcT by omega, show slots + ms20 ≤ msT by omega⟩) hS (fun _ _ h => h) (fun _ h => h) (fun _ _ h => h) (fun E9 ce9 q9 u9 t9 H locs ht hvm hw hB _ _ hS hce hcv hcl => z_out (fun x9 hx9 => (hex x9 hx9).elim) hlk hce hcv hcl ht hB hS hw (show cells + mc19 ≤ mcT by omega) (show slots + ms20 ≤ msT by omega)) (fun M18 t H locs ht hvm hw hB _ _ hS => ?_)
      have hM : zP D vwCl tc A M18 H := by rw [← ht]; exact hB
      refine vx_ret ?_
      refine W.widen (k := mcT) (n := msT) (by omega) (by omega) ?_
      exact W.vret hx hb hr (fun t ht hW => ⟨⟨_, rfl, hw, zB_of ht hM⟩, hS.F ht⟩) hS.2.2 dA_closeAlarm_73
def w_A_closeAlarm (e0 : Nat) (post : zM → Prop) (px : String → zM → Prop) (mc : Nat) (ms : Nat) (M : zM) (h0 : Nat) (x1 : Int32) : Prop := wIs M h0 0 ∧ ∃ mc2 ms3 : Nat, mc2 ≤ mc ∧ ms3 ≤ ms ∧ w_A_alarmOf e0 (fun r4 M1 => wSm r4 (fun a5 => wGI M1 a5 1 0 (fun v6 => wIs M1 h0 0 ∧ ∃ mc11 ms12 : Nat, mc11 ≤ (mc - mc2) ∧ ms12 ≤ (ms - ms3) ∧ w_A_groupOf e0 (fun r13 M10 => wSm r13 (fun a14 => wGI M10 a5 1 3 (fun v15 => wPF M10 h0 0 3 (.int v15) (fun M22 => wIs M22 a5 1 ∧ w_L_comingPersons e0 (fun r24 M23 => wGI M23 a14 2 0 (fun v25 => ((r24 < v25) → w_A_closeAlarm_j40 e0 post px ((mc - mc2) - mc11) ((ms - ms3) - ms12) M23 h0 x1 a5 a14 2 a5) ∧ (¬ (r24 < v25) → w_A_closeAlarm_j40 e0 post px ((mc - mc2) - mc11) ((ms - ms3) - ms12) M23 h0 x1 a5 a14 1 a5))) M22 a5)))) px mc11 ms12 M1 h0 v6))) px mc2 ms3 M h0 x1
set_option maxHeartbeats 4000000 in
set_option maxRecDepth 100000 in
theorem k_A_closeAlarm {l : Launch} {D : va_G} {tc : Nat → ClassId} {A : Nat → Prop} {mc ms : Nat} {post : zM → Prop} {px : String → zM → Prop} {M : zM} {h0 : Nat} {x1 : Int32} (hst : l.stackTraces = false) (hw : w_A_closeAlarm (tc 9) post px mc ms M h0 x1) : vx_Met l yA_closeAlarm (.code yA_closeAlarm cA_closeAlarm 4 none :: zTB) (r_A_closeAlarm mc ms) (va_Pc [.ref h0, .int x1] (zI D tc A M)) (va_Qv post (zB D tc A) A) (zX D tc A px) mc ms A := by
  refine vx_ofW (cc := cA_closeAlarm) (maxL := 4) (ret := none) (by decide) rfl ?_
  intro p e s m args below meth c s₁ B hml ht9 hv
  obtain ⟨rfl, hA, hM, hG⟩ := hv
  have C0 := zC_of (D := D) (tc := tc) (A := A) B hml ht9 hA hG
  obtain ⟨hx, hb, hml, hr, hown, htb, hlk, hA, hG, hin, hex⟩ := id C0
  have hK := hG.1
  have hS : va_S A s.heap s.heap [] := va_S.rf
  have hl := lv_entry ([.ref h0, .int x1]) (n := 4) (Nat.le_of_ble_eq_true rfl)
  rw [lg_entry_eq]
  generalize (lg_sl ([.ref h0, .int x1]) ++ List.replicate (4 - (lg_sl ([.ref h0, .int x1])).length) Slot.unset).toArray = ls at hl ⊢
  have hl : lv_has ls 4 [(0, .ref h0), (1, .int x1)] := hl
  refine lv_aload_n hx hb dA_closeAlarm_0 rfl (lv_at hl 0 rfl) ?_
  refine lv_iload_n hx hb dA_closeAlarm_1 rfl (lv_at hl 1 rfl) ?_
  obtain ⟨⟨fs33, h34⟩, hw⟩ := hw
  obtain ⟨mc2, ms3, hbmc2, hbms3, hw⟩ := hw
  refine zx_callq (vx_runV (As := [.int x1]) (rest := []) ⟨hx, hb, hml, hown, htb⟩ (k_A_alarmOf (l := l) (D := D) (tc := tc) (A := A) hst hw) (cw_A_102 htb ⟨Nat.le_of_ble_eq_true rfl, Nat.le_of_ble_eq_true rfl⟩) (z_preV hG hA hS hM h34 rfl) rfl rfl hl.1 rfl (lv_room (Nat.le_of_ble_eq_true rfl)) dA_closeAlarm_2 ⟨show 0 + mc2 ≤ mc by omega, show 0 + ms3 ≤ ms by omega⟩) hS (fun _ _ h => h) (fun _ h => h) (fun _ _ h => h) (fun E9 ce9 q9 u9 t9 H locs ht hvm hw hB _ _ hS hce hcv hcl => z_out (fun x9 hx9 => (hex x9 hx9).elim) hlk hce hcv hcl ht hB hS hw (show 0 + mc2 ≤ mc by omega) (show 0 + ms3 ≤ ms by omega)) (fun r4 M1 t H locs ht hvm hw hB _ _ hS => ?_)
  have hM : zP D vwCl tc A M1 H := by rw [← ht]; exact hB
  obtain ⟨a5, rfl, hw⟩ := hw
  refine lv_astore_n (lv' := [(2, .ref a5), (0, .ref h0), (1, .int x1)]) hx hb dA_closeAlarm_5 rfl hl (by decide) rfl (fun ls hl => ?_)
  refine lv_aload_n hx hb dA_closeAlarm_6 rfl (lv_at hl 1 rfl) ?_
  refine lv_aload_n hx hb dA_closeAlarm_7 rfl (lv_at hl 0 rfl) ?_
  obtain ⟨fs7, v6, h8, ev9, hw⟩ := hw
  refine z_getN hx hb htb inw_L hown hK hM h8 rfl 0 (by decide) (va_Nw.use rfl (hG.2.1 _ t_425)) (fun _ h9 => h9) ev9 dA_closeAlarm_8 ?_
  obtain ⟨⟨fs31, h32⟩, hw⟩ := hw
  obtain ⟨mc11, ms12, hbmc11, hbms12, hw⟩ := hw
  refine zx_callq (vx_runV (As := [.int v6]) (rest := []) ⟨hx, hb, hml, hown, htb⟩ (k_A_groupOf (l := l) (D := D) (tc := tc) (A := A) hst hw) (cw_A_49 htb ⟨Nat.le_of_ble_eq_true rfl, Nat.le_of_ble_eq_true rfl⟩) (z_preV hG hA hS hM h32 rfl) rfl rfl hl.1 rfl (lv_room (Nat.le_of_ble_eq_true rfl)) dA_closeAlarm_11 ⟨show (0 + mc2) + mc11 ≤ mc by omega, show (0 + ms3) + ms12 ≤ ms by omega⟩) hS (fun _ _ h => h) (fun _ h => h) (fun _ _ h => h) (fun E9 ce9 q9 u9 t9 H locs ht hvm hw hB _ _ hS hce hcv hcl => z_out (fun x9 hx9 => (hex x9 hx9).elim) hlk hce hcv hcl ht hB hS hw (show (0 + mc2) + mc11 ≤ mc by omega) (show (0 + ms3) + ms12 ≤ ms by omega)) (fun r13 M10 t H locs ht hvm hw hB _ _ hS => ?_)
  have hM : zP D vwCl tc A M10 H := by rw [← ht]; exact hB
  obtain ⟨a14, rfl, hw⟩ := hw
  refine lv_astore_n (lv' := [(3, .ref a14), (2, .ref a5), (0, .ref h0), (1, .int x1)]) hx hb dA_closeAlarm_14 rfl hl (by decide) rfl (fun ls hl => ?_)
  refine lv_aload_n hx hb dA_closeAlarm_15 rfl (lv_at hl 2 rfl) ?_
  refine lv_aload_n hx hb dA_closeAlarm_16 rfl (lv_at hl 1 rfl) ?_
  obtain ⟨fs16, v15, h17, ev18, hw⟩ := hw
  refine z_getN hx hb htb inw_L hown hK hM h17 rfl 3 (by decide) (va_Nw.use rfl (hG.2.1 _ t_431)) (fun _ h9 => h9) ev18 dA_closeAlarm_17 ?_
  obtain ⟨fs19, h20, hl21, hw⟩ := hw
  refine z_put (ty := .int) hx hb htb inw_A ty_A tyok_A nmok_A hown hK hM hS h20 rfl 3 (by decide) (htb _ t_60) (fun _ h9 => h9) rfl (by decide +kernel) rfl rfl hl21 dA_closeAlarm_20 (fun H locs hM hS => ?_)
  refine lv_aload_n hx hb dA_closeAlarm_23 rfl (lv_at hl 1 rfl) ?_
  refine lv_aload_n hx hb dA_closeAlarm_24 rfl (lv_at hl 1 rfl) ?_
  obtain ⟨⟨fs29, h30⟩, hw⟩ := hw
  refine va_calli (va_runV (As := []) (rest := [.ref a5]) ⟨hx, hb, hml, hown, htb⟩ (k_L_comingPersons (l := l) (D := D) (tc := tc) (A := A) hw) (cw_A_164 htb ⟨Nat.le_of_ble_eq_true rfl, Nat.le_of_ble_eq_true rfl⟩) (z_preV hG hA hS hM h30 rfl) rfl rfl hl.1 rfl (lv_room (Nat.le_of_ble_eq_true rfl)) dA_closeAlarm_25 ⟨show ((0 + mc2) + mc11) + 0 ≤ mc by omega, show ((0 + ms3) + ms12) + 0 ≤ ms by omega⟩) hS (fun _ _ h => h) (fun _ h => h) (fun r24 M23 t H locs ht hvm hw hB _ _ hS => ?_)
  have hM : zP D vwCl tc A M23 H := by rw [← ht]; exact hB
  refine lv_aload_n hx hb dA_closeAlarm_28 rfl (lv_at hl 0 rfl) ?_
  obtain ⟨fs26, v25, h27, ev28, hw⟩ := hw
  refine z_getN hx hb htb inw_G hown hK hM h27 rfl 0 (by decide) (va_Nw.use rfl (hG.2.1 _ t_186)) (fun _ h9 => h9) ev28 dA_closeAlarm_29 ?_
  refine lv_icmp_lt (tgt := 39) hx hb dA_closeAlarm_32 (by decide) (fun hq => ?_) (fun hq => ?_)
  · have hw := hw.1 hq
    refine lv_iconst (v := 2) hx hb dA_closeAlarm_39 (by decide +kernel) ?_
    exact k_A_closeAlarm_j40 C0 hst  _ _ _ _ _ _ _ _ _ _ _ _ _ _ (show ((0 + mc2) + mc11) + ((mc - mc2) - mc11) ≤ mc by omega) (show ((0 + ms3) + ms12) + ((ms - ms3) - ms12) ≤ ms by omega) hM hS (lv_sub hl [2, 3, 1, 0] rfl) hw
  · have hw := hw.2 hq
    refine lv_iconst (v := 1) hx hb dA_closeAlarm_35 (by decide +kernel) ?_
    refine lv_goto (tgt := 40) hx hb dA_closeAlarm_36 (by decide) ?_
    exact k_A_closeAlarm_j40 C0 hst  _ _ _ _ _ _ _ _ _ _ _ _ _ _ (show ((0 + mc2) + mc11) + ((mc - mc2) - mc11) ≤ mc by omega) (show ((0 + ms3) + ms12) + ((ms - ms3) - ms12) ≤ ms by omega) hM hS (lv_sub hl [2, 3, 1, 0] rfl) hw
abbrev r_A_tick (mc ms : Nat) : Room := { frames := 11, cells := mc, slots := ms, locals := 262 }
abbrev J_A_tick_12 (p : Program) (l : Launch) (e : Env) (s : State) (m : MethodId) (args : Array Value) (below : List Frame) (meth : Method) (c : Code) (D : va_G) (tc : Nat → ClassId) (A : Nat → Prop) (mcT msT : Nat) (Q : State → Prop) (K : Nat → Nat → zM → Prop) : Prop := ∀ (mc : Nat) (ms : Nat) (M : zM) (H : Heap) (locs : List Loc) (cells slots : Nat) (ls : Array Slot), cells + mc ≤ mcT → slots + ms ≤ msT → zP D vwCl tc A M H → va_S A s.heap H locs → lv_has ls 6 [] → K mc ms M → W p l e (r_A_tick mcT msT) s m args below meth c H locs cells slots Q (F0 m 12 ls [])
abbrev J_A_tick_93 (p : Program) (l : Launch) (e : Env) (s : State) (m : MethodId) (args : Array Value) (below : List Frame) (meth : Method) (c : Code) (D : va_G) (tc : Nat → ClassId) (A : Nat → Prop) (mcT msT : Nat) (Q : State → Prop) (K : Nat → Nat → zM → Nat → Int32 → Int32 → Prop) : Prop := ∀ (mc : Nat) (ms : Nat) (M : zM) (l0 : Nat) (l2 : Int32) (l3 : Int32) (H : Heap) (locs : List Loc) (cells slots : Nat) (ls : Array Slot), cells + mc ≤ mcT → slots + ms ≤ msT → zP D vwCl tc A M H → va_S A s.heap H locs → lv_has ls 6 [(0, .ref l0), (2, .int l2), (3, .int l3)] → K mc ms M l0 l2 l3 → W p l e (r_A_tick mcT msT) s m args below meth c H locs cells slots Q (F0 m 93 ls [])
abbrev J_A_tick_58 (p : Program) (l : Launch) (e : Env) (s : State) (m : MethodId) (args : Array Value) (below : List Frame) (meth : Method) (c : Code) (D : va_G) (tc : Nat → ClassId) (A : Nat → Prop) (mcT msT : Nat) (Q : State → Prop) (K : Nat → Nat → zM → Nat → Int32 → Int32 → Int32 → Prop) : Prop := ∀ (mc : Nat) (ms : Nat) (M : zM) (l0 : Nat) (l2 : Int32) (l3 : Int32) (l4 : Int32) (H : Heap) (locs : List Loc) (cells slots : Nat) (ls : Array Slot), cells + mc ≤ mcT → slots + ms ≤ msT → zP D vwCl tc A M H → va_S A s.heap H locs → lv_has ls 6 [(0, .ref l0), (2, .int l2), (3, .int l3), (4, .int l4)] → K mc ms M l0 l2 l3 l4 → W p l e (r_A_tick mcT msT) s m args below meth c H locs cells slots Q (F0 m 58 ls [])
def w_A_tick_j12 (e0 : Nat) (post : Int32 → zM → Prop) (px : String → zM → Prop) (mc : Nat) (ms : Nat) (M : zM) : Prop := 1 ≤ mc ∧ 6 ≤ ms ∧ px "java/lang/IndexOutOfBoundsException" M
set_option maxHeartbeats 4000000 in
set_option maxRecDepth 100000 in
theorem k_A_tick_j12 {p : Program} {l : Launch} {e : Env} {s : State} {m : MethodId} {args : Array Value} {below : List Frame} {meth : Method} {c : Code} {D : va_G} {tc : Nat → ClassId} {A : Nat → Prop} {mcT msT : Nat} {post : Int32 → zM → Prop} {px : String → zM → Prop} (C0 : zC R_A cA_tick 6 (some .int) "tick" D tc A p l s m args meth c) (hst : l.stackTraces = false) : J_A_tick_12 p l e s m args below meth c D tc A mcT msT (vx_MQ below (va_Qi post (zB D tc A) A) (zX D tc A px) args s mcT msT A) (w_A_tick_j12 (tc 9) post px) := by
  obtain ⟨hx, hb, hml, hr, hown, htb, hlk, hA, hG, hin, hex⟩ := id C0
  have hK := hG.1
  intro mc ms M H locs cells slots ls hbc hbs hM hS hl hw
  obtain ⟨hbu1, hbu2, hw⟩ := hw
  exact z_throwS (k := 14) hx hb hst hown (by decide +kernel) (htb _ t_88) (htb _ t_9) rfl (th_A_26 htb hG.2.1) thg_A_22_26 hG hS hM (hl.1.trans hml.symm) dA_tick_12 dA_tick_15 dA_tick_16 dA_tick_18 dA_tick_21 (fun x9 hx9 => (hex x9 hx9).elim) (Nat.le_of_ble_eq_true rfl) (Nat.le_of_ble_eq_true rfl) (show cells + 1 ≤ mcT by omega) (show slots + 6 ≤ msT by omega) hlk hw (show cells + 1 ≤ mcT by omega) (show slots + 6 ≤ msT by omega)
def w_A_tick_j93 (e0 : Nat) (post : Int32 → zM → Prop) (px : String → zM → Prop) (mc : Nat) (ms : Nat) (M : zM) (l0 : Nat) (l2 : Int32) (l3 : Int32) : Prop := wPF M l0 0 3 (.int l2) (fun M4 => wGI M4 l0 0 6 (fun v5 => post (v5 - l3) M4))
set_option maxHeartbeats 4000000 in
set_option maxRecDepth 100000 in
theorem k_A_tick_j93 {p : Program} {l : Launch} {e : Env} {s : State} {m : MethodId} {args : Array Value} {below : List Frame} {meth : Method} {c : Code} {D : va_G} {tc : Nat → ClassId} {A : Nat → Prop} {mcT msT : Nat} {post : Int32 → zM → Prop} {px : String → zM → Prop} (C0 : zC R_A cA_tick 6 (some .int) "tick" D tc A p l s m args meth c) (hst : l.stackTraces = false) : J_A_tick_93 p l e s m args below meth c D tc A mcT msT (vx_MQ below (va_Qi post (zB D tc A) A) (zX D tc A px) args s mcT msT A) (w_A_tick_j93 (tc 9) post px) := by
  obtain ⟨hx, hb, hml, hr, hown, htb, hlk, hA, hG, hin, hex⟩ := id C0
  have hK := hG.1
  intro mc ms M l0 l2 l3 H locs cells slots ls hbc hbs hM hS hl hw
  refine lv_aload_n hx hb dA_tick_93 rfl (lv_at hl 0 rfl) ?_
  refine lv_iload_n hx hb dA_tick_94 rfl (lv_at hl 1 rfl) ?_
  obtain ⟨fs1, h2, hl3, hw⟩ := hw
  refine z_put (ty := .int) hx hb htb inw_A ty_A tyok_A nmok_A hown hK hM hS h2 rfl 3 (by decide) (htb _ t_60) (fun _ h9 => h9) rfl (by decide +kernel) rfl rfl hl3 dA_tick_95 (fun H locs hM hS => ?_)
  refine lv_aload_n hx hb dA_tick_98 rfl (lv_at hl 0 rfl) ?_
  obtain ⟨fs6, v5, h7, ev8, hw⟩ := hw
  refine z_get hx hb htb inw_A hown hK hM h7 rfl 6 (by decide) (htb _ t_63) (fun _ h9 => h9) ev8 dA_tick_99 ?_
  refine lv_iload_n hx hb dA_tick_102 rfl (lv_at hl 2 rfl) ?_
  refine lv_isub hx hb dA_tick_103 ?_
  refine vx_ret ?_
  refine W.widen (k := mcT) (n := msT) (by omega) (by omega) ?_
  exact W.iret hx hb hr (fun t ht hW => ⟨⟨_, _, rfl, hw, zB_of ht hM⟩, hS.F ht⟩) hS.2.2 dA_tick_104
def w_A_tick_j58 (e0 : Nat) (post : Int32 → zM → Prop) (px : String → zM → Prop) : Nat → Nat → Nat → zM → Nat → Int32 → Int32 → Int32 → Prop
  | 0 => fun _ _ _ _ _ _ _ => False
  | n + 1 => fun mc ms M l0 l2 l3 l4 => ((60 ≤ l4) → w_A_tick_j93 e0 post px mc ms M l0 l2 l3) ∧ (¬ (60 ≤ l4) → wIs M l0 0 ∧ w_A_firstDue e0 (fun r2 M1 => ((r2 = (-1)) → w_A_tick_j93 e0 post px mc ms M1 l0 l2 l3) ∧ (¬ (r2 = (-1)) → wIs M1 l0 0 ∧ ∃ mc4 ms5 : Nat, mc4 ≤ mc ∧ ms5 ≤ ms ∧ w_A_closeAlarm e0 (fun M3 => w_A_tick_j58 e0 post px n (mc - mc4) (ms - ms5) M3 l0 l2 l3 (l4 + 1)) px mc4 ms5 M1 l0 r2)) M l0 l2)
set_option maxHeartbeats 4000000 in
set_option maxRecDepth 100000 in
theorem k_A_tick_j58 {p : Program} {l : Launch} {e : Env} {s : State} {m : MethodId} {args : Array Value} {below : List Frame} {meth : Method} {c : Code} {D : va_G} {tc : Nat → ClassId} {A : Nat → Prop} {mcT msT : Nat} {post : Int32 → zM → Prop} {px : String → zM → Prop} (C0 : zC R_A cA_tick 6 (some .int) "tick" D tc A p l s m args meth c) (hst : l.stackTraces = false) : ∀ n : Nat, J_A_tick_58 p l e s m args below meth c D tc A mcT msT (vx_MQ below (va_Qi post (zB D tc A) A) (zX D tc A px) args s mcT msT A) (w_A_tick_j58 (tc 9) post px n) := by
  obtain ⟨hx, hb, hml, hr, hown, htb, hlk, hA, hG, hin, hex⟩ := id C0
  have hK := hG.1
  intro n
  induction n with
  | zero => intro mc ms M l0 l2 l3 l4 H locs cells slots ls hbc hbs hM hS hl hw; exact hw.elim
  | succ n ih =>
    intro mc ms M l0 l2 l3 l4 H locs cells slots ls hbc hbs hM hS hl hw
    refine lv_iload hx hb dA_tick_58 (lv_at hl 3 rfl) ?_
    refine lv_bipush (v := 60) hx hb dA_tick_60 (by decide +kernel) ?_
    refine lv_icmp_ge (tgt := 93) hx hb dA_tick_62 (by decide) (fun hq => ?_) (fun hq => ?_)
    · have hw := hw.1 hq
      exact k_A_tick_j93 C0 hst  _ _ _ _ _ _ _ _ _ _ _ (show cells + mc ≤ mcT by omega) (show slots + ms ≤ msT by omega) hM hS (lv_sub hl [0, 1, 2] rfl) hw
    · have hw := hw.2 hq
      refine lv_aload_n hx hb dA_tick_65 rfl (lv_at hl 0 rfl) ?_
      refine lv_iload_n hx hb dA_tick_66 rfl (lv_at hl 1 rfl) ?_
      obtain ⟨⟨fs8, h9⟩, hw⟩ := hw
      refine va_calli (va_runV (As := [.int l2]) (rest := []) ⟨hx, hb, hml, hown, htb⟩ (k_A_firstDue (l := l) (D := D) (tc := tc) (A := A) hw) (cw_A_148 htb ⟨Nat.le_of_ble_eq_true rfl, Nat.le_of_ble_eq_true rfl⟩) (z_preV hG hA hS hM h9 rfl) rfl rfl hl.1 rfl (lv_room (Nat.le_of_ble_eq_true rfl)) dA_tick_67 ⟨show cells + 0 ≤ mcT by omega, show slots + 0 ≤ msT by omega⟩) hS (fun _ _ h => h) (fun _ h => h) (fun r2 M1 t H locs ht hvm hw hB _ _ hS => ?_)
      have hM : zP D vwCl tc A M1 H := by rw [← ht]; exact hB
      refine lv_istore (lv' := [(5, .int r2), (0, .ref l0), (2, .int l2), (3, .int l3), (4, .int l4)]) hx hb dA_tick_70 hl (by decide) rfl (fun ls hl => ?_)
      refine lv_iload hx hb dA_tick_72 (lv_at hl 0 rfl) ?_
      refine lv_iconst (v := (-1)) hx hb dA_tick_74 (by decide +kernel) ?_
      refine lv_icmp_ne (tgt := 81) hx hb dA_tick_75 (by decide) (fun hq => ?_) (fun hq => ?_)
      · have hw := hw.2 hq
        refine lv_aload_n hx hb dA_tick_81 rfl (lv_at hl 1 rfl) ?_
        refine lv_iload hx hb dA_tick_82 (lv_at hl 0 rfl) ?_
        obtain ⟨⟨fs6, h7⟩, hw⟩ := hw
        obtain ⟨mc4, ms5, hbmc4, hbms5, hw⟩ := hw
        refine vx_callv (vx_runV (As := [.int r2]) (rest := []) ⟨hx, hb, hml, hown, htb⟩ (k_A_closeAlarm (l := l) (D := D) (tc := tc) (A := A) hst hw) (cw_A_152 htb ⟨Nat.le_of_ble_eq_true rfl, Nat.le_of_ble_eq_true rfl⟩) (z_preV hG hA hS hM h7 rfl) rfl rfl hl.1 rfl (lv_room (Nat.le_of_ble_eq_true rfl)) dA_tick_84 ⟨show cells + mc4 ≤ mcT by omega, show slots + ms5 ≤ msT by omega⟩) hS (fun _ _ h => h) (fun _ h => h) (fun _ _ h => h) (fun E9 ce9 q9 u9 t9 H locs ht hvm hw hB _ _ hS hce hcv hcl => z_out (fun x9 hx9 => (hex x9 hx9).elim) hlk hce hcv hcl ht hB hS hw (show cells + mc4 ≤ mcT by omega) (show slots + ms5 ≤ msT by omega)) (fun M3 t H locs ht hvm hw hB _ _ hS => ?_)
        have hM : zP D vwCl tc A M3 H := by rw [← ht]; exact hB
        refine lv_iinc (v := (l4 + 1)) (lv' := [(4, .int (l4 + 1)), (5, .int r2), (0, .ref l0), (2, .int l2), (3, .int l3)]) hx hb dA_tick_87 hl (k := 4) rfl rfl (by decide) rfl (fun ls hl => ?_)
        refine lv_goto (tgt := 58) hx hb dA_tick_90 (by decide) ?_
        exact ih _ _ _ _ _ _ _ _ _ _ _ _ (show (cells + mc4) + (mc - mc4) ≤ mcT by omega) (show (slots + ms5) + (ms - ms5) ≤ msT by omega) hM hS (lv_sub hl [2, 3, 4, 0] rfl) hw
      · have hw := hw.1 hq
        refine lv_goto (tgt := 93) hx hb dA_tick_78 (by decide) ?_
        exact k_A_tick_j93 C0 hst  _ _ _ _ _ _ _ _ _ _ _ (show cells + mc ≤ mcT by omega) (show slots + ms ≤ msT by omega) hM hS (lv_sub hl [1, 2, 3] rfl) hw
def w_A_tick (e0 : Nat) (post : Int32 → zM → Prop) (px : String → zM → Prop) (mc : Nat) (ms : Nat) (M : zM) (h0 : Nat) (x1 : Int32) : Prop := ((x1 < 1) → w_A_tick_j12 e0 post px mc ms M) ∧ (¬ (x1 < 1) → ((x1 ≤ 5000) → wGI M h0 0 3 (fun v1 => ((x1 ≤ (999999 - v1)) → wGI M h0 0 3 (fun v5 => wGI M h0 0 6 (fun v9 => ∃ nn, w_A_tick_j58 e0 post px nn mc ms M h0 (v5 + x1) v9 0))) ∧ (¬ (x1 ≤ (999999 - v1)) → 1 ≤ mc ∧ 6 ≤ ms ∧ px "java/lang/IndexOutOfBoundsException" M))) ∧ (¬ (x1 ≤ 5000) → w_A_tick_j12 e0 post px mc ms M))
set_option maxHeartbeats 4000000 in
set_option maxRecDepth 100000 in
theorem k_A_tick {l : Launch} {D : va_G} {tc : Nat → ClassId} {A : Nat → Prop} {mc ms : Nat} {post : Int32 → zM → Prop} {px : String → zM → Prop} {M : zM} {h0 : Nat} {x1 : Int32} (hst : l.stackTraces = false) (hw : w_A_tick (tc 9) post px mc ms M h0 x1) : vx_Met l yA_tick (.code yA_tick cA_tick 6 (some .int) :: zTB) (r_A_tick mc ms) (va_Pc [.ref h0, .int x1] (zI D tc A M)) (va_Qi post (zB D tc A) A) (zX D tc A px) mc ms A := by
  refine vx_ofW (cc := cA_tick) (maxL := 6) (ret := (some .int)) (by decide) rfl ?_
  intro p e s m args below meth c s₁ B hml ht9 hv
  obtain ⟨rfl, hA, hM, hG⟩ := hv
  have C0 := zC_of (D := D) (tc := tc) (A := A) B hml ht9 hA hG
  obtain ⟨hx, hb, hml, hr, hown, htb, hlk, hA, hG, hin, hex⟩ := id C0
  have hK := hG.1
  have hS : va_S A s.heap s.heap [] := va_S.rf
  have hl := lv_entry ([.ref h0, .int x1]) (n := 6) (Nat.le_of_ble_eq_true rfl)
  rw [lg_entry_eq]
  generalize (lg_sl ([.ref h0, .int x1]) ++ List.replicate (6 - (lg_sl ([.ref h0, .int x1])).length) Slot.unset).toArray = ls at hl ⊢
  have hl : lv_has ls 6 [(0, .ref h0), (1, .int x1)] := hl
  refine lv_iload_n hx hb dA_tick_0 rfl (lv_at hl 1 rfl) ?_
  refine lv_iconst (v := 1) hx hb dA_tick_1 (by decide +kernel) ?_
  refine lv_icmp_lt (tgt := 12) hx hb dA_tick_2 (by decide) (fun hq => ?_) (fun hq => ?_)
  · have hw := hw.1 hq
    exact k_A_tick_j12 C0 hst  _ _ _  _ _ _ _ _ (show 0 + mc ≤ mc by omega) (show 0 + ms ≤ ms by omega) hM hS (lv_sub hl [] rfl) hw
  · have hw := hw.2 hq
    refine lv_iload_n hx hb dA_tick_5 rfl (lv_at hl 1 rfl) ?_
    refine lv_sipush (v := 5000) hx hb dA_tick_6 (by decide +kernel) ?_
    refine lv_icmp_le (tgt := 22) hx hb dA_tick_9 (by decide) (fun hq => ?_) (fun hq => ?_)
    · have hw := hw.1 hq
      refine lv_iload_n hx hb dA_tick_22 rfl (lv_at hl 1 rfl) ?_
      refine lv_ldc (v := 999999) hx hb hown (htb _ t_514) dA_tick_23 ?_
      refine lv_aload_n hx hb dA_tick_25 rfl (lv_at hl 0 rfl) ?_
      obtain ⟨fs2, v1, h3, ev4, hw⟩ := hw
      refine z_get hx hb htb inw_A hown hK hM h3 rfl 3 (by decide) (htb _ t_60) (fun _ h9 => h9) ev4 dA_tick_26 ?_
      refine lv_isub hx hb dA_tick_29 ?_
      refine lv_icmp_le (tgt := 43) hx hb dA_tick_30 (by decide) (fun hq => ?_) (fun hq => ?_)
      · have hw := hw.1 hq
        refine lv_aload_n hx hb dA_tick_43 rfl (lv_at hl 0 rfl) ?_
        obtain ⟨fs6, v5, h7, ev8, hw⟩ := hw
        refine z_get hx hb htb inw_A hown hK hM h7 rfl 3 (by decide) (htb _ t_60) (fun _ h9 => h9) ev8 dA_tick_44 ?_
        refine lv_iload_n hx hb dA_tick_47 rfl (lv_at hl 1 rfl) ?_
        refine lv_iadd hx hb dA_tick_48 ?_
        refine lv_istore_n (lv' := [(2, .int (v5 + x1)), (0, .ref h0), (1, .int x1)]) hx hb dA_tick_49 rfl hl (by decide) rfl (fun ls hl => ?_)
        refine lv_aload_n hx hb dA_tick_50 rfl (lv_at hl 1 rfl) ?_
        obtain ⟨fs10, v9, h11, ev12, hw⟩ := hw
        refine z_get hx hb htb inw_A hown hK hM h11 rfl 6 (by decide) (htb _ t_63) (fun _ h9 => h9) ev12 dA_tick_51 ?_
        refine lv_istore_n (lv' := [(3, .int v9), (2, .int (v5 + x1)), (0, .ref h0), (1, .int x1)]) hx hb dA_tick_54 rfl hl (by decide) rfl (fun ls hl => ?_)
        refine lv_iconst (v := 0) hx hb dA_tick_55 (by decide +kernel) ?_
        refine lv_istore (lv' := [(4, .int 0), (3, .int v9), (2, .int (v5 + x1)), (0, .ref h0), (1, .int x1)]) hx hb dA_tick_56 hl (by decide) rfl (fun ls hl => ?_)
        obtain ⟨nfu, hw⟩ := hw
        exact k_A_tick_j58 C0 hst  nfu _ _ _ _ _ _ _ _ _ _ _ _ (show 0 + mc ≤ mc by omega) (show 0 + ms ≤ ms by omega) hM hS (lv_sub hl [3, 2, 1, 0] rfl) hw
      · have hw := hw.2 hq
        obtain ⟨hbu1, hbu2, hw⟩ := hw
        exact z_throwS (k := 15) hx hb hst hown (by decide +kernel) (htb _ t_88) (htb _ t_9) rfl (th_A_26 htb hG.2.1) thg_A_22_26 hG hS hM (hl.1.trans hml.symm) dA_tick_33 dA_tick_36 dA_tick_37 dA_tick_39 dA_tick_42 (fun x9 hx9 => (hex x9 hx9).elim) (Nat.le_of_ble_eq_true rfl) (Nat.le_of_ble_eq_true rfl) (show 0 + 1 ≤ mc by omega) (show 0 + 6 ≤ ms by omega) hlk hw (show 0 + 1 ≤ mc by omega) (show 0 + 6 ≤ ms by omega)
    · have hw := hw.2 hq
      exact k_A_tick_j12 C0 hst  _ _ _  _ _ _ _ _ (show 0 + mc ≤ mc by omega) (show 0 + ms ≤ ms by omega) hM hS (lv_sub hl [] rfl) hw
abbrev r_A_alarmAt (mc ms : Nat) : Room := { frames := 8, cells := mc, slots := ms, locals := 132 }
def w_A_alarmAt (e0 : Nat) (post : Int32 → zM → Prop) (px : String → zM → Prop) (mc : Nat) (ms : Nat) (M : zM) (h0 : Nat) (x1 : Int32) (x2 : Int32) : Prop := wIs M h0 0 ∧ ∃ mc2 ms3 : Nat, mc2 ≤ mc ∧ ms3 ≤ ms ∧ w_A_alarmOf e0 (fun r4 M1 => wSm r4 (fun a5 => (x2 = 0 → wGI M1 a5 1 7 (fun v6 => post v6 M1)) ∧ (x2 = 1 → wIs M1 a5 1 ∧ w_L_askedPersons e0 (fun r11 M10 => post r11 M10) M1 a5) ∧ (x2 = 2 → wIs M1 a5 1 ∧ w_L_reachedPersons e0 (fun r15 M14 => post r15 M14) M1 a5) ∧ (x2 = 3 → wIs M1 a5 1 ∧ w_L_answeredPersons e0 (fun r19 M18 => post r19 M18) M1 a5) ∧ (x2 = 4 → wIs M1 a5 1 ∧ w_L_comingPersons e0 (fun r23 M22 => post r23 M22) M1 a5) ∧ (x2 = 5 → wGI M1 a5 1 4 (fun v26 => post v26 M1)) ∧ (x2 = 6 → wGI M1 a5 1 2 (fun v30 => post v30 M1)) ∧ (¬ x2 = 0 → ¬ x2 = 1 → ¬ x2 = 2 → ¬ x2 = 3 → ¬ x2 = 4 → ¬ x2 = 5 → ¬ x2 = 6 → 1 ≤ (mc - mc2) ∧ 6 ≤ (ms - ms3) ∧ px "java/lang/IllegalArgumentException" M1))) px mc2 ms3 M h0 x1
set_option maxHeartbeats 4000000 in
set_option maxRecDepth 100000 in
theorem k_A_alarmAt {l : Launch} {D : va_G} {tc : Nat → ClassId} {A : Nat → Prop} {mc ms : Nat} {post : Int32 → zM → Prop} {px : String → zM → Prop} {M : zM} {h0 : Nat} {x1 : Int32} {x2 : Int32} (hst : l.stackTraces = false) (hw : w_A_alarmAt (tc 9) post px mc ms M h0 x1 x2) : vx_Met l yA_alarmAt (.code yA_alarmAt cA_alarmAt 4 (some .int) :: zTB) (r_A_alarmAt mc ms) (va_Pc [.ref h0, .int x1, .int x2] (zI D tc A M)) (va_Qi post (zB D tc A) A) (zX D tc A px) mc ms A := by
  refine vx_ofW (cc := cA_alarmAt) (maxL := 4) (ret := (some .int)) (by decide) rfl ?_
  intro p e s m args below meth c s₁ B hml ht9 hv
  obtain ⟨rfl, hA, hM, hG⟩ := hv
  have C0 := zC_of (D := D) (tc := tc) (A := A) B hml ht9 hA hG
  obtain ⟨hx, hb, hml, hr, hown, htb, hlk, hA, hG, hin, hex⟩ := id C0
  have hK := hG.1
  have hS : va_S A s.heap s.heap [] := va_S.rf
  have hl := lv_entry ([.ref h0, .int x1, .int x2]) (n := 4) (Nat.le_of_ble_eq_true rfl)
  rw [lg_entry_eq]
  generalize (lg_sl ([.ref h0, .int x1, .int x2]) ++ List.replicate (4 - (lg_sl ([.ref h0, .int x1, .int x2])).length) Slot.unset).toArray = ls at hl ⊢
  have hl : lv_has ls 4 [(0, .ref h0), (1, .int x1), (2, .int x2)] := hl
  refine lv_aload_n hx hb dA_alarmAt_0 rfl (lv_at hl 0 rfl) ?_
  refine lv_iload_n hx hb dA_alarmAt_1 rfl (lv_at hl 1 rfl) ?_
  obtain ⟨⟨fs34, h35⟩, hw⟩ := hw
  obtain ⟨mc2, ms3, hbmc2, hbms3, hw⟩ := hw
  refine zx_callq (vx_runV (As := [.int x1]) (rest := []) ⟨hx, hb, hml, hown, htb⟩ (k_A_alarmOf (l := l) (D := D) (tc := tc) (A := A) hst hw) (cw_A_102 htb ⟨Nat.le_of_ble_eq_true rfl, Nat.le_of_ble_eq_true rfl⟩) (z_preV hG hA hS hM h35 rfl) rfl rfl hl.1 rfl (lv_room (Nat.le_of_ble_eq_true rfl)) dA_alarmAt_2 ⟨show 0 + mc2 ≤ mc by omega, show 0 + ms3 ≤ ms by omega⟩) hS (fun _ _ h => h) (fun _ h => h) (fun _ _ h => h) (fun E9 ce9 q9 u9 t9 H locs ht hvm hw hB _ _ hS hce hcv hcl => z_out (fun x9 hx9 => (hex x9 hx9).elim) hlk hce hcv hcl ht hB hS hw (show 0 + mc2 ≤ mc by omega) (show 0 + ms3 ≤ ms by omega)) (fun r4 M1 t H locs ht hvm hw hB _ _ hS => ?_)
  have hM : zP D vwCl tc A M1 H := by rw [← ht]; exact hB
  obtain ⟨a5, rfl, hw⟩ := hw
  refine lv_astore_n (lv' := [(3, .ref a5), (0, .ref h0), (1, .int x1), (2, .int x2)]) hx hb dA_alarmAt_5 rfl hl (by decide) rfl (fun ls hl => ?_)
  refine lv_iload_n hx hb dA_alarmAt_6 rfl (lv_at hl 3 rfl) ?_
  rcases Classical.em (x2 = 0) with hq0 | hq0
  · have hw := hw.1 hq0
    refine lv_tableIn (off := 41) (tgt := 48) hx hb dA_alarmAt_7 (by rw [hq0]; decide) (by rw [hq0]; decide) (by rw [hq0]; rfl) (by decide) ?_
    refine lv_aload_n hx hb dA_alarmAt_48 rfl (lv_at hl 0 rfl) ?_
    obtain ⟨fs7, v6, h8, ev9, hw⟩ := hw
    refine z_getN hx hb htb inw_L hown hK hM h8 rfl 7 (by decide) (va_Nw.use rfl (hG.2.1 _ t_437)) (fun _ h9 => h9) ev9 dA_alarmAt_49 ?_
    refine vx_ret ?_
    refine W.widen (k := mc) (n := ms) (by omega) (by omega) ?_
    exact W.iret hx hb hr (fun t ht hW => ⟨⟨_, _, rfl, hw, zB_of ht hM⟩, hS.F ht⟩) hS.2.2 dA_alarmAt_52
  rcases Classical.em (x2 = 1) with hq1 | hq1
  · have hw := hw.2.1 hq1
    refine lv_tableIn (off := 46) (tgt := 53) hx hb dA_alarmAt_7 (by rw [hq1]; decide) (by rw [hq1]; decide) (by rw [hq1]; rfl) (by decide) ?_
    refine lv_aload_n hx hb dA_alarmAt_53 rfl (lv_at hl 0 rfl) ?_
    obtain ⟨⟨fs12, h13⟩, hw⟩ := hw
    refine va_calli (va_runV (As := []) (rest := []) ⟨hx, hb, hml, hown, htb⟩ (k_L_askedPersons (l := l) (D := D) (tc := tc) (A := A) hw) (cw_A_155 htb ⟨Nat.le_of_ble_eq_true rfl, Nat.le_of_ble_eq_true rfl⟩) (z_preV hG hA hS hM h13 rfl) rfl rfl hl.1 rfl (lv_room (Nat.le_of_ble_eq_true rfl)) dA_alarmAt_54 ⟨show (0 + mc2) + 0 ≤ mc by omega, show (0 + ms3) + 0 ≤ ms by omega⟩) hS (fun _ _ h => h) (fun _ h => h) (fun r11 M10 t H locs ht hvm hw hB _ _ hS => ?_)
    have hM : zP D vwCl tc A M10 H := by rw [← ht]; exact hB
    refine vx_ret ?_
    refine W.widen (k := mc) (n := ms) (by omega) (by omega) ?_
    exact W.iret hx hb hr (fun t ht hW => ⟨⟨_, _, rfl, hw, zB_of ht hM⟩, hS.F ht⟩) hS.2.2 dA_alarmAt_57
  rcases Classical.em (x2 = 2) with hq2 | hq2
  · have hw := hw.2.2.1 hq2
    refine lv_tableIn (off := 51) (tgt := 58) hx hb dA_alarmAt_7 (by rw [hq2]; decide) (by rw [hq2]; decide) (by rw [hq2]; rfl) (by decide) ?_
    refine lv_aload_n hx hb dA_alarmAt_58 rfl (lv_at hl 0 rfl) ?_
    obtain ⟨⟨fs16, h17⟩, hw⟩ := hw
    refine va_calli (va_runV (As := []) (rest := []) ⟨hx, hb, hml, hown, htb⟩ (k_L_reachedPersons (l := l) (D := D) (tc := tc) (A := A) hw) (cw_A_158 htb ⟨Nat.le_of_ble_eq_true rfl, Nat.le_of_ble_eq_true rfl⟩) (z_preV hG hA hS hM h17 rfl) rfl rfl hl.1 rfl (lv_room (Nat.le_of_ble_eq_true rfl)) dA_alarmAt_59 ⟨show (0 + mc2) + 0 ≤ mc by omega, show (0 + ms3) + 0 ≤ ms by omega⟩) hS (fun _ _ h => h) (fun _ h => h) (fun r15 M14 t H locs ht hvm hw hB _ _ hS => ?_)
    have hM : zP D vwCl tc A M14 H := by rw [← ht]; exact hB
    refine vx_ret ?_
    refine W.widen (k := mc) (n := ms) (by omega) (by omega) ?_
    exact W.iret hx hb hr (fun t ht hW => ⟨⟨_, _, rfl, hw, zB_of ht hM⟩, hS.F ht⟩) hS.2.2 dA_alarmAt_62
  rcases Classical.em (x2 = 3) with hq3 | hq3
  · have hw := hw.2.2.2.1 hq3
    refine lv_tableIn (off := 56) (tgt := 63) hx hb dA_alarmAt_7 (by rw [hq3]; decide) (by rw [hq3]; decide) (by rw [hq3]; rfl) (by decide) ?_
    refine lv_aload_n hx hb dA_alarmAt_63 rfl (lv_at hl 0 rfl) ?_
    obtain ⟨⟨fs20, h21⟩, hw⟩ := hw
    refine va_calli (va_runV (As := []) (rest := []) ⟨hx, hb, hml, hown, htb⟩ (k_L_answeredPersons (l := l) (D := D) (tc := tc) (A := A) hw) (cw_A_161 htb ⟨Nat.le_of_ble_eq_true rfl, Nat.le_of_ble_eq_true rfl⟩) (z_preV hG hA hS hM h21 rfl) rfl rfl hl.1 rfl (lv_room (Nat.le_of_ble_eq_true rfl)) dA_alarmAt_64 ⟨show (0 + mc2) + 0 ≤ mc by omega, show (0 + ms3) + 0 ≤ ms by omega⟩) hS (fun _ _ h => h) (fun _ h => h) (fun r19 M18 t H locs ht hvm hw hB _ _ hS => ?_)
    have hM : zP D vwCl tc A M18 H := by rw [← ht]; exact hB
    refine vx_ret ?_
    refine W.widen (k := mc) (n := ms) (by omega) (by omega) ?_
    exact W.iret hx hb hr (fun t ht hW => ⟨⟨_, _, rfl, hw, zB_of ht hM⟩, hS.F ht⟩) hS.2.2 dA_alarmAt_67
  rcases Classical.em (x2 = 4) with hq4 | hq4
  · have hw := hw.2.2.2.2.1 hq4
    refine lv_tableIn (off := 61) (tgt := 68) hx hb dA_alarmAt_7 (by rw [hq4]; decide) (by rw [hq4]; decide) (by rw [hq4]; rfl) (by decide) ?_
    refine lv_aload_n hx hb dA_alarmAt_68 rfl (lv_at hl 0 rfl) ?_
    obtain ⟨⟨fs24, h25⟩, hw⟩ := hw
    refine va_calli (va_runV (As := []) (rest := []) ⟨hx, hb, hml, hown, htb⟩ (k_L_comingPersons (l := l) (D := D) (tc := tc) (A := A) hw) (cw_A_164 htb ⟨Nat.le_of_ble_eq_true rfl, Nat.le_of_ble_eq_true rfl⟩) (z_preV hG hA hS hM h25 rfl) rfl rfl hl.1 rfl (lv_room (Nat.le_of_ble_eq_true rfl)) dA_alarmAt_69 ⟨show (0 + mc2) + 0 ≤ mc by omega, show (0 + ms3) + 0 ≤ ms by omega⟩) hS (fun _ _ h => h) (fun _ h => h) (fun r23 M22 t H locs ht hvm hw hB _ _ hS => ?_)
    have hM : zP D vwCl tc A M22 H := by rw [← ht]; exact hB
    refine vx_ret ?_
    refine W.widen (k := mc) (n := ms) (by omega) (by omega) ?_
    exact W.iret hx hb hr (fun t ht hW => ⟨⟨_, _, rfl, hw, zB_of ht hM⟩, hS.F ht⟩) hS.2.2 dA_alarmAt_72
  rcases Classical.em (x2 = 5) with hq5 | hq5
  · have hw := hw.2.2.2.2.2.1 hq5
    refine lv_tableIn (off := 66) (tgt := 73) hx hb dA_alarmAt_7 (by rw [hq5]; decide) (by rw [hq5]; decide) (by rw [hq5]; rfl) (by decide) ?_
    refine lv_aload_n hx hb dA_alarmAt_73 rfl (lv_at hl 0 rfl) ?_
    obtain ⟨fs27, v26, h28, ev29, hw⟩ := hw
    refine z_getN hx hb htb inw_L hown hK hM h28 rfl 4 (by decide) (va_Nw.use rfl (hG.2.1 _ t_433)) (fun _ h9 => h9) ev29 dA_alarmAt_74 ?_
    refine vx_ret ?_
    refine W.widen (k := mc) (n := ms) (by omega) (by omega) ?_
    exact W.iret hx hb hr (fun t ht hW => ⟨⟨_, _, rfl, hw, zB_of ht hM⟩, hS.F ht⟩) hS.2.2 dA_alarmAt_77
  rcases Classical.em (x2 = 6) with hq6 | hq6
  · have hw := hw.2.2.2.2.2.2.1 hq6
    refine lv_tableIn (off := 71) (tgt := 78) hx hb dA_alarmAt_7 (by rw [hq6]; decide) (by rw [hq6]; decide) (by rw [hq6]; rfl) (by decide) ?_
    refine lv_aload_n hx hb dA_alarmAt_78 rfl (lv_at hl 0 rfl) ?_
    obtain ⟨fs31, v30, h32, ev33, hw⟩ := hw
    refine z_getN hx hb htb inw_L hown hK hM h32 rfl 2 (by decide) (va_Nw.use rfl (hG.2.1 _ t_429)) (fun _ h9 => h9) ev33 dA_alarmAt_79 ?_
    refine vx_ret ?_
    refine W.widen (k := mc) (n := ms) (by omega) (by omega) ?_
    exact W.iret hx hb hr (fun t ht hW => ⟨⟨_, _, rfl, hw, zB_of ht hM⟩, hS.F ht⟩) hS.2.2 dA_alarmAt_82
  have hw := hw.2.2.2.2.2.2.2 hq0 hq1 hq2 hq3 hq4 hq5 hq6
  refine lv_tableOut (tgt := 83) hx hb dA_alarmAt_7 (by have h9 := z_tsw (x := x2) (n := 7) (by decide) (fun k hk => match k, hk with | 0, _ => hq0 | 1, _ => hq1 | 2, _ => hq2 | 3, _ => hq3 | 4, _ => hq4 | 5, _ => hq5 | 6, _ => hq6 | k + 7, h => absurd h (by omega)); omega) (by decide) ?_
  obtain ⟨hbu1, hbu2, hw⟩ := hw
  exact z_throwS (k := 16) hx hb hst hown (by decide +kernel) (htb _ t_279) (htb _ t_16) rfl (th_A_177 htb hG.2.1) thg_A_173_177 hG hS hM (hl.1.trans hml.symm) dA_alarmAt_83 dA_alarmAt_86 dA_alarmAt_87 dA_alarmAt_89 dA_alarmAt_92 (fun x9 hx9 => (hex x9 hx9).elim) (Nat.le_of_ble_eq_true rfl) (Nat.le_of_ble_eq_true rfl) (show (0 + mc2) + 1 ≤ mc by omega) (show (0 + ms3) + 6 ≤ ms by omega) hlk hw (show (0 + mc2) + 1 ≤ mc by omega) (show (0 + ms3) + 6 ≤ ms by omega)
abbrev r_A_requireNotBelowZero (mc ms : Nat) : Room := { frames := 6, cells := mc, slots := ms, locals := 90 }
def w_A_requireNotBelowZero (e0 : Nat) (post : zM → Prop) (px : String → zM → Prop) (mc : Nat) (ms : Nat) (M : zM) (x0 : Int32) : Prop := ((0 ≤ x0) → post M) ∧ (¬ (0 ≤ x0) → 1 ≤ mc ∧ 6 ≤ ms ∧ px "java/lang/IndexOutOfBoundsException" M)
set_option maxHeartbeats 4000000 in
set_option maxRecDepth 100000 in
theorem k_A_requireNotBelowZero {l : Launch} {D : va_G} {tc : Nat → ClassId} {A : Nat → Prop} {mc ms : Nat} {post : zM → Prop} {px : String → zM → Prop} {M : zM} {x0 : Int32} (hst : l.stackTraces = false) (hw : w_A_requireNotBelowZero (tc 9) post px mc ms M x0) : vx_Met l yA_requireNotBelowZero (.code yA_requireNotBelowZero cA_requireNotBelowZero 1 none :: zTB) (r_A_requireNotBelowZero mc ms) (va_Pc [.int x0] (zI D tc A M)) (va_Qv post (zB D tc A) A) (zX D tc A px) mc ms A := by
  refine vx_ofW (cc := cA_requireNotBelowZero) (maxL := 1) (ret := none) (by decide) rfl ?_
  intro p e s m args below meth c s₁ B hml ht9 hv
  obtain ⟨rfl, hA, hM, hG⟩ := hv
  have C0 := zC_of (D := D) (tc := tc) (A := A) B hml ht9 hA hG
  obtain ⟨hx, hb, hml, hr, hown, htb, hlk, hA, hG, hin, hex⟩ := id C0
  have hK := hG.1
  have hS : va_S A s.heap s.heap [] := va_S.rf
  have hl := lv_entry ([.int x0]) (n := 1) (Nat.le_of_ble_eq_true rfl)
  rw [lg_entry_eq]
  generalize (lg_sl ([.int x0]) ++ List.replicate (1 - (lg_sl ([.int x0])).length) Slot.unset).toArray = ls at hl ⊢
  have hl : lv_has ls 1 [(0, .int x0)] := hl
  refine lv_iload_n hx hb dA_requireNotBelowZero_0 rfl (lv_at hl 0 rfl) ?_
  refine lv_if_ge (tgt := 14) hx hb dA_requireNotBelowZero_1 (by decide) (fun hq => ?_) (fun hq => ?_)
  · have hw := hw.1 hq
    refine vx_ret ?_
    refine W.widen (k := mc) (n := ms) (by omega) (by omega) ?_
    exact W.vret hx hb hr (fun t ht hW => ⟨⟨_, rfl, hw, zB_of ht hM⟩, hS.F ht⟩) hS.2.2 dA_requireNotBelowZero_14
  · have hw := hw.2 hq
    obtain ⟨hbu1, hbu2, hw⟩ := hw
    exact z_throwS (k := 17) hx hb hst hown (by decide +kernel) (htb _ t_88) (htb _ t_9) rfl (th_A_26 htb hG.2.1) thg_A_22_26 hG hS hM (hl.1.trans hml.symm) dA_requireNotBelowZero_4 dA_requireNotBelowZero_7 dA_requireNotBelowZero_8 dA_requireNotBelowZero_10 dA_requireNotBelowZero_13 (fun x9 hx9 => (hex x9 hx9).elim) (Nat.le_of_ble_eq_true rfl) (Nat.le_of_ble_eq_true rfl) (show 0 + 1 ≤ mc by omega) (show 0 + 6 ≤ ms by omega) hlk hw (show 0 + 1 ≤ mc by omega) (show 0 + 6 ≤ ms by omega)
abbrev r_A_comes (mc ms : Nat) : Room := { frames := 8, cells := mc, slots := ms, locals := 132 }
def w_A_comes (e0 : Nat) (post : Int32 → zM → Prop) (px : String → zM → Prop) (mc : Nat) (ms : Nat) (M : zM) (h0 : Nat) (x1 : Int32) (x2 : Int32) : Prop := wIs M h0 0 ∧ ∃ mc2 ms3 : Nat, mc2 ≤ mc ∧ ms3 ≤ ms ∧ w_A_alarmOf e0 (fun r4 M1 => wSm r4 (fun a5 => ∃ mc7 ms8 : Nat, mc7 ≤ (mc - mc2) ∧ ms8 ≤ (ms - ms3) ∧ w_A_requireNotBelowZero e0 (fun M6 => wIs M6 a5 1 ∧ w_L_comerAt e0 (fun r10 M9 => post r10 M9) M6 a5 x2) px mc7 ms8 M1 x2)) px mc2 ms3 M h0 x1
set_option maxHeartbeats 4000000 in
set_option maxRecDepth 100000 in
theorem k_A_comes {l : Launch} {D : va_G} {tc : Nat → ClassId} {A : Nat → Prop} {mc ms : Nat} {post : Int32 → zM → Prop} {px : String → zM → Prop} {M : zM} {h0 : Nat} {x1 : Int32} {x2 : Int32} (hst : l.stackTraces = false) (hw : w_A_comes (tc 9) post px mc ms M h0 x1 x2) : vx_Met l yA_comes (.code yA_comes cA_comes 4 (some .int) :: zTB) (r_A_comes mc ms) (va_Pc [.ref h0, .int x1, .int x2] (zI D tc A M)) (va_Qi post (zB D tc A) A) (zX D tc A px) mc ms A := by
  refine vx_ofW (cc := cA_comes) (maxL := 4) (ret := (some .int)) (by decide) rfl ?_
  intro p e s m args below meth c s₁ B hml ht9 hv
  obtain ⟨rfl, hA, hM, hG⟩ := hv
  have C0 := zC_of (D := D) (tc := tc) (A := A) B hml ht9 hA hG
  obtain ⟨hx, hb, hml, hr, hown, htb, hlk, hA, hG, hin, hex⟩ := id C0
  have hK := hG.1
  have hS : va_S A s.heap s.heap [] := va_S.rf
  have hl := lv_entry ([.ref h0, .int x1, .int x2]) (n := 4) (Nat.le_of_ble_eq_true rfl)
  rw [lg_entry_eq]
  generalize (lg_sl ([.ref h0, .int x1, .int x2]) ++ List.replicate (4 - (lg_sl ([.ref h0, .int x1, .int x2])).length) Slot.unset).toArray = ls at hl ⊢
  have hl : lv_has ls 4 [(0, .ref h0), (1, .int x1), (2, .int x2)] := hl
  refine lv_aload_n hx hb dA_comes_0 rfl (lv_at hl 0 rfl) ?_
  refine lv_iload_n hx hb dA_comes_1 rfl (lv_at hl 1 rfl) ?_
  obtain ⟨⟨fs13, h14⟩, hw⟩ := hw
  obtain ⟨mc2, ms3, hbmc2, hbms3, hw⟩ := hw
  refine zx_callq (vx_runV (As := [.int x1]) (rest := []) ⟨hx, hb, hml, hown, htb⟩ (k_A_alarmOf (l := l) (D := D) (tc := tc) (A := A) hst hw) (cw_A_102 htb ⟨Nat.le_of_ble_eq_true rfl, Nat.le_of_ble_eq_true rfl⟩) (z_preV hG hA hS hM h14 rfl) rfl rfl hl.1 rfl (lv_room (Nat.le_of_ble_eq_true rfl)) dA_comes_2 ⟨show 0 + mc2 ≤ mc by omega, show 0 + ms3 ≤ ms by omega⟩) hS (fun _ _ h => h) (fun _ h => h) (fun _ _ h => h) (fun E9 ce9 q9 u9 t9 H locs ht hvm hw hB _ _ hS hce hcv hcl => z_out (fun x9 hx9 => (hex x9 hx9).elim) hlk hce hcv hcl ht hB hS hw (show 0 + mc2 ≤ mc by omega) (show 0 + ms3 ≤ ms by omega)) (fun r4 M1 t H locs ht hvm hw hB _ _ hS => ?_)
  have hM : zP D vwCl tc A M1 H := by rw [← ht]; exact hB
  obtain ⟨a5, rfl, hw⟩ := hw
  refine lv_astore_n (lv' := [(3, .ref a5), (0, .ref h0), (1, .int x1), (2, .int x2)]) hx hb dA_comes_5 rfl hl (by decide) rfl (fun ls hl => ?_)
  refine lv_iload_n hx hb dA_comes_6 rfl (lv_at hl 3 rfl) ?_
  obtain ⟨mc7, ms8, hbmc7, hbms8, hw⟩ := hw
  refine vx_callv (vx_runS (As := [.int x2]) (rest := []) ⟨hx, hb, hml, hown, htb⟩ (k_A_requireNotBelowZero (l := l) (D := D) (tc := tc) (A := A) hst hw) (cw_A_178 htb ⟨Nat.le_of_ble_eq_true rfl, Nat.le_of_ble_eq_true rfl⟩) (z_preS hG hA hS hM) rfl rfl hl.1 rfl (lv_room (Nat.le_of_ble_eq_true rfl)) dA_comes_7 ⟨show (0 + mc2) + mc7 ≤ mc by omega, show (0 + ms3) + ms8 ≤ ms by omega⟩) hS (fun _ _ h => h) (fun _ h => h) (fun _ _ h => h) (fun E9 ce9 q9 u9 t9 H locs ht hvm hw hB _ _ hS hce hcv hcl => z_out (fun x9 hx9 => (hex x9 hx9).elim) hlk hce hcv hcl ht hB hS hw (show (0 + mc2) + mc7 ≤ mc by omega) (show (0 + ms3) + ms8 ≤ ms by omega)) (fun M6 t H locs ht hvm hw hB _ _ hS => ?_)
  have hM : zP D vwCl tc A M6 H := by rw [← ht]; exact hB
  refine lv_aload_n hx hb dA_comes_10 rfl (lv_at hl 0 rfl) ?_
  refine lv_iload_n hx hb dA_comes_11 rfl (lv_at hl 3 rfl) ?_
  obtain ⟨⟨fs11, h12⟩, hw⟩ := hw
  refine va_calli (va_runV (As := [.int x2]) (rest := []) ⟨hx, hb, hml, hown, htb⟩ (k_L_comerAt (l := l) (D := D) (tc := tc) (A := A) hw) (cw_A_181 htb ⟨Nat.le_of_ble_eq_true rfl, Nat.le_of_ble_eq_true rfl⟩) (z_preV hG hA hS hM h12 rfl) rfl rfl hl.1 rfl (lv_room (Nat.le_of_ble_eq_true rfl)) dA_comes_12 ⟨show ((0 + mc2) + mc7) + 0 ≤ mc by omega, show ((0 + ms3) + ms8) + 0 ≤ ms by omega⟩) hS (fun _ _ h => h) (fun _ h => h) (fun r10 M9 t H locs ht hvm hw hB _ _ hS => ?_)
  have hM : zP D vwCl tc A M9 H := by rw [← ht]; exact hB
  refine vx_ret ?_
  refine W.widen (k := mc) (n := ms) (by omega) (by omega) ?_
  exact W.iret hx hb hr (fun t ht hW => ⟨⟨_, _, rfl, hw, zB_of ht hM⟩, hS.F ht⟩) hS.2.2 dA_comes_15
abbrev r_A_reached (mc ms : Nat) : Room := { frames := 8, cells := mc, slots := ms, locals := 132 }
def w_A_reached (e0 : Nat) (post : Int32 → zM → Prop) (px : String → zM → Prop) (mc : Nat) (ms : Nat) (M : zM) (h0 : Nat) (x1 : Int32) (x2 : Int32) : Prop := wIs M h0 0 ∧ ∃ mc2 ms3 : Nat, mc2 ≤ mc ∧ ms3 ≤ ms ∧ w_A_alarmOf e0 (fun r4 M1 => wSm r4 (fun a5 => wIs M1 h0 0 ∧ ∃ mc7 ms8 : Nat, mc7 ≤ (mc - mc2) ∧ ms8 ≤ (ms - ms3) ∧ w_A_requirePerson e0 (fun M6 => wIs M6 a5 1 ∧ w_L_hasReached e0 (fun r10 M9 => ((r10 = 0) → post (-1) M9) ∧ (¬ (r10 = 0) → wIs M9 a5 1 ∧ w_L_reachOf e0 (fun r12 M11 => post r12 M11) M9 a5 x2)) M6 a5 x2) px mc7 ms8 M1 h0 x2)) px mc2 ms3 M h0 x1
set_option maxHeartbeats 4000000 in
set_option maxRecDepth 100000 in
theorem k_A_reached {l : Launch} {D : va_G} {tc : Nat → ClassId} {A : Nat → Prop} {mc ms : Nat} {post : Int32 → zM → Prop} {px : String → zM → Prop} {M : zM} {h0 : Nat} {x1 : Int32} {x2 : Int32} (hst : l.stackTraces = false) (hw : w_A_reached (tc 9) post px mc ms M h0 x1 x2) : vx_Met l yA_reached (.code yA_reached cA_reached 4 (some .int) :: zTB) (r_A_reached mc ms) (va_Pc [.ref h0, .int x1, .int x2] (zI D tc A M)) (va_Qi post (zB D tc A) A) (zX D tc A px) mc ms A := by
  refine vx_ofW (cc := cA_reached) (maxL := 4) (ret := (some .int)) (by decide) rfl ?_
  intro p e s m args below meth c s₁ B hml ht9 hv
  obtain ⟨rfl, hA, hM, hG⟩ := hv
  have C0 := zC_of (D := D) (tc := tc) (A := A) B hml ht9 hA hG
  obtain ⟨hx, hb, hml, hr, hown, htb, hlk, hA, hG, hin, hex⟩ := id C0
  have hK := hG.1
  have hS : va_S A s.heap s.heap [] := va_S.rf
  have hl := lv_entry ([.ref h0, .int x1, .int x2]) (n := 4) (Nat.le_of_ble_eq_true rfl)
  rw [lg_entry_eq]
  generalize (lg_sl ([.ref h0, .int x1, .int x2]) ++ List.replicate (4 - (lg_sl ([.ref h0, .int x1, .int x2])).length) Slot.unset).toArray = ls at hl ⊢
  have hl : lv_has ls 4 [(0, .ref h0), (1, .int x1), (2, .int x2)] := hl
  refine lv_aload_n hx hb dA_reached_0 rfl (lv_at hl 0 rfl) ?_
  refine lv_iload_n hx hb dA_reached_1 rfl (lv_at hl 1 rfl) ?_
  obtain ⟨⟨fs19, h20⟩, hw⟩ := hw
  obtain ⟨mc2, ms3, hbmc2, hbms3, hw⟩ := hw
  refine zx_callq (vx_runV (As := [.int x1]) (rest := []) ⟨hx, hb, hml, hown, htb⟩ (k_A_alarmOf (l := l) (D := D) (tc := tc) (A := A) hst hw) (cw_A_102 htb ⟨Nat.le_of_ble_eq_true rfl, Nat.le_of_ble_eq_true rfl⟩) (z_preV hG hA hS hM h20 rfl) rfl rfl hl.1 rfl (lv_room (Nat.le_of_ble_eq_true rfl)) dA_reached_2 ⟨show 0 + mc2 ≤ mc by omega, show 0 + ms3 ≤ ms by omega⟩) hS (fun _ _ h => h) (fun _ h => h) (fun _ _ h => h) (fun E9 ce9 q9 u9 t9 H locs ht hvm hw hB _ _ hS hce hcv hcl => z_out (fun x9 hx9 => (hex x9 hx9).elim) hlk hce hcv hcl ht hB hS hw (show 0 + mc2 ≤ mc by omega) (show 0 + ms3 ≤ ms by omega)) (fun r4 M1 t H locs ht hvm hw hB _ _ hS => ?_)
  have hM : zP D vwCl tc A M1 H := by rw [← ht]; exact hB
  obtain ⟨a5, rfl, hw⟩ := hw
  refine lv_astore_n (lv' := [(3, .ref a5), (0, .ref h0), (1, .int x1), (2, .int x2)]) hx hb dA_reached_5 rfl hl (by decide) rfl (fun ls hl => ?_)
  refine lv_aload_n hx hb dA_reached_6 rfl (lv_at hl 1 rfl) ?_
  refine lv_iload_n hx hb dA_reached_7 rfl (lv_at hl 3 rfl) ?_
  obtain ⟨⟨fs17, h18⟩, hw⟩ := hw
  obtain ⟨mc7, ms8, hbmc7, hbms8, hw⟩ := hw
  refine vx_callv (vx_runV (As := [.int x2]) (rest := []) ⟨hx, hb, hml, hown, htb⟩ (k_A_requirePerson (l := l) (D := D) (tc := tc) (A := A) hst hw) (cw_A_106 htb ⟨Nat.le_of_ble_eq_true rfl, Nat.le_of_ble_eq_true rfl⟩) (z_preV hG hA hS hM h18 rfl) rfl rfl hl.1 rfl (lv_room (Nat.le_of_ble_eq_true rfl)) dA_reached_8 ⟨show (0 + mc2) + mc7 ≤ mc by omega, show (0 + ms3) + ms8 ≤ ms by omega⟩) hS (fun _ _ h => h) (fun _ h => h) (fun _ _ h => h) (fun E9 ce9 q9 u9 t9 H locs ht hvm hw hB _ _ hS hce hcv hcl => z_out (fun x9 hx9 => (hex x9 hx9).elim) hlk hce hcv hcl ht hB hS hw (show (0 + mc2) + mc7 ≤ mc by omega) (show (0 + ms3) + ms8 ≤ ms by omega)) (fun M6 t H locs ht hvm hw hB _ _ hS => ?_)
  have hM : zP D vwCl tc A M6 H := by rw [← ht]; exact hB
  refine lv_aload_n hx hb dA_reached_11 rfl (lv_at hl 0 rfl) ?_
  refine lv_iload_n hx hb dA_reached_12 rfl (lv_at hl 3 rfl) ?_
  obtain ⟨⟨fs15, h16⟩, hw⟩ := hw
  refine va_calli (va_runV (As := [.int x2]) (rest := []) ⟨hx, hb, hml, hown, htb⟩ (k_L_hasReached (l := l) (D := D) (tc := tc) (A := A) hw) (cw_A_111 htb ⟨Nat.le_of_ble_eq_true rfl, Nat.le_of_ble_eq_true rfl⟩) (z_preV hG hA hS hM h16 rfl) rfl rfl hl.1 rfl (lv_room (Nat.le_of_ble_eq_true rfl)) dA_reached_13 ⟨show ((0 + mc2) + mc7) + 0 ≤ mc by omega, show ((0 + ms3) + ms8) + 0 ≤ ms by omega⟩) hS (fun _ _ h => h) (fun _ h => h) (fun r10 M9 t H locs ht hvm hw hB _ _ hS => ?_)
  have hM : zP D vwCl tc A M9 H := by rw [← ht]; exact hB
  refine lv_if_eq (tgt := 27) hx hb dA_reached_16 (by decide) (fun hq => ?_) (fun hq => ?_)
  · have hw := hw.1 hq
    refine lv_iconst (v := (-1)) hx hb dA_reached_27 (by decide +kernel) ?_
    refine vx_ret ?_
    refine W.widen (k := mc) (n := ms) (by omega) (by omega) ?_
    exact W.iret hx hb hr (fun t ht hW => ⟨⟨_, _, rfl, hw, zB_of ht hM⟩, hS.F ht⟩) hS.2.2 dA_reached_28
  · have hw := hw.2 hq
    refine lv_aload_n hx hb dA_reached_19 rfl (lv_at hl 0 rfl) ?_
    refine lv_iload_n hx hb dA_reached_20 rfl (lv_at hl 3 rfl) ?_
    obtain ⟨⟨fs13, h14⟩, hw⟩ := hw
    refine va_calli (va_runV (As := [.int x2]) (rest := []) ⟨hx, hb, hml, hown, htb⟩ (k_L_reachOf (l := l) (D := D) (tc := tc) (A := A) hw) (cw_A_184 htb ⟨Nat.le_of_ble_eq_true rfl, Nat.le_of_ble_eq_true rfl⟩) (z_preV hG hA hS hM h14 rfl) rfl rfl hl.1 rfl (lv_room (Nat.le_of_ble_eq_true rfl)) dA_reached_21 ⟨show ((0 + mc2) + mc7) + 0 ≤ mc by omega, show ((0 + ms3) + ms8) + 0 ≤ ms by omega⟩) hS (fun _ _ h => h) (fun _ h => h) (fun r12 M11 t H locs ht hvm hw hB _ _ hS => ?_)
    have hM : zP D vwCl tc A M11 H := by rw [← ht]; exact hB
    refine lv_goto (tgt := 28) hx hb dA_reached_24 (by decide) ?_
    refine vx_ret ?_
    refine W.widen (k := mc) (n := ms) (by omega) (by omega) ?_
    exact W.iret hx hb hr (fun t ht hW => ⟨⟨_, _, rfl, hw, zB_of ht hM⟩, hS.F ht⟩) hS.2.2 dA_reached_28
abbrev r_A_commonDivisor : Room := { frames := 0, cells := 0, slots := 0, locals := 0 }
abbrev J_A_commonDivisor_7 (p : Program) (l : Launch) (e : Env) (s : State) (m : MethodId) (args : Array Value) (below : List Frame) (meth : Method) (c : Code) (D : va_G) (tc : Nat → ClassId) (A : Nat → Prop) (Q : State → Prop) (K : zM → Int32 → Int32 → Int32 → Prop) : Prop := ∀ (M : zM) (l2 : Int32) (l3 : Int32) (l4 : Int32) (H : Heap) (locs : List Loc) (ls : Array Slot), zP D vwCl tc A M H → va_S A s.heap H locs → lv_has ls 6 [(2, .int l2), (3, .int l3), (4, .int l4)] → K M l2 l3 l4 → W p l e (r_A_commonDivisor) s m args below meth c H locs 0 0 Q (F0 m 7 ls [])
def w_A_commonDivisor_j7 (e0 : Nat) (post : Int32 → zM → Prop) : Nat → zM → Int32 → Int32 → Int32 → Prop
  | 0 => fun _ _ _ _ => False
  | n + 1 => fun M l2 l3 l4 => ((50 ≤ l4) → post l2 M) ∧ (¬ (50 ≤ l4) → ((l3 = 0) → post l2 M) ∧ (¬ (l3 = 0) → (¬ l3 = 0) ∧ w_A_commonDivisor_j7 e0 post n M l3 (l2 - l2 / l3 * l3) (l4 + 1)))
set_option maxHeartbeats 4000000 in
set_option maxRecDepth 100000 in
theorem k_A_commonDivisor_j7 {p : Program} {l : Launch} {e : Env} {s : State} {m : MethodId} {args : Array Value} {below : List Frame} {meth : Method} {c : Code} {D : va_G} {tc : Nat → ClassId} {A : Nat → Prop} {post : Int32 → zM → Prop} (C0 : zC R_A cA_commonDivisor 6 (some .int) "commonDivisor" D tc A p l s m args meth c) : ∀ n : Nat, J_A_commonDivisor_7 p l e s m args below meth c D tc A (MQ below (va_Qi post (zB D tc A) A) args s 0 0 A) (w_A_commonDivisor_j7 (tc 9) post n) := by
  obtain ⟨hx, hb, hml, hr, hown, htb, hlk, hA, hG, hin, hex⟩ := id C0
  have hK := hG.1
  intro n
  induction n with
  | zero => intro M l2 l3 l4 H locs ls hM hS hl hw; exact hw.elim
  | succ n ih =>
    intro M l2 l3 l4 H locs ls hM hS hl hw
    refine lv_iload hx hb dA_commonDivisor_7 (lv_at hl 2 rfl) ?_
    refine lv_bipush (v := 50) hx hb dA_commonDivisor_9 (by decide +kernel) ?_
    refine lv_icmp_ge (tgt := 34) hx hb dA_commonDivisor_11 (by decide) (fun hq => ?_) (fun hq => ?_)
    · have hw := hw.1 hq
      refine lv_iload_n hx hb dA_commonDivisor_34 rfl (lv_at hl 0 rfl) ?_
      exact W.iret hx hb hr (fun t ht hW => ⟨⟨_, _, rfl, hw, zB_of ht hM⟩, hS.F ht⟩) hS.2.2 dA_commonDivisor_35
    · have hw := hw.2 hq
      refine lv_iload_n hx hb dA_commonDivisor_14 rfl (lv_at hl 1 rfl) ?_
      refine lv_if_eq (tgt := 34) hx hb dA_commonDivisor_15 (by decide) (fun hq => ?_) (fun hq => ?_)
      · have hw := hw.1 hq
        refine lv_iload_n hx hb dA_commonDivisor_34 rfl (lv_at hl 0 rfl) ?_
        exact W.iret hx hb hr (fun t ht hW => ⟨⟨_, _, rfl, hw, zB_of ht hM⟩, hS.F ht⟩) hS.2.2 dA_commonDivisor_35
      · have hw := hw.2 hq
        refine lv_iload_n hx hb dA_commonDivisor_18 rfl (lv_at hl 0 rfl) ?_
        refine lv_iload_n hx hb dA_commonDivisor_19 rfl (lv_at hl 1 rfl) ?_
        obtain ⟨hne, hw⟩ := hw
        refine lv_irem hx hb dA_commonDivisor_20 hne ?_
        refine lv_istore (lv' := [(5, .int (l2 - l2 / l3 * l3)), (2, .int l2), (3, .int l3), (4, .int l4)]) hx hb dA_commonDivisor_21 hl (by decide) rfl (fun ls hl => ?_)
        refine lv_iload_n hx hb dA_commonDivisor_23 rfl (lv_at hl 2 rfl) ?_
        refine lv_istore_n (lv' := [(2, .int l3), (5, .int (l2 - l2 / l3 * l3)), (3, .int l3), (4, .int l4)]) hx hb dA_commonDivisor_24 rfl hl (by decide) rfl (fun ls hl => ?_)
        refine lv_iload hx hb dA_commonDivisor_25 (lv_at hl 1 rfl) ?_
        refine lv_istore_n (lv' := [(3, .int (l2 - l2 / l3 * l3)), (2, .int l3), (5, .int (l2 - l2 / l3 * l3)), (4, .int l4)]) hx hb dA_commonDivisor_27 rfl hl (by decide) rfl (fun ls hl => ?_)
        refine lv_iinc (v := (l4 + 1)) (lv' := [(4, .int (l4 + 1)), (3, .int (l2 - l2 / l3 * l3)), (2, .int l3), (5, .int (l2 - l2 / l3 * l3))]) hx hb dA_commonDivisor_28 hl (k := 3) rfl rfl (by decide) rfl (fun ls hl => ?_)
        refine lv_goto (tgt := 7) hx hb dA_commonDivisor_31 (by decide) ?_
        exact ih _ _ _ _ _ _ _ hM hS (lv_sub hl [2, 1, 0] rfl) hw
def w_A_commonDivisor (e0 : Nat) (post : Int32 → zM → Prop) (M : zM) (x0 : Int32) (x1 : Int32) : Prop := ∃ nn, w_A_commonDivisor_j7 e0 post nn M x0 x1 0
set_option maxHeartbeats 4000000 in
set_option maxRecDepth 100000 in
theorem k_A_commonDivisor {l : Launch} {D : va_G} {tc : Nat → ClassId} {A : Nat → Prop} {post : Int32 → zM → Prop} {M : zM} {x0 : Int32} {x1 : Int32} (hw : w_A_commonDivisor (tc 9) post M x0 x1) : Met l yA_commonDivisor (.code yA_commonDivisor cA_commonDivisor 6 (some .int) :: zTB) r_A_commonDivisor (va_Pc [.int x0, .int x1] (zI D tc A M)) (va_Qi post (zB D tc A) A) 0 0 A := by
  refine Met.ofW (cc := cA_commonDivisor) (maxL := 6) (ret := (some .int)) (by decide +kernel) rfl ?_
  intro p e s m args below meth c s₁ B hml hv
  obtain ⟨rfl, hA, hM, hG⟩ := hv
  have C0 := zC_of (D := D) (tc := tc) (A := A) B hml (zC_ex B) hA hG
  obtain ⟨hx, hb, hml, hr, hown, htb, hlk, hA, hG, hin, hex⟩ := id C0
  have hK := hG.1
  have hS : va_S A s.heap s.heap [] := va_S.rf
  have hl := lv_entry ([.int x0, .int x1]) (n := 6) (Nat.le_of_ble_eq_true rfl)
  rw [lg_entry_eq]
  generalize (lg_sl ([.int x0, .int x1]) ++ List.replicate (6 - (lg_sl ([.int x0, .int x1])).length) Slot.unset).toArray = ls at hl ⊢
  have hl : lv_has ls 6 [(0, .int x0), (1, .int x1)] := hl
  refine lv_iload_n hx hb dA_commonDivisor_0 rfl (lv_at hl 0 rfl) ?_
  refine lv_istore_n (lv' := [(2, .int x0), (0, .int x0), (1, .int x1)]) hx hb dA_commonDivisor_1 rfl hl (by decide) rfl (fun ls hl => ?_)
  refine lv_iload_n hx hb dA_commonDivisor_2 rfl (lv_at hl 2 rfl) ?_
  refine lv_istore_n (lv' := [(3, .int x1), (2, .int x0), (0, .int x0), (1, .int x1)]) hx hb dA_commonDivisor_3 rfl hl (by decide) rfl (fun ls hl => ?_)
  refine lv_iconst (v := 0) hx hb dA_commonDivisor_4 (by decide +kernel) ?_
  refine lv_istore (lv' := [(4, .int 0), (3, .int x1), (2, .int x0), (0, .int x0), (1, .int x1)]) hx hb dA_commonDivisor_5 hl (by decide) rfl (fun ls hl => ?_)
  obtain ⟨nfu, hw⟩ := hw
  exact k_A_commonDivisor_j7 C0  nfu _ _ _ _ _ _ _ hM hS (lv_sub hl [2, 1, 0] rfl) hw
abbrev r_A_share (mc ms : Nat) : Room := { frames := 8, cells := mc, slots := ms, locals := 132 }
abbrev J_A_share_25 (p : Program) (l : Launch) (e : Env) (s : State) (m : MethodId) (args : Array Value) (below : List Frame) (meth : Method) (c : Code) (D : va_G) (tc : Nat → ClassId) (A : Nat → Prop) (mcT msT : Nat) (Q : State → Prop) (K : Nat → Nat → zM → Int32 → Nat → Prop) : Prop := ∀ (mc : Nat) (ms : Nat) (M : zM) (l2 : Int32) (l3 : Nat) (H : Heap) (locs : List Loc) (cells slots : Nat) (ls : Array Slot), cells + mc ≤ mcT → slots + ms ≤ msT → zP D vwCl tc A M H → va_S A s.heap H locs → lv_has ls 5 [(2, .int l2), (3, .ref l3)] → K mc ms M l2 l3 → W p l e (r_A_share mcT msT) s m args below meth c H locs cells slots Q (F0 m 25 ls [])
def w_A_share_j25 (e0 : Nat) (post : Int32 → zM → Prop) (px : String → zM → Prop) (mc : Nat) (ms : Nat) (M : zM) (l2 : Int32) (l3 : Nat) : Prop := wGI M l3 2 3 (fun v1 => wGI M l3 2 4 (fun v5 => w_A_commonDivisor e0 (fun r10 M9 => ((1 ≤ r10) → ((l2 = 0) → wGI M9 l3 2 4 (fun v15 => (¬ r10 = 0) ∧ post (v15 / r10) M9)) ∧ (¬ (l2 = 0) → wGI M9 l3 2 3 (fun v11 => (¬ r10 = 0) ∧ post (v11 / r10) M9))) ∧ (¬ (1 ≤ r10) → 1 ≤ mc ∧ 6 ≤ ms ∧ px "java/lang/ArithmeticException" M9)) M v1 v5))
set_option maxHeartbeats 4000000 in
set_option maxRecDepth 100000 in
theorem k_A_share_j25 {p : Program} {l : Launch} {e : Env} {s : State} {m : MethodId} {args : Array Value} {below : List Frame} {meth : Method} {c : Code} {D : va_G} {tc : Nat → ClassId} {A : Nat → Prop} {mcT msT : Nat} {post : Int32 → zM → Prop} {px : String → zM → Prop} (C0 : zC R_A cA_share 5 (some .int) "share" D tc A p l s m args meth c) (hst : l.stackTraces = false) : J_A_share_25 p l e s m args below meth c D tc A mcT msT (vx_MQ below (va_Qi post (zB D tc A) A) (zX D tc A px) args s mcT msT A) (w_A_share_j25 (tc 9) post px) := by
  obtain ⟨hx, hb, hml, hr, hown, htb, hlk, hA, hG, hin, hex⟩ := id C0
  have hK := hG.1
  intro mc ms M l2 l3 H locs cells slots ls hbc hbs hM hS hl hw
  refine lv_aload_n hx hb dA_share_25 rfl (lv_at hl 1 rfl) ?_
  obtain ⟨fs2, v1, h3, ev4, hw⟩ := hw
  refine z_getN hx hb htb inw_G hown hK hM h3 rfl 3 (by decide) (va_Nw.use rfl (hG.2.1 _ t_191)) (fun _ h9 => h9) ev4 dA_share_26 ?_
  refine lv_aload_n hx hb dA_share_29 rfl (lv_at hl 1 rfl) ?_
  obtain ⟨fs6, v5, h7, ev8, hw⟩ := hw
  refine z_getN hx hb htb inw_G hown hK hM h7 rfl 4 (by decide) (va_Nw.use rfl (hG.2.1 _ t_192)) (fun _ h9 => h9) ev8 dA_share_30 ?_
  refine va_calli (va_runS (As := [.int v1, .int v5]) (rest := []) ⟨hx, hb, hml, hown, htb⟩ (k_A_commonDivisor (l := l) (D := D) (tc := tc) (A := A) hw) (cw_A_195 htb ⟨Nat.le_of_ble_eq_true rfl, Nat.le_of_ble_eq_true rfl⟩) (z_preS hG hA hS hM) rfl rfl hl.1 rfl (lv_room (Nat.le_of_ble_eq_true rfl)) dA_share_33 ⟨show cells + 0 ≤ mcT by omega, show slots + 0 ≤ msT by omega⟩) hS (fun _ _ h => h) (fun _ h => h) (fun r10 M9 t H locs ht hvm hw hB _ _ hS => ?_)
  have hM : zP D vwCl tc A M9 H := by rw [← ht]; exact hB
  refine lv_istore (lv' := [(4, .int r10), (2, .int l2), (3, .ref l3)]) hx hb dA_share_36 hl (by decide) rfl (fun ls hl => ?_)
  refine lv_iload hx hb dA_share_38 (lv_at hl 0 rfl) ?_
  refine lv_iconst (v := 1) hx hb dA_share_40 (by decide +kernel) ?_
  refine lv_icmp_ge (tgt := 54) hx hb dA_share_41 (by decide) (fun hq => ?_) (fun hq => ?_)
  · have hw := hw.1 hq
    refine lv_iload_n hx hb dA_share_54 rfl (lv_at hl 1 rfl) ?_
    refine lv_if_ne (tgt := 65) hx hb dA_share_55 (by decide) (fun hq => ?_) (fun hq => ?_)
    · have hw := hw.2 hq
      refine lv_aload_n hx hb dA_share_65 rfl (lv_at hl 2 rfl) ?_
      obtain ⟨fs12, v11, h13, ev14, hw⟩ := hw
      refine z_getN hx hb htb inw_G hown hK hM h13 rfl 3 (by decide) (va_Nw.use rfl (hG.2.1 _ t_191)) (fun _ h9 => h9) ev14 dA_share_66 ?_
      refine lv_iload hx hb dA_share_69 (lv_at hl 0 rfl) ?_
      obtain ⟨hne, hw⟩ := hw
      refine lv_idiv hx hb dA_share_71 hne ?_
      refine vx_ret ?_
      refine W.widen (k := mcT) (n := msT) (by omega) (by omega) ?_
      exact W.iret hx hb hr (fun t ht hW => ⟨⟨_, _, rfl, hw, zB_of ht hM⟩, hS.F ht⟩) hS.2.2 dA_share_72
    · have hw := hw.1 hq
      refine lv_aload_n hx hb dA_share_58 rfl (lv_at hl 2 rfl) ?_
      obtain ⟨fs16, v15, h17, ev18, hw⟩ := hw
      refine z_getN hx hb htb inw_G hown hK hM h17 rfl 4 (by decide) (va_Nw.use rfl (hG.2.1 _ t_192)) (fun _ h9 => h9) ev18 dA_share_59 ?_
      refine lv_goto (tgt := 69) hx hb dA_share_62 (by decide) ?_
      refine lv_iload hx hb dA_share_69 (lv_at hl 0 rfl) ?_
      obtain ⟨hne, hw⟩ := hw
      refine lv_idiv hx hb dA_share_71 hne ?_
      refine vx_ret ?_
      refine W.widen (k := mcT) (n := msT) (by omega) (by omega) ?_
      exact W.iret hx hb hr (fun t ht hW => ⟨⟨_, _, rfl, hw, zB_of ht hM⟩, hS.F ht⟩) hS.2.2 dA_share_72
  · have hw := hw.2 hq
    obtain ⟨hbu1, hbu2, hw⟩ := hw
    exact z_throwS (k := 19) hx hb hst hown (by decide +kernel) (htb _ t_606) (htb _ t_22) rfl (th_A_202 htb hG.2.1) thg_A_198_202 hG hS hM (hl.1.trans hml.symm) dA_share_44 dA_share_47 dA_share_48 dA_share_50 dA_share_53 (fun x9 hx9 => (hex x9 hx9).elim) (Nat.le_of_ble_eq_true rfl) (Nat.le_of_ble_eq_true rfl) (show cells + 1 ≤ mcT by omega) (show slots + 6 ≤ msT by omega) hlk hw (show cells + 1 ≤ mcT by omega) (show slots + 6 ≤ msT by omega)
def w_A_share (e0 : Nat) (post : Int32 → zM → Prop) (px : String → zM → Prop) (mc : Nat) (ms : Nat) (M : zM) (h0 : Nat) (x1 : Int32) (x2 : Int32) : Prop := wIs M h0 0 ∧ ∃ mc2 ms3 : Nat, mc2 ≤ mc ∧ ms3 ≤ ms ∧ w_A_groupOf e0 (fun r4 M1 => wSm r4 (fun a5 => ((x2 = 0) → w_A_share_j25 e0 post px (mc - mc2) (ms - ms3) M1 x2 a5) ∧ (¬ (x2 = 0) → ((x2 = 1) → w_A_share_j25 e0 post px (mc - mc2) (ms - ms3) M1 x2 a5) ∧ (¬ (x2 = 1) → 1 ≤ (mc - mc2) ∧ 6 ≤ (ms - ms3) ∧ px "java/lang/IllegalArgumentException" M1)))) px mc2 ms3 M h0 x1
set_option maxHeartbeats 4000000 in
set_option maxRecDepth 100000 in
theorem k_A_share {l : Launch} {D : va_G} {tc : Nat → ClassId} {A : Nat → Prop} {mc ms : Nat} {post : Int32 → zM → Prop} {px : String → zM → Prop} {M : zM} {h0 : Nat} {x1 : Int32} {x2 : Int32} (hst : l.stackTraces = false) (hw : w_A_share (tc 9) post px mc ms M h0 x1 x2) : vx_Met l yA_share (.code yA_share cA_share 5 (some .int) :: zTB) (r_A_share mc ms) (va_Pc [.ref h0, .int x1, .int x2] (zI D tc A M)) (va_Qi post (zB D tc A) A) (zX D tc A px) mc ms A := by
  refine vx_ofW (cc := cA_share) (maxL := 5) (ret := (some .int)) (by decide) rfl ?_
  intro p e s m args below meth c s₁ B hml ht9 hv
  obtain ⟨rfl, hA, hM, hG⟩ := hv
  have C0 := zC_of (D := D) (tc := tc) (A := A) B hml ht9 hA hG
  obtain ⟨hx, hb, hml, hr, hown, htb, hlk, hA, hG, hin, hex⟩ := id C0
  have hK := hG.1
  have hS : va_S A s.heap s.heap [] := va_S.rf
  have hl := lv_entry ([.ref h0, .int x1, .int x2]) (n := 5) (Nat.le_of_ble_eq_true rfl)
  rw [lg_entry_eq]
  generalize (lg_sl ([.ref h0, .int x1, .int x2]) ++ List.replicate (5 - (lg_sl ([.ref h0, .int x1, .int x2])).length) Slot.unset).toArray = ls at hl ⊢
  have hl : lv_has ls 5 [(0, .ref h0), (1, .int x1), (2, .int x2)] := hl
  refine lv_aload_n hx hb dA_share_0 rfl (lv_at hl 0 rfl) ?_
  refine lv_iload_n hx hb dA_share_1 rfl (lv_at hl 1 rfl) ?_
  obtain ⟨⟨fs6, h7⟩, hw⟩ := hw
  obtain ⟨mc2, ms3, hbmc2, hbms3, hw⟩ := hw
  refine zx_callq (vx_runV (As := [.int x1]) (rest := []) ⟨hx, hb, hml, hown, htb⟩ (k_A_groupOf (l := l) (D := D) (tc := tc) (A := A) hst hw) (cw_A_49 htb ⟨Nat.le_of_ble_eq_true rfl, Nat.le_of_ble_eq_true rfl⟩) (z_preV hG hA hS hM h7 rfl) rfl rfl hl.1 rfl (lv_room (Nat.le_of_ble_eq_true rfl)) dA_share_2 ⟨show 0 + mc2 ≤ mc by omega, show 0 + ms3 ≤ ms by omega⟩) hS (fun _ _ h => h) (fun _ h => h) (fun _ _ h => h) (fun E9 ce9 q9 u9 t9 H locs ht hvm hw hB _ _ hS hce hcv hcl => z_out (fun x9 hx9 => (hex x9 hx9).elim) hlk hce hcv hcl ht hB hS hw (show 0 + mc2 ≤ mc by omega) (show 0 + ms3 ≤ ms by omega)) (fun r4 M1 t H locs ht hvm hw hB _ _ hS => ?_)
  have hM : zP D vwCl tc A M1 H := by rw [← ht]; exact hB
  obtain ⟨a5, rfl, hw⟩ := hw
  refine lv_astore_n (lv' := [(3, .ref a5), (0, .ref h0), (1, .int x1), (2, .int x2)]) hx hb dA_share_5 rfl hl (by decide) rfl (fun ls hl => ?_)
  refine lv_iload_n hx hb dA_share_6 rfl (lv_at hl 3 rfl) ?_
  refine lv_if_eq (tgt := 25) hx hb dA_share_7 (by decide) (fun hq => ?_) (fun hq => ?_)
  · have hw := hw.1 hq
    exact k_A_share_j25 C0 hst  _ _ _ _ _ _ _ _ _ _ (show (0 + mc2) + (mc - mc2) ≤ mc by omega) (show (0 + ms3) + (ms - ms3) ≤ ms by omega) hM hS (lv_sub hl [3, 0] rfl) hw
  · have hw := hw.2 hq
    refine lv_iload_n hx hb dA_share_10 rfl (lv_at hl 3 rfl) ?_
    refine lv_iconst (v := 1) hx hb dA_share_11 (by decide +kernel) ?_
    refine lv_icmp_eq (tgt := 25) hx hb dA_share_12 (by decide) (fun hq => ?_) (fun hq => ?_)
    · have hw := hw.1 hq
      exact k_A_share_j25 C0 hst  _ _ _ _ _ _ _ _ _ _ (show (0 + mc2) + (mc - mc2) ≤ mc by omega) (show (0 + ms3) + (ms - ms3) ≤ ms by omega) hM hS (lv_sub hl [3, 0] rfl) hw
    · have hw := hw.2 hq
      obtain ⟨hbu1, hbu2, hw⟩ := hw
      exact z_throwS (k := 18) hx hb hst hown (by decide +kernel) (htb _ t_279) (htb _ t_16) rfl (th_A_177 htb hG.2.1) thg_A_173_177 hG hS hM (hl.1.trans hml.symm) dA_share_15 dA_share_18 dA_share_19 dA_share_21 dA_share_24 (fun x9 hx9 => (hex x9 hx9).elim) (Nat.le_of_ble_eq_true rfl) (Nat.le_of_ble_eq_true rfl) (show (0 + mc2) + 1 ≤ mc by omega) (show (0 + ms3) + 6 ≤ ms by omega) hlk hw (show (0 + mc2) + 1 ≤ mc by omega) (show (0 + ms3) + 6 ≤ ms by omega)
abbrev r_A_never (mc ms : Nat) : Room := { frames := 7, cells := mc, slots := ms, locals := 110 }
abbrev J_A_never_46 (p : Program) (l : Launch) (e : Env) (s : State) (m : MethodId) (args : Array Value) (below : List Frame) (meth : Method) (c : Code) (D : va_G) (tc : Nat → ClassId) (A : Nat → Prop) (mcT msT : Nat) (Q : State → Prop) (K : Nat → Nat → zM → Nat → Int32 → Int32 → Int32 → Prop) : Prop := ∀ (mc : Nat) (ms : Nat) (M : zM) (l0 : Nat) (l1 : Int32) (l2 : Int32) (l3 : Int32) (H : Heap) (locs : List Loc) (cells slots : Nat) (ls : Array Slot), cells + mc ≤ mcT → slots + ms ≤ msT → zP D vwCl tc A M H → va_S A s.heap H locs → lv_has ls 4 [(0, .ref l0), (1, .int l1), (2, .int l2), (3, .int l3)] → K mc ms M l0 l1 l2 l3 → W p l e (r_A_never mcT msT) s m args below meth c H locs cells slots Q (F0 m 46 ls [])
abbrev J_A_never_8 (p : Program) (l : Launch) (e : Env) (s : State) (m : MethodId) (args : Array Value) (below : List Frame) (meth : Method) (c : Code) (D : va_G) (tc : Nat → ClassId) (A : Nat → Prop) (mcT msT : Nat) (Q : State → Prop) (K : Nat → Nat → zM → Nat → Int32 → Int32 → Int32 → Prop) : Prop := ∀ (mc : Nat) (ms : Nat) (M : zM) (l0 : Nat) (l1 : Int32) (l2 : Int32) (l3 : Int32) (H : Heap) (locs : List Loc) (cells slots : Nat) (ls : Array Slot), cells + mc ≤ mcT → slots + ms ≤ msT → zP D vwCl tc A M H → va_S A s.heap H locs → lv_has ls 4 [(0, .ref l0), (1, .int l1), (2, .int l2), (3, .int l3)] → K mc ms M l0 l1 l2 l3 → W p l e (r_A_never mcT msT) s m args below meth c H locs cells slots Q (F0 m 8 ls [])
def w_A_never_j46 (e0 : Nat) (post : Int32 → zM → Prop) (px : String → zM → Prop) (K8 : Nat → Nat → zM → Nat → Int32 → Int32 → Int32 → Prop) (mc : Nat) (ms : Nat) (M : zM) (l0 : Nat) (l1 : Int32) (l2 : Int32) (l3 : Int32) : Prop := K8 mc ms M l0 l1 l2 (l3 + 1)
set_option maxHeartbeats 4000000 in
set_option maxRecDepth 100000 in
theorem k_A_never_j46 {p : Program} {l : Launch} {e : Env} {s : State} {m : MethodId} {args : Array Value} {below : List Frame} {meth : Method} {c : Code} {D : va_G} {tc : Nat → ClassId} {A : Nat → Prop} {mcT msT : Nat} {post : Int32 → zM → Prop} {px : String → zM → Prop} (C0 : zC R_A cA_never 4 (some .int) "never" D tc A p l s m args meth c) (hst : l.stackTraces = false) {K8 : Nat → Nat → zM → Nat → Int32 → Int32 → Int32 → Prop} (hK8 : J_A_never_8 p l e s m args below meth c D tc A mcT msT (vx_MQ below (va_Qi post (zB D tc A) A) (zX D tc A px) args s mcT msT A) K8) : J_A_never_46 p l e s m args below meth c D tc A mcT msT (vx_MQ below (va_Qi post (zB D tc A) A) (zX D tc A px) args s mcT msT A) (w_A_never_j46 (tc 9) post px K8) := by
  obtain ⟨hx, hb, hml, hr, hown, htb, hlk, hA, hG, hin, hex⟩ := id C0
  have hK := hG.1
  intro mc ms M l0 l1 l2 l3 H locs cells slots ls hbc hbs hM hS hl hw
  refine lv_iinc (v := (l3 + 1)) (lv' := [(3, .int (l3 + 1)), (0, .ref l0), (1, .int l1), (2, .int l2)]) hx hb dA_never_46 hl (k := 3) rfl rfl (by decide) rfl (fun ls hl => ?_)
  refine lv_goto (tgt := 8) hx hb dA_never_49 (by decide) ?_
  exact hK8 _ _ _ _ _ _ _ _ _ _ _ _ (show cells + mc ≤ mcT by omega) (show slots + ms ≤ msT by omega) hM hS (lv_sub hl [1, 2, 3, 0] rfl) hw
def w_A_never_j8 (e0 : Nat) (post : Int32 → zM → Prop) (px : String → zM → Prop) : Nat → Nat → Nat → zM → Nat → Int32 → Int32 → Int32 → Prop
  | 0 => fun _ _ _ _ _ _ _ => False
  | n + 1 => fun mc ms M l0 l1 l2 l3 => wGR M l0 0 1 (fun v1 => wIs M v1 5 ∧ w_Y_size e0 (fun r6 M5 => ((r6 ≤ l3) → post (-1) M5) ∧ (¬ (r6 ≤ l3) → wGR M5 l0 0 1 (fun v7 => wIs M5 v7 5 ∧ w_Y_get e0 (fun r12 M11 => wSm r12 (fun a13 => wIs M11 a13 3 ∧ wIs M11 a13 3 ∧ w_P_neverAnswers e0 (fun r17 M16 => ((r17 = 0) → w_A_never_j46 e0 post px (w_A_never_j8 e0 post px n) mc ms M16 l0 l1 l2 l3) ∧ (¬ (r17 = 0) → ((l2 = l1) → post l3 M16) ∧ (¬ (l2 = l1) → w_A_never_j46 e0 post px (w_A_never_j8 e0 post px n) mc ms M16 l0 l1 (l2 + 1) l3))) M11 a13)) M5 v7 l3))) M v1)
set_option maxHeartbeats 4000000 in
set_option maxRecDepth 100000 in
theorem k_A_never_j8 {p : Program} {l : Launch} {e : Env} {s : State} {m : MethodId} {args : Array Value} {below : List Frame} {meth : Method} {c : Code} {D : va_G} {tc : Nat → ClassId} {A : Nat → Prop} {mcT msT : Nat} {post : Int32 → zM → Prop} {px : String → zM → Prop} (C0 : zC R_A cA_never 4 (some .int) "never" D tc A p l s m args meth c) (hst : l.stackTraces = false) : ∀ n : Nat, J_A_never_8 p l e s m args below meth c D tc A mcT msT (vx_MQ below (va_Qi post (zB D tc A) A) (zX D tc A px) args s mcT msT A) (w_A_never_j8 (tc 9) post px n) := by
  obtain ⟨hx, hb, hml, hr, hown, htb, hlk, hA, hG, hin, hex⟩ := id C0
  have hK := hG.1
  intro n
  induction n with
  | zero => intro mc ms M l0 l1 l2 l3 H locs cells slots ls hbc hbs hM hS hl hw; exact hw.elim
  | succ n ih =>
    intro mc ms M l0 l1 l2 l3 H locs cells slots ls hbc hbs hM hS hl hw
    refine lv_iload_n hx hb dA_never_8 rfl (lv_at hl 3 rfl) ?_
    refine lv_aload_n hx hb dA_never_9 rfl (lv_at hl 0 rfl) ?_
    obtain ⟨fs2, v1, h3, ev4, hw⟩ := hw
    refine z_get hx hb htb inw_A hown hK hM h3 rfl 1 (by decide) (htb _ t_58) (fun _ h9 => h9) ev4 dA_never_10 ?_
    obtain ⟨⟨fs22, h23⟩, hw⟩ := hw
    refine va_calli (va_runV (As := []) (rest := [.int l3]) ⟨hx, hb, hml, hown, htb⟩ (k_Y_size (l := l) (D := D) (tc := tc) (A := A) hw) (cw_A_31 htb ⟨Nat.le_of_ble_eq_true rfl, Nat.le_of_ble_eq_true rfl⟩) (z_preV hG hA hS hM h23 rfl) rfl rfl hl.1 rfl (lv_room (Nat.le_of_ble_eq_true rfl)) dA_never_13 ⟨show cells + 0 ≤ mcT by omega, show slots + 0 ≤ msT by omega⟩) hS (fun _ _ h => h) (fun _ h => h) (fun r6 M5 t H locs ht hvm hw hB _ _ hS => ?_)
    have hM : zP D vwCl tc A M5 H := by rw [← ht]; exact hB
    refine lv_icmp_ge (tgt := 52) hx hb dA_never_16 (by decide) (fun hq => ?_) (fun hq => ?_)
    · have hw := hw.1 hq
      refine lv_iconst (v := (-1)) hx hb dA_never_52 (by decide +kernel) ?_
      refine vx_ret ?_
      refine W.widen (k := mcT) (n := msT) (by omega) (by omega) ?_
      exact W.iret hx hb hr (fun t ht hW => ⟨⟨_, _, rfl, hw, zB_of ht hM⟩, hS.F ht⟩) hS.2.2 dA_never_53
    · have hw := hw.2 hq
      refine lv_aload_n hx hb dA_never_19 rfl (lv_at hl 0 rfl) ?_
      obtain ⟨fs8, v7, h9, ev10, hw⟩ := hw
      refine z_get hx hb htb inw_A hown hK hM h9 rfl 1 (by decide) (htb _ t_58) (fun _ h9 => h9) ev10 dA_never_20 ?_
      refine lv_iload_n hx hb dA_never_23 rfl (lv_at hl 3 rfl) ?_
      obtain ⟨⟨fs20, h21⟩, hw⟩ := hw
      refine va_callq (va_runV (As := [.int l3]) (rest := []) ⟨hx, hb, hml, hown, htb⟩ (k_Y_get (l := l) (D := D) (tc := tc) (A := A) hw) (cw_A_203 htb ⟨Nat.le_of_ble_eq_true rfl, Nat.le_of_ble_eq_true rfl⟩) (z_preV hG hA hS hM h21 rfl) rfl rfl hl.1 rfl (lv_room (Nat.le_of_ble_eq_true rfl)) dA_never_24 ⟨show cells + 0 ≤ mcT by omega, show slots + 0 ≤ msT by omega⟩) hS (fun _ _ h => h) (fun _ h => h) (fun r12 M11 t H locs ht hvm hw hB _ _ hS => ?_)
      have hM : zP D vwCl tc A M11 H := by rw [← ht]; exact hB
      obtain ⟨a13, rfl, hw⟩ := hw
      obtain ⟨⟨fs14, h15⟩, hw⟩ := hw
      refine va_castS hx hb hown (htb _ t_333) (hK.1 3 _ rfl).2 (z_recv hK hM h15 rfl) dA_never_27 ?_
      obtain ⟨⟨fs18, h19⟩, hw⟩ := hw
      refine va_calli (va_runV (As := []) (rest := []) ⟨hx, hb, hml, hown, htb⟩ (k_P_neverAnswers (l := l) (D := D) (tc := tc) (A := A) hw) (cw_A_207 htb ⟨Nat.le_of_ble_eq_true rfl, Nat.le_of_ble_eq_true rfl⟩) (z_preV hG hA hS hM h19 rfl) rfl rfl hl.1 rfl (lv_room (Nat.le_of_ble_eq_true rfl)) dA_never_30 ⟨show cells + 0 ≤ mcT by omega, show slots + 0 ≤ msT by omega⟩) hS (fun _ _ h => h) (fun _ h => h) (fun r17 M16 t H locs ht hvm hw hB _ _ hS => ?_)
      have hM : zP D vwCl tc A M16 H := by rw [← ht]; exact hB
      refine lv_if_eq (tgt := 46) hx hb dA_never_33 (by decide) (fun hq => ?_) (fun hq => ?_)
      · have hw := hw.1 hq
        exact k_A_never_j46 C0 hst ih _ _ _ _ _ _ _ _ _ _ _ _ (show cells + mc ≤ mcT by omega) (show slots + ms ≤ msT by omega) hM hS (lv_sub hl [0, 1, 2, 3] rfl) hw
      · have hw := hw.2 hq
        refine lv_iload_n hx hb dA_never_36 rfl (lv_at hl 2 rfl) ?_
        refine lv_iload_n hx hb dA_never_37 rfl (lv_at hl 1 rfl) ?_
        refine lv_icmp_ne (tgt := 43) hx hb dA_never_38 (by decide) (fun hq => ?_) (fun hq => ?_)
        · have hw := hw.2 hq
          refine lv_iinc (v := (l2 + 1)) (lv' := [(2, .int (l2 + 1)), (0, .ref l0), (1, .int l1), (3, .int l3)]) hx hb dA_never_43 hl (k := 2) rfl rfl (by decide) rfl (fun ls hl => ?_)
          exact k_A_never_j46 C0 hst ih _ _ _ _ _ _ _ _ _ _ _ _ (show cells + mc ≤ mcT by omega) (show slots + ms ≤ msT by omega) hM hS (lv_sub hl [1, 2, 0, 3] rfl) hw
        · have hw := hw.1 hq
          refine lv_iload_n hx hb dA_never_41 rfl (lv_at hl 3 rfl) ?_
          refine vx_ret ?_
          refine W.widen (k := mcT) (n := msT) (by omega) (by omega) ?_
          exact W.iret hx hb hr (fun t ht hW => ⟨⟨_, _, rfl, hw, zB_of ht hM⟩, hS.F ht⟩) hS.2.2 dA_never_42
def w_A_never (e0 : Nat) (post : Int32 → zM → Prop) (px : String → zM → Prop) (mc : Nat) (ms : Nat) (M : zM) (h0 : Nat) (x1 : Int32) : Prop := ∃ mc2 ms3 : Nat, mc2 ≤ mc ∧ ms3 ≤ ms ∧ w_A_requireNotBelowZero e0 (fun M1 => ∃ nn, w_A_never_j8 e0 post px nn (mc - mc2) (ms - ms3) M1 h0 x1 0 0) px mc2 ms3 M x1
set_option maxHeartbeats 4000000 in
set_option maxRecDepth 100000 in
theorem k_A_never {l : Launch} {D : va_G} {tc : Nat → ClassId} {A : Nat → Prop} {mc ms : Nat} {post : Int32 → zM → Prop} {px : String → zM → Prop} {M : zM} {h0 : Nat} {x1 : Int32} (hst : l.stackTraces = false) (hw : w_A_never (tc 9) post px mc ms M h0 x1) : vx_Met l yA_never (.code yA_never cA_never 4 (some .int) :: zTB) (r_A_never mc ms) (va_Pc [.ref h0, .int x1] (zI D tc A M)) (va_Qi post (zB D tc A) A) (zX D tc A px) mc ms A := by
  refine vx_ofW (cc := cA_never) (maxL := 4) (ret := (some .int)) (by decide) rfl ?_
  intro p e s m args below meth c s₁ B hml ht9 hv
  obtain ⟨rfl, hA, hM, hG⟩ := hv
  have C0 := zC_of (D := D) (tc := tc) (A := A) B hml ht9 hA hG
  obtain ⟨hx, hb, hml, hr, hown, htb, hlk, hA, hG, hin, hex⟩ := id C0
  have hK := hG.1
  have hS : va_S A s.heap s.heap [] := va_S.rf
  have hl := lv_entry ([.ref h0, .int x1]) (n := 4) (Nat.le_of_ble_eq_true rfl)
  rw [lg_entry_eq]
  generalize (lg_sl ([.ref h0, .int x1]) ++ List.replicate (4 - (lg_sl ([.ref h0, .int x1])).length) Slot.unset).toArray = ls at hl ⊢
  have hl : lv_has ls 4 [(0, .ref h0), (1, .int x1)] := hl
  refine lv_iload_n hx hb dA_never_0 rfl (lv_at hl 1 rfl) ?_
  obtain ⟨mc2, ms3, hbmc2, hbms3, hw⟩ := hw
  refine vx_callv (vx_runS (As := [.int x1]) (rest := []) ⟨hx, hb, hml, hown, htb⟩ (k_A_requireNotBelowZero (l := l) (D := D) (tc := tc) (A := A) hst hw) (cw_A_178 htb ⟨Nat.le_of_ble_eq_true rfl, Nat.le_of_ble_eq_true rfl⟩) (z_preS hG hA hS hM) rfl rfl hl.1 rfl (lv_room (Nat.le_of_ble_eq_true rfl)) dA_never_1 ⟨show 0 + mc2 ≤ mc by omega, show 0 + ms3 ≤ ms by omega⟩) hS (fun _ _ h => h) (fun _ h => h) (fun _ _ h => h) (fun E9 ce9 q9 u9 t9 H locs ht hvm hw hB _ _ hS hce hcv hcl => z_out (fun x9 hx9 => (hex x9 hx9).elim) hlk hce hcv hcl ht hB hS hw (show 0 + mc2 ≤ mc by omega) (show 0 + ms3 ≤ ms by omega)) (fun M1 t H locs ht hvm hw hB _ _ hS => ?_)
  have hM : zP D vwCl tc A M1 H := by rw [← ht]; exact hB
  refine lv_iconst (v := 0) hx hb dA_never_4 (by decide +kernel) ?_
  refine lv_istore_n (lv' := [(2, .int 0), (0, .ref h0), (1, .int x1)]) hx hb dA_never_5 rfl hl (by decide) rfl (fun ls hl => ?_)
  refine lv_iconst (v := 0) hx hb dA_never_6 (by decide +kernel) ?_
  refine lv_istore_n (lv' := [(3, .int 0), (2, .int 0), (0, .ref h0), (1, .int x1)]) hx hb dA_never_7 rfl hl (by decide) rfl (fun ls hl => ?_)
  obtain ⟨nfu, hw⟩ := hw
  exact k_A_never_j8 C0 hst  nfu _ _ _ _ _ _ _ _ _ _ _ _ (show (0 + mc2) + (mc - mc2) ≤ mc by omega) (show (0 + ms3) + (ms - ms3) ≤ ms by omega) hM hS (lv_sub hl [2, 3, 1, 0] rfl) hw
abbrev r_A_openAlarms : Room := { frames := 3, cells := 0, slots := 0, locals := 64 }
abbrev J_A_openAlarms_35 (p : Program) (l : Launch) (e : Env) (s : State) (m : MethodId) (args : Array Value) (below : List Frame) (meth : Method) (c : Code) (D : va_G) (tc : Nat → ClassId) (A : Nat → Prop) (Q : State → Prop) (K : zM → Nat → Int32 → Int32 → Prop) : Prop := ∀ (M : zM) (l0 : Nat) (l1 : Int32) (l2 : Int32) (H : Heap) (locs : List Loc) (ls : Array Slot), zP D vwCl tc A M H → va_S A s.heap H locs → lv_has ls 3 [(0, .ref l0), (1, .int l1), (2, .int l2)] → K M l0 l1 l2 → W p l e (r_A_openAlarms) s m args below meth c H locs 0 0 Q (F0 m 35 ls [])
abbrev J_A_openAlarms_4 (p : Program) (l : Launch) (e : Env) (s : State) (m : MethodId) (args : Array Value) (below : List Frame) (meth : Method) (c : Code) (D : va_G) (tc : Nat → ClassId) (A : Nat → Prop) (Q : State → Prop) (K : zM → Nat → Int32 → Int32 → Prop) : Prop := ∀ (M : zM) (l0 : Nat) (l1 : Int32) (l2 : Int32) (H : Heap) (locs : List Loc) (ls : Array Slot), zP D vwCl tc A M H → va_S A s.heap H locs → lv_has ls 3 [(0, .ref l0), (1, .int l1), (2, .int l2)] → K M l0 l1 l2 → W p l e (r_A_openAlarms) s m args below meth c H locs 0 0 Q (F0 m 4 ls [])
def w_A_openAlarms_j35 (e0 : Nat) (post : Int32 → zM → Prop) (K4 : zM → Nat → Int32 → Int32 → Prop) (M : zM) (l0 : Nat) (l1 : Int32) (l2 : Int32) : Prop := K4 M l0 l1 (l2 + 1)
set_option maxHeartbeats 4000000 in
set_option maxRecDepth 100000 in
theorem k_A_openAlarms_j35 {p : Program} {l : Launch} {e : Env} {s : State} {m : MethodId} {args : Array Value} {below : List Frame} {meth : Method} {c : Code} {D : va_G} {tc : Nat → ClassId} {A : Nat → Prop} {post : Int32 → zM → Prop} (C0 : zC R_A cA_openAlarms 3 (some .int) "openAlarms" D tc A p l s m args meth c) {K4 : zM → Nat → Int32 → Int32 → Prop} (hK4 : J_A_openAlarms_4 p l e s m args below meth c D tc A (MQ below (va_Qi post (zB D tc A) A) args s 0 0 A) K4) : J_A_openAlarms_35 p l e s m args below meth c D tc A (MQ below (va_Qi post (zB D tc A) A) args s 0 0 A) (w_A_openAlarms_j35 (tc 9) post K4) := by
  obtain ⟨hx, hb, hml, hr, hown, htb, hlk, hA, hG, hin, hex⟩ := id C0
  have hK := hG.1
  intro M l0 l1 l2 H locs ls hM hS hl hw
  refine lv_iinc (v := (l2 + 1)) (lv' := [(2, .int (l2 + 1)), (0, .ref l0), (1, .int l1)]) hx hb dA_openAlarms_35 hl (k := 2) rfl rfl (by decide) rfl (fun ls hl => ?_)
  refine lv_goto (tgt := 4) hx hb dA_openAlarms_38 (by decide) ?_
  exact hK4 _ _ _ _ _ _ _ hM hS (lv_sub hl [1, 2, 0] rfl) hw
def w_A_openAlarms_j4 (e0 : Nat) (post : Int32 → zM → Prop) : Nat → zM → Nat → Int32 → Int32 → Prop
  | 0 => fun _ _ _ _ => False
  | n + 1 => fun M l0 l1 l2 => wGR M l0 0 2 (fun v1 => wIs M v1 5 ∧ w_Y_size e0 (fun r6 M5 => ((r6 ≤ l2) → post l1 M5) ∧ (¬ (r6 ≤ l2) → wGR M5 l0 0 2 (fun v7 => wIs M5 v7 5 ∧ w_Y_get e0 (fun r12 M11 => wSm r12 (fun a13 => wIs M11 a13 1 ∧ wGI M11 a13 1 7 (fun v16 => ((v16 = 0) → w_A_openAlarms_j35 e0 post (w_A_openAlarms_j4 e0 post n) M11 l0 (l1 + 1) l2) ∧ (¬ (v16 = 0) → w_A_openAlarms_j35 e0 post (w_A_openAlarms_j4 e0 post n) M11 l0 l1 l2)))) M5 v7 l2))) M v1)
set_option maxHeartbeats 4000000 in
set_option maxRecDepth 100000 in
theorem k_A_openAlarms_j4 {p : Program} {l : Launch} {e : Env} {s : State} {m : MethodId} {args : Array Value} {below : List Frame} {meth : Method} {c : Code} {D : va_G} {tc : Nat → ClassId} {A : Nat → Prop} {post : Int32 → zM → Prop} (C0 : zC R_A cA_openAlarms 3 (some .int) "openAlarms" D tc A p l s m args meth c) : ∀ n : Nat, J_A_openAlarms_4 p l e s m args below meth c D tc A (MQ below (va_Qi post (zB D tc A) A) args s 0 0 A) (w_A_openAlarms_j4 (tc 9) post n) := by
  obtain ⟨hx, hb, hml, hr, hown, htb, hlk, hA, hG, hin, hex⟩ := id C0
  have hK := hG.1
  intro n
  induction n with
  | zero => intro M l0 l1 l2 H locs ls hM hS hl hw; exact hw.elim
  | succ n ih =>
    intro M l0 l1 l2 H locs ls hM hS hl hw
    refine lv_iload_n hx hb dA_openAlarms_4 rfl (lv_at hl 2 rfl) ?_
    refine lv_aload_n hx hb dA_openAlarms_5 rfl (lv_at hl 0 rfl) ?_
    obtain ⟨fs2, v1, h3, ev4, hw⟩ := hw
    refine z_get hx hb htb inw_A hown hK hM h3 rfl 2 (by decide) (htb _ t_59) (fun _ h9 => h9) ev4 dA_openAlarms_6 ?_
    obtain ⟨⟨fs22, h23⟩, hw⟩ := hw
    refine va_calli (va_runV (As := []) (rest := [.int l2]) ⟨hx, hb, hml, hown, htb⟩ (k_Y_size (l := l) (D := D) (tc := tc) (A := A) hw) (cw_A_31 htb ⟨Nat.le_of_ble_eq_true rfl, Nat.le_of_ble_eq_true rfl⟩) (z_preV hG hA hS hM h23 rfl) rfl rfl hl.1 rfl (lv_room (Nat.le_of_ble_eq_true rfl)) dA_openAlarms_9 ⟨Nat.le_refl _, Nat.le_refl _⟩) hS (fun _ _ h => h) (fun _ h => h) (fun r6 M5 t H locs ht hvm hw hB _ _ hS => ?_)
    have hM : zP D vwCl tc A M5 H := by rw [← ht]; exact hB
    refine lv_icmp_ge (tgt := 41) hx hb dA_openAlarms_12 (by decide) (fun hq => ?_) (fun hq => ?_)
    · have hw := hw.1 hq
      refine lv_iload_n hx hb dA_openAlarms_41 rfl (lv_at hl 1 rfl) ?_
      exact W.iret hx hb hr (fun t ht hW => ⟨⟨_, _, rfl, hw, zB_of ht hM⟩, hS.F ht⟩) hS.2.2 dA_openAlarms_42
    · have hw := hw.2 hq
      refine lv_aload_n hx hb dA_openAlarms_15 rfl (lv_at hl 0 rfl) ?_
      obtain ⟨fs8, v7, h9, ev10, hw⟩ := hw
      refine z_get hx hb htb inw_A hown hK hM h9 rfl 2 (by decide) (htb _ t_59) (fun _ h9 => h9) ev10 dA_openAlarms_16 ?_
      refine lv_iload_n hx hb dA_openAlarms_19 rfl (lv_at hl 2 rfl) ?_
      obtain ⟨⟨fs20, h21⟩, hw⟩ := hw
      refine va_callq (va_runV (As := [.int l2]) (rest := []) ⟨hx, hb, hml, hown, htb⟩ (k_Y_get (l := l) (D := D) (tc := tc) (A := A) hw) (cw_A_203 htb ⟨Nat.le_of_ble_eq_true rfl, Nat.le_of_ble_eq_true rfl⟩) (z_preV hG hA hS hM h21 rfl) rfl rfl hl.1 rfl (lv_room (Nat.le_of_ble_eq_true rfl)) dA_openAlarms_20 ⟨Nat.le_refl _, Nat.le_refl _⟩) hS (fun _ _ h => h) (fun _ h => h) (fun r12 M11 t H locs ht hvm hw hB _ _ hS => ?_)
      have hM : zP D vwCl tc A M11 H := by rw [← ht]; exact hB
      obtain ⟨a13, rfl, hw⟩ := hw
      obtain ⟨⟨fs14, h15⟩, hw⟩ := hw
      refine va_castS hx hb hown (htb _ t_415) (hK.1 1 _ rfl).2 (z_recv hK hM h15 rfl) dA_openAlarms_23 ?_
      obtain ⟨fs17, v16, h18, ev19, hw⟩ := hw
      refine z_getN hx hb htb inw_L hown hK hM h18 rfl 7 (by decide) (va_Nw.use rfl (hG.2.1 _ t_437)) (fun _ h9 => h9) ev19 dA_openAlarms_26 ?_
      refine lv_if_ne (tgt := 35) hx hb dA_openAlarms_29 (by decide) (fun hq => ?_) (fun hq => ?_)
      · have hw := hw.2 hq
        exact k_A_openAlarms_j35 C0 ih _ _ _ _ _ _ _ hM hS (lv_sub hl [0, 1, 2] rfl) hw
      · have hw := hw.1 hq
        refine lv_iinc (v := (l1 + 1)) (lv' := [(1, .int (l1 + 1)), (0, .ref l0), (2, .int l2)]) hx hb dA_openAlarms_32 hl (k := 1) rfl rfl (by decide) rfl (fun ls hl => ?_)
        exact k_A_openAlarms_j35 C0 ih _ _ _ _ _ _ _ hM hS (lv_sub hl [1, 0, 2] rfl) hw
def w_A_openAlarms (e0 : Nat) (post : Int32 → zM → Prop) (M : zM) (h0 : Nat) : Prop := ∃ nn, w_A_openAlarms_j4 e0 post nn M h0 0 0
set_option maxHeartbeats 4000000 in
set_option maxRecDepth 100000 in
theorem k_A_openAlarms {l : Launch} {D : va_G} {tc : Nat → ClassId} {A : Nat → Prop} {post : Int32 → zM → Prop} {M : zM} {h0 : Nat} (hw : w_A_openAlarms (tc 9) post M h0) : Met l yA_openAlarms (.code yA_openAlarms cA_openAlarms 3 (some .int) :: zTB) r_A_openAlarms (va_Pc [.ref h0] (zI D tc A M)) (va_Qi post (zB D tc A) A) 0 0 A := by
  refine Met.ofW (cc := cA_openAlarms) (maxL := 3) (ret := (some .int)) (by decide +kernel) rfl ?_
  intro p e s m args below meth c s₁ B hml hv
  obtain ⟨rfl, hA, hM, hG⟩ := hv
  have C0 := zC_of (D := D) (tc := tc) (A := A) B hml (zC_ex B) hA hG
  obtain ⟨hx, hb, hml, hr, hown, htb, hlk, hA, hG, hin, hex⟩ := id C0
  have hK := hG.1
  have hS : va_S A s.heap s.heap [] := va_S.rf
  have hl := lv_entry ([.ref h0]) (n := 3) (Nat.le_of_ble_eq_true rfl)
  rw [lg_entry_eq]
  generalize (lg_sl ([.ref h0]) ++ List.replicate (3 - (lg_sl ([.ref h0])).length) Slot.unset).toArray = ls at hl ⊢
  have hl : lv_has ls 3 [(0, .ref h0)] := hl
  refine lv_iconst (v := 0) hx hb dA_openAlarms_0 (by decide +kernel) ?_
  refine lv_istore_n (lv' := [(1, .int 0), (0, .ref h0)]) hx hb dA_openAlarms_1 rfl hl (by decide) rfl (fun ls hl => ?_)
  refine lv_iconst (v := 0) hx hb dA_openAlarms_2 (by decide +kernel) ?_
  refine lv_istore_n (lv' := [(2, .int 0), (1, .int 0), (0, .ref h0)]) hx hb dA_openAlarms_3 rfl hl (by decide) rfl (fun ls hl => ?_)
  obtain ⟨nfu, hw⟩ := hw
  exact k_A_openAlarms_j4 C0  nfu _ _ _ _ _ _ _ hM hS (lv_sub hl [2, 1, 0] rfl) hw
abbrev r_A_count (mc ms : Nat) : Room := { frames := 6, cells := mc, slots := ms, locals := 90 }
def w_A_count (e0 : Nat) (post : Int32 → zM → Prop) (px : String → zM → Prop) (mc : Nat) (ms : Nat) (M : zM) (h0 : Nat) (x1 : Int32) : Prop := (x1 = 0 → wGI M h0 0 3 (fun v1 => post v1 M)) ∧ (x1 = 1 → wIs M h0 0 ∧ w_A_openAlarms e0 (fun r6 M5 => post r6 M5) M h0) ∧ (x1 = 2 → wGI M h0 0 4 (fun v9 => post v9 M)) ∧ (x1 = 3 → wGI M h0 0 5 (fun v13 => post v13 M)) ∧ (x1 = 4 → wGI M h0 0 6 (fun v17 => post v17 M)) ∧ (¬ x1 = 0 → ¬ x1 = 1 → ¬ x1 = 2 → ¬ x1 = 3 → ¬ x1 = 4 → 1 ≤ mc ∧ 6 ≤ ms ∧ px "java/lang/IllegalArgumentException" M)
set_option maxHeartbeats 4000000 in
set_option maxRecDepth 100000 in
theorem k_A_count {l : Launch} {D : va_G} {tc : Nat → ClassId} {A : Nat → Prop} {mc ms : Nat} {post : Int32 → zM → Prop} {px : String → zM → Prop} {M : zM} {h0 : Nat} {x1 : Int32} (hst : l.stackTraces = false) (hw : w_A_count (tc 9) post px mc ms M h0 x1) : vx_Met l yA_count (.code yA_count cA_count 2 (some .int) :: zTB) (r_A_count mc ms) (va_Pc [.ref h0, .int x1] (zI D tc A M)) (va_Qi post (zB D tc A) A) (zX D tc A px) mc ms A := by
  refine vx_ofW (cc := cA_count) (maxL := 2) (ret := (some .int)) (by decide) rfl ?_
  intro p e s m args below meth c s₁ B hml ht9 hv
  obtain ⟨rfl, hA, hM, hG⟩ := hv
  have C0 := zC_of (D := D) (tc := tc) (A := A) B hml ht9 hA hG
  obtain ⟨hx, hb, hml, hr, hown, htb, hlk, hA, hG, hin, hex⟩ := id C0
  have hK := hG.1
  have hS : va_S A s.heap s.heap [] := va_S.rf
  have hl := lv_entry ([.ref h0, .int x1]) (n := 2) (Nat.le_of_ble_eq_true rfl)
  rw [lg_entry_eq]
  generalize (lg_sl ([.ref h0, .int x1]) ++ List.replicate (2 - (lg_sl ([.ref h0, .int x1])).length) Slot.unset).toArray = ls at hl ⊢
  have hl : lv_has ls 2 [(0, .ref h0), (1, .int x1)] := hl
  refine lv_iload_n hx hb dA_count_0 rfl (lv_at hl 1 rfl) ?_
  rcases Classical.em (x1 = 0) with hq0 | hq0
  · have hw := hw.1 hq0
    refine lv_tableIn (off := 35) (tgt := 36) hx hb dA_count_1 (by rw [hq0]; decide) (by rw [hq0]; decide) (by rw [hq0]; rfl) (by decide) ?_
    refine lv_aload_n hx hb dA_count_36 rfl (lv_at hl 0 rfl) ?_
    obtain ⟨fs2, v1, h3, ev4, hw⟩ := hw
    refine z_get hx hb htb inw_A hown hK hM h3 rfl 3 (by decide) (htb _ t_60) (fun _ h9 => h9) ev4 dA_count_37 ?_
    refine vx_ret ?_
    refine W.widen (k := mc) (n := ms) (by omega) (by omega) ?_
    exact W.iret hx hb hr (fun t ht hW => ⟨⟨_, _, rfl, hw, zB_of ht hM⟩, hS.F ht⟩) hS.2.2 dA_count_40
  rcases Classical.em (x1 = 1) with hq1 | hq1
  · have hw := hw.2.1 hq1
    refine lv_tableIn (off := 40) (tgt := 41) hx hb dA_count_1 (by rw [hq1]; decide) (by rw [hq1]; decide) (by rw [hq1]; rfl) (by decide) ?_
    refine lv_aload_n hx hb dA_count_41 rfl (lv_at hl 0 rfl) ?_
    obtain ⟨⟨fs7, h8⟩, hw⟩ := hw
    refine va_calli (va_runV (As := []) (rest := []) ⟨hx, hb, hml, hown, htb⟩ (k_A_openAlarms (l := l) (D := D) (tc := tc) (A := A) hw) (cw_A_211 htb ⟨Nat.le_of_ble_eq_true rfl, Nat.le_of_ble_eq_true rfl⟩) (z_preV hG hA hS hM h8 rfl) rfl rfl hl.1 rfl (lv_room (Nat.le_of_ble_eq_true rfl)) dA_count_42 ⟨show 0 + 0 ≤ mc by omega, show 0 + 0 ≤ ms by omega⟩) hS (fun _ _ h => h) (fun _ h => h) (fun r6 M5 t H locs ht hvm hw hB _ _ hS => ?_)
    have hM : zP D vwCl tc A M5 H := by rw [← ht]; exact hB
    refine vx_ret ?_
    refine W.widen (k := mc) (n := ms) (by omega) (by omega) ?_
    exact W.iret hx hb hr (fun t ht hW => ⟨⟨_, _, rfl, hw, zB_of ht hM⟩, hS.F ht⟩) hS.2.2 dA_count_45
  rcases Classical.em (x1 = 2) with hq2 | hq2
  · have hw := hw.2.2.1 hq2
    refine lv_tableIn (off := 45) (tgt := 46) hx hb dA_count_1 (by rw [hq2]; decide) (by rw [hq2]; decide) (by rw [hq2]; rfl) (by decide) ?_
    refine lv_aload_n hx hb dA_count_46 rfl (lv_at hl 0 rfl) ?_
    obtain ⟨fs10, v9, h11, ev12, hw⟩ := hw
    refine z_get hx hb htb inw_A hown hK hM h11 rfl 4 (by decide) (htb _ t_61) (fun _ h9 => h9) ev12 dA_count_47 ?_
    refine vx_ret ?_
    refine W.widen (k := mc) (n := ms) (by omega) (by omega) ?_
    exact W.iret hx hb hr (fun t ht hW => ⟨⟨_, _, rfl, hw, zB_of ht hM⟩, hS.F ht⟩) hS.2.2 dA_count_50
  rcases Classical.em (x1 = 3) with hq3 | hq3
  · have hw := hw.2.2.2.1 hq3
    refine lv_tableIn (off := 50) (tgt := 51) hx hb dA_count_1 (by rw [hq3]; decide) (by rw [hq3]; decide) (by rw [hq3]; rfl) (by decide) ?_
    refine lv_aload_n hx hb dA_count_51 rfl (lv_at hl 0 rfl) ?_
    obtain ⟨fs14, v13, h15, ev16, hw⟩ := hw
    refine z_get hx hb htb inw_A hown hK hM h15 rfl 5 (by decide) (htb _ t_62) (fun _ h9 => h9) ev16 dA_count_52 ?_
    refine vx_ret ?_
    refine W.widen (k := mc) (n := ms) (by omega) (by omega) ?_
    exact W.iret hx hb hr (fun t ht hW => ⟨⟨_, _, rfl, hw, zB_of ht hM⟩, hS.F ht⟩) hS.2.2 dA_count_55
  rcases Classical.em (x1 = 4) with hq4 | hq4
  · have hw := hw.2.2.2.2.1 hq4
    refine lv_tableIn (off := 55) (tgt := 56) hx hb dA_count_1 (by rw [hq4]; decide) (by rw [hq4]; decide) (by rw [hq4]; rfl) (by decide) ?_
    refine lv_aload_n hx hb dA_count_56 rfl (lv_at hl 0 rfl) ?_
    obtain ⟨fs18, v17, h19, ev20, hw⟩ := hw
    refine z_get hx hb htb inw_A hown hK hM h19 rfl 6 (by decide) (htb _ t_63) (fun _ h9 => h9) ev20 dA_count_57 ?_
    refine vx_ret ?_
    refine W.widen (k := mc) (n := ms) (by omega) (by omega) ?_
    exact W.iret hx hb hr (fun t ht hW => ⟨⟨_, _, rfl, hw, zB_of ht hM⟩, hS.F ht⟩) hS.2.2 dA_count_60
  have hw := hw.2.2.2.2.2 hq0 hq1 hq2 hq3 hq4
  refine lv_tableOut (tgt := 61) hx hb dA_count_1 (by have h9 := z_tsw (x := x1) (n := 5) (by decide) (fun k hk => match k, hk with | 0, _ => hq0 | 1, _ => hq1 | 2, _ => hq2 | 3, _ => hq3 | 4, _ => hq4 | k + 5, h => absurd h (by omega)); omega) (by decide) ?_
  obtain ⟨hbu1, hbu2, hw⟩ := hw
  exact z_throwS (k := 20) hx hb hst hown (by decide +kernel) (htb _ t_279) (htb _ t_16) rfl (th_A_177 htb hG.2.1) thg_A_173_177 hG hS hM (hl.1.trans hml.symm) dA_count_61 dA_count_64 dA_count_65 dA_count_67 dA_count_70 (fun x9 hx9 => (hex x9 hx9).elim) (Nat.le_of_ble_eq_true rfl) (Nat.le_of_ble_eq_true rfl) (show 0 + 1 ≤ mc by omega) (show 0 + 6 ≤ ms by omega) hlk hw (show 0 + 1 ≤ mc by omega) (show 0 + 6 ≤ ms by omega)
