abbrev r_G_init : Room := { frames := 1, cells := 0, slots := 0, locals := 40 }
def w_G_init (e0 : Nat) (post : zM → Prop) (M : zM) (h0 : Nat) (x1 : Int32) (x2 : Int32) : Prop := wPF M h0 2 0 (.int x1) (fun M4 => wPF M4 h0 2 1 (.int x2) (fun M8 => wPF M8 h0 2 2 (.int (-1)) (fun M12 => post M12)))
set_option maxHeartbeats 4000000 in
set_option maxRecDepth 100000 in
theorem k_G_init {l : Launch} {D : va_G} {tc : Nat → ClassId} {A : Nat → Prop} {post : zM → Prop} {M : zM} {h0 : Nat} {x1 : Int32} {x2 : Int32} (hw : w_G_init (tc 9) post M h0 x1 x2) : Met l yG_init (.code yG_init cG_init 3 none :: zTB) r_G_init (va_Pc [.ref h0, .int x1, .int x2] (zI D tc A M)) (va_Qv post (zB D tc A) A) 0 0 A := by
  refine Met.ofW (cc := cG_init) (maxL := 3) (ret := none) (by decide +kernel) rfl ?_
  intro p e s m args below meth c s₁ B hml hv
  obtain ⟨rfl, hA, hM, hG⟩ := hv
  have C0 := zC_of (D := D) (tc := tc) (A := A) B hml (zC_ex B) hA hG
  obtain ⟨hx, hb, hml, hr, hown, htb, hlk, hA, hG, hin, hex⟩ := id C0
  have hK := hG.1
  have hS : va_S A s.heap s.heap [] := va_S.rf
  have hl := lv_entry ([.ref h0, .int x1, .int x2]) (n := 3) (Nat.le_of_ble_eq_true rfl)
  rw [lg_entry_eq]
  generalize (lg_sl ([.ref h0, .int x1, .int x2]) ++ List.replicate (3 - (lg_sl ([.ref h0, .int x1, .int x2])).length) Slot.unset).toArray = ls at hl ⊢
  have hl : lv_has ls 3 [(0, .ref h0), (1, .int x1), (2, .int x2)] := hl
  refine lv_aload_n hx hb dG_init_0 rfl (lv_at hl 0 rfl) ?_
  refine W.objInit hx hb hown (htb _ t_184) (htb _ t_29) (htb _ t_30) rfl (by rw [hml]; exact hl.1) rfl dG_init_1 (Nat.le_of_ble_eq_true rfl) (Nat.le_of_ble_eq_true rfl) ?_
  refine lv_aload_n hx hb dG_init_4 rfl (lv_at hl 0 rfl) ?_
  refine lv_iload_n hx hb dG_init_5 rfl (lv_at hl 1 rfl) ?_
  obtain ⟨fs1, h2, hl3, hw⟩ := hw
  refine z_putF (ty := .int) hx hb htb inw_G ty_G tyok_G nmok_G hown hK hM hS h2 rfl 0 (by decide) (htb _ t_185) (fun _ h9 => h9) rfl hin rfl (by decide +kernel) rfl rfl hl3 dG_init_6 (fun H locs hM hS => ?_)
  refine lv_aload_n hx hb dG_init_9 rfl (lv_at hl 0 rfl) ?_
  refine lv_iload_n hx hb dG_init_10 rfl (lv_at hl 2 rfl) ?_
  obtain ⟨fs5, h6, hl7, hw⟩ := hw
  refine z_putF (ty := .int) hx hb htb inw_G ty_G tyok_G nmok_G hown hK hM hS h6 rfl 1 (by decide) (htb _ t_187) (fun _ h9 => h9) rfl hin rfl (by decide +kernel) rfl rfl hl7 dG_init_11 (fun H locs hM hS => ?_)
  refine lv_aload_n hx hb dG_init_14 rfl (lv_at hl 0 rfl) ?_
  refine lv_iconst (v := (-1)) hx hb dG_init_15 (by decide +kernel) ?_
  obtain ⟨fs9, h10, hl11, hw⟩ := hw
  refine z_put (ty := .int) hx hb htb inw_G ty_G tyok_G nmok_G hown hK hM hS h10 rfl 2 (by decide) (htb _ t_189) (fun _ h9 => h9) rfl (by decide +kernel) rfl rfl hl11 dG_init_16 (fun H locs hM hS => ?_)
  exact W.vret hx hb hr (fun t ht hW => ⟨⟨_, rfl, hw, zB_of ht hM⟩, hS.F ht⟩) hS.2.2 dG_init_19
abbrev r_P_init (mc ms : Nat) : Room := { frames := 1, cells := mc, slots := ms, locals := 40 }
def w_P_init (e0 : Nat) (post : zM → Prop) (mc : Nat) (ms : Nat) (M : zM) (h0 : Nat) (x1 : Int32) : Prop := wPF M h0 3 0 (.int x1) (fun M4 => wNA M4 0 3 3 4 mc ms (fun q5 M11 => wPF M11 h0 3 1 (.ref q5) (fun M15 => wNA M15 1 3 3 1 (mc - 1) (ms - 3) (fun q16 M22 => wPF M22 h0 3 2 (.ref q16) (fun M26 => wPF M26 h0 3 4 (.int 0) (fun M30 => post M30))))))
set_option maxHeartbeats 4000000 in
set_option maxRecDepth 100000 in
theorem k_P_init {l : Launch} {D : va_G} {tc : Nat → ClassId} {A : Nat → Prop} {mc ms : Nat} {post : zM → Prop} {M : zM} {h0 : Nat} {x1 : Int32} (hw : w_P_init (tc 9) post mc ms M h0 x1) : Met l yP_init (.code yP_init cP_init 2 none :: zTB) (r_P_init mc ms) (va_Pc [.ref h0, .int x1] (zI D tc A M)) (va_Qv post (zB D tc A) A) mc ms A := by
  refine Met.ofW (cc := cP_init) (maxL := 2) (ret := none) (by decide +kernel) rfl ?_
  intro p e s m args below meth c s₁ B hml hv
  obtain ⟨rfl, hA, hM, hG⟩ := hv
  have C0 := zC_of (D := D) (tc := tc) (A := A) B hml (zC_ex B) hA hG
  obtain ⟨hx, hb, hml, hr, hown, htb, hlk, hA, hG, hin, hex⟩ := id C0
  have hK := hG.1
  have hS : va_S A s.heap s.heap [] := va_S.rf
  have hl := lv_entry ([.ref h0, .int x1]) (n := 2) (Nat.le_of_ble_eq_true rfl)
  rw [lg_entry_eq]
  generalize (lg_sl ([.ref h0, .int x1]) ++ List.replicate (2 - (lg_sl ([.ref h0, .int x1])).length) Slot.unset).toArray = ls at hl ⊢
  have hl : lv_has ls 2 [(0, .ref h0), (1, .int x1)] := hl
  refine lv_aload_n hx hb dP_init_0 rfl (lv_at hl 0 rfl) ?_
  refine W.objInit hx hb hown (htb _ t_338) (htb _ t_29) (htb _ t_30) rfl (by rw [hml]; exact hl.1) rfl dP_init_1 (Nat.le_of_ble_eq_true rfl) (Nat.le_of_ble_eq_true rfl) ?_
  refine lv_aload_n hx hb dP_init_4 rfl (lv_at hl 0 rfl) ?_
  refine lv_iload_n hx hb dP_init_5 rfl (lv_at hl 1 rfl) ?_
  obtain ⟨fs1, h2, hl3, hw⟩ := hw
  refine z_putF (ty := .int) hx hb htb inw_P ty_P tyok_P nmok_P hown hK hM hS h2 rfl 0 (by decide) (htb _ t_339) (fun _ h9 => h9) rfl hin rfl (by decide +kernel) rfl rfl hl3 dP_init_6 (fun H locs hM hS => ?_)
  refine lv_aload_n hx hb dP_init_9 rfl (lv_at hl 0 rfl) ?_
  refine lv_iconst (v := 3) hx hb dP_init_10 (by decide +kernel) ?_
  obtain ⟨h6, h7, h8, h9, hN9, hw⟩ := hw
  refine z_newa (atype := .int) (a0 := (3, .inl (fun _ => 0))) hx hb (htb _ t_363) rfl hK hM hS hA 0 0 rfl (fun _ h => h) (fun _ => rfl) h6 hN9 h7 (show 0 + 1 ≤ mc by omega) (show 0 + 3 ≤ ms by omega) dP_init_11 (fun q5 H hn10 hM hS => ?_)
  have hw := hw q5 hn10
  obtain ⟨fs12, h13, hl14, hw⟩ := hw
  refine z_putF (ty := (.array .int)) hx hb htb inw_P ty_P tyok_P nmok_P hown hK hM hS h13 rfl 1 (by decide) (htb _ t_340) (fun _ h9 => h9) rfl hin rfl (by decide +kernel) rfl rfl hl14 dP_init_13 (fun H locs hM hS => ?_)
  refine lv_aload_n hx hb dP_init_16 rfl (lv_at hl 0 rfl) ?_
  refine lv_iconst (v := 3) hx hb dP_init_17 (by decide +kernel) ?_
  obtain ⟨h17, h18, h19, h20, hN9, hw⟩ := hw
  refine z_newa (atype := .boolean) (a0 := (3, .inl (fun _ => 0))) hx hb (htb _ t_364) rfl hK hM hS hA 1 1 rfl (fun _ h => h) (fun _ => rfl) h17 hN9 h18 (show (0 + 1) + 1 ≤ mc by omega) (show (0 + 3) + 3 ≤ ms by omega) dP_init_18 (fun q16 H hn21 hM hS => ?_)
  have hw := hw q16 hn21
  obtain ⟨fs23, h24, hl25, hw⟩ := hw
  refine z_putF (ty := (.array .boolean)) hx hb htb inw_P ty_P tyok_P nmok_P hown hK hM hS h24 rfl 2 (by decide) (htb _ t_341) (fun _ h9 => h9) rfl hin rfl (by decide +kernel) rfl rfl hl25 dP_init_20 (fun H locs hM hS => ?_)
  refine lv_aload_n hx hb dP_init_23 rfl (lv_at hl 0 rfl) ?_
  refine lv_iconst (v := 0) hx hb dP_init_24 (by decide +kernel) ?_
  obtain ⟨fs27, h28, hl29, hw⟩ := hw
  refine z_put (ty := .int) hx hb htb inw_P ty_P tyok_P nmok_P hown hK hM hS h28 rfl 4 (by decide) (htb _ t_344) (fun _ h9 => h9) rfl (by decide +kernel) rfl rfl hl29 dP_init_25 (fun H locs hM hS => ?_)
  refine W.widen (k := mc) (n := ms) (by omega) (by omega) ?_
  exact W.vret hx hb hr (fun t ht hW => ⟨⟨_, rfl, hw, zB_of ht hM⟩, hS.F ht⟩) hS.2.2 dP_init_28
abbrev r_P_setWay : Room := { frames := 0, cells := 0, slots := 0, locals := 0 }
abbrev J_P_setWay_31 (p : Program) (l : Launch) (e : Env) (s : State) (m : MethodId) (args : Array Value) (below : List Frame) (meth : Method) (c : Code) (D : va_G) (tc : Nat → ClassId) (A : Nat → Prop) (Q : State → Prop) (K : zM → Nat → Int32 → Int32 → Int32 → Prop) : Prop := ∀ (M : zM) (l0 : Nat) (l1 : Int32) (l2 : Int32) (l3 : Int32) (H : Heap) (locs : List Loc) (ls : Array Slot), zP D vwCl tc A M H → va_S A s.heap H locs → lv_has ls 4 [(0, .ref l0), (1, .int l1), (2, .int l2), (3, .int l3)] → K M l0 l1 l2 l3 → W p l e (r_P_setWay) s m args below meth c H locs 0 0 Q (F0 m 31 ls [])
abbrev J_P_setWay_2 (p : Program) (l : Launch) (e : Env) (s : State) (m : MethodId) (args : Array Value) (below : List Frame) (meth : Method) (c : Code) (D : va_G) (tc : Nat → ClassId) (A : Nat → Prop) (Q : State → Prop) (K : zM → Nat → Int32 → Int32 → Int32 → Prop) : Prop := ∀ (M : zM) (l0 : Nat) (l1 : Int32) (l2 : Int32) (l3 : Int32) (H : Heap) (locs : List Loc) (ls : Array Slot), zP D vwCl tc A M H → va_S A s.heap H locs → lv_has ls 4 [(0, .ref l0), (1, .int l1), (2, .int l2), (3, .int l3)] → K M l0 l1 l2 l3 → W p l e (r_P_setWay) s m args below meth c H locs 0 0 Q (F0 m 2 ls [])
def w_P_setWay_j31 (e0 : Nat) (post : zM → Prop) (M : zM) (l0 : Nat) (l1 : Int32) (l2 : Int32) (l3 : Int32) : Prop := ((l3 < 3) → wGR M l0 3 1 (fun v1 => wSI M v1 0 l3 l1 (fun M9 => wGR M9 l0 3 2 (fun v10 => wSZ M9 v10 1 l3 l2 (fun M18 => wGI M18 l0 3 3 (fun v19 => ((l3 = v19) → wGI M18 l0 3 3 (fun v23 => wPF M18 l0 3 3 (.int (v23 + 1)) (fun M30 => post M30))) ∧ (¬ (l3 = v19) → post M18))))))) ∧ (¬ (l3 < 3) → post M)
set_option maxHeartbeats 4000000 in
set_option maxRecDepth 100000 in
theorem k_P_setWay_j31 {p : Program} {l : Launch} {e : Env} {s : State} {m : MethodId} {args : Array Value} {below : List Frame} {meth : Method} {c : Code} {D : va_G} {tc : Nat → ClassId} {A : Nat → Prop} {post : zM → Prop} (C0 : zC R_P cP_setWay 4 none "setWay" D tc A p l s m args meth c) : J_P_setWay_31 p l e s m args below meth c D tc A (MQ below (va_Qv post (zB D tc A) A) args s 0 0 A) (w_P_setWay_j31 (tc 9) post) := by
  obtain ⟨hx, hb, hml, hr, hown, htb, hlk, hA, hG, hin, hex⟩ := id C0
  have hK := hG.1
  intro M l0 l1 l2 l3 H locs ls hM hS hl hw
  refine lv_iload_n hx hb dP_setWay_31 rfl (lv_at hl 3 rfl) ?_
  refine lv_iconst (v := 3) hx hb dP_setWay_32 (by decide +kernel) ?_
  refine lv_icmp_lt (tgt := 37) hx hb dP_setWay_33 (by decide) (fun hq => ?_) (fun hq => ?_)
  · have hw := hw.1 hq
    refine lv_aload_n hx hb dP_setWay_37 rfl (lv_at hl 0 rfl) ?_
    obtain ⟨fs2, v1, h3, ev4, hw⟩ := hw
    refine z_get hx hb htb inw_P hown hK hM h3 rfl 1 (by decide) (htb _ t_340) (fun _ h9 => h9) ev4 dP_setWay_38 ?_
    refine lv_iload_n hx hb dP_setWay_41 rfl (lv_at hl 3 rfl) ?_
    refine lv_iload_n hx hb dP_setWay_42 rfl (lv_at hl 1 rfl) ?_
    obtain ⟨n5, f6, h7, hi8, hw⟩ := hw
    refine z_iast hx hb hK hM hS 0 0 h7 rfl hi8 dP_setWay_43 (fun H locs hM hS => ?_)
    refine lv_aload_n hx hb dP_setWay_44 rfl (lv_at hl 0 rfl) ?_
    obtain ⟨fs11, v10, h12, ev13, hw⟩ := hw
    refine z_get hx hb htb inw_P hown hK hM h12 rfl 2 (by decide) (htb _ t_341) (fun _ h9 => h9) ev13 dP_setWay_45 ?_
    refine lv_iload_n hx hb dP_setWay_48 rfl (lv_at hl 3 rfl) ?_
    refine lv_iload_n hx hb dP_setWay_49 rfl (lv_at hl 2 rfl) ?_
    obtain ⟨n14, f15, h16, hi17, hw⟩ := hw
    refine z_zast hx hb hK hM hS 1 1 h16 rfl hi17 dP_setWay_50 (fun H locs hM hS => ?_)
    refine lv_iload_n hx hb dP_setWay_51 rfl (lv_at hl 3 rfl) ?_
    refine lv_aload_n hx hb dP_setWay_52 rfl (lv_at hl 0 rfl) ?_
    obtain ⟨fs20, v19, h21, ev22, hw⟩ := hw
    refine z_get hx hb htb inw_P hown hK hM h21 rfl 3 (by decide) (htb _ t_342) (fun _ h9 => h9) ev22 dP_setWay_53 ?_
    refine lv_icmp_ne (tgt := 69) hx hb dP_setWay_56 (by decide) (fun hq => ?_) (fun hq => ?_)
    · have hw := hw.2 hq
      exact W.vret hx hb hr (fun t ht hW => ⟨⟨_, rfl, hw, zB_of ht hM⟩, hS.F ht⟩) hS.2.2 dP_setWay_69
    · have hw := hw.1 hq
      refine lv_aload_n hx hb dP_setWay_59 rfl (lv_at hl 0 rfl) ?_
      refine lv_dup hx hb dP_setWay_60 rfl ?_
      obtain ⟨fs24, v23, h25, ev26, hw⟩ := hw
      refine z_get hx hb htb inw_P hown hK hM h25 rfl 3 (by decide) (htb _ t_342) (fun _ h9 => h9) ev26 dP_setWay_61 ?_
      refine lv_iconst (v := 1) hx hb dP_setWay_64 (by decide +kernel) ?_
      refine lv_iadd hx hb dP_setWay_65 ?_
      obtain ⟨fs27, h28, hl29, hw⟩ := hw
      refine z_put (ty := .int) hx hb htb inw_P ty_P tyok_P nmok_P hown hK hM hS h28 rfl 3 (by decide) (htb _ t_342) (fun _ h9 => h9) rfl (by decide +kernel) rfl rfl hl29 dP_setWay_66 (fun H locs hM hS => ?_)
      exact W.vret hx hb hr (fun t ht hW => ⟨⟨_, rfl, hw, zB_of ht hM⟩, hS.F ht⟩) hS.2.2 dP_setWay_69
  · have hw := hw.2 hq
    exact W.vret hx hb hr (fun t ht hW => ⟨⟨_, rfl, hw, zB_of ht hM⟩, hS.F ht⟩) hS.2.2 dP_setWay_36
def w_P_setWay_j2 (e0 : Nat) (post : zM → Prop) : Nat → zM → Nat → Int32 → Int32 → Int32 → Prop
  | 0 => fun _ _ _ _ _ => False
  | n + 1 => fun M l0 l1 l2 l3 => wGI M l0 3 3 (fun v1 => ((v1 ≤ l3) → w_P_setWay_j31 e0 post M l0 l1 l2 l3) ∧ (¬ (v1 ≤ l3) → ((3 ≤ l3) → w_P_setWay_j31 e0 post M l0 l1 l2 l3) ∧ (¬ (3 ≤ l3) → wGR M l0 3 1 (fun v5 => wLI M v5 0 l3 (fun v11 => ((v11 = l1) → w_P_setWay_j31 e0 post M l0 l1 l2 l3) ∧ (¬ (v11 = l1) → w_P_setWay_j2 e0 post n M l0 l1 l2 (l3 + 1)))))))
set_option maxHeartbeats 4000000 in
set_option maxRecDepth 100000 in
theorem k_P_setWay_j2 {p : Program} {l : Launch} {e : Env} {s : State} {m : MethodId} {args : Array Value} {below : List Frame} {meth : Method} {c : Code} {D : va_G} {tc : Nat → ClassId} {A : Nat → Prop} {post : zM → Prop} (C0 : zC R_P cP_setWay 4 none "setWay" D tc A p l s m args meth c) : ∀ n : Nat, J_P_setWay_2 p l e s m args below meth c D tc A (MQ below (va_Qv post (zB D tc A) A) args s 0 0 A) (w_P_setWay_j2 (tc 9) post n) := by
  obtain ⟨hx, hb, hml, hr, hown, htb, hlk, hA, hG, hin, hex⟩ := id C0
  have hK := hG.1
  intro n
  induction n with
  | zero => intro M l0 l1 l2 l3 H locs ls hM hS hl hw; exact hw.elim
  | succ n ih =>
    intro M l0 l1 l2 l3 H locs ls hM hS hl hw
    refine lv_iload_n hx hb dP_setWay_2 rfl (lv_at hl 3 rfl) ?_
    refine lv_aload_n hx hb dP_setWay_3 rfl (lv_at hl 0 rfl) ?_
    obtain ⟨fs2, v1, h3, ev4, hw⟩ := hw
    refine z_get hx hb htb inw_P hown hK hM h3 rfl 3 (by decide) (htb _ t_342) (fun _ h9 => h9) ev4 dP_setWay_4 ?_
    refine lv_icmp_ge (tgt := 31) hx hb dP_setWay_7 (by decide) (fun hq => ?_) (fun hq => ?_)
    · have hw := hw.1 hq
      exact k_P_setWay_j31 C0  _ _ _ _ _ _ _ _ hM hS (lv_sub hl [0, 1, 2, 3] rfl) hw
    · have hw := hw.2 hq
      refine lv_iload_n hx hb dP_setWay_10 rfl (lv_at hl 3 rfl) ?_
      refine lv_iconst (v := 3) hx hb dP_setWay_11 (by decide +kernel) ?_
      refine lv_icmp_ge (tgt := 31) hx hb dP_setWay_12 (by decide) (fun hq => ?_) (fun hq => ?_)
      · have hw := hw.1 hq
        exact k_P_setWay_j31 C0  _ _ _ _ _ _ _ _ hM hS (lv_sub hl [0, 1, 2, 3] rfl) hw
      · have hw := hw.2 hq
        refine lv_aload_n hx hb dP_setWay_15 rfl (lv_at hl 0 rfl) ?_
        obtain ⟨fs6, v5, h7, ev8, hw⟩ := hw
        refine z_get hx hb htb inw_P hown hK hM h7 rfl 1 (by decide) (htb _ t_340) (fun _ h9 => h9) ev8 dP_setWay_16 ?_
        refine lv_iload_n hx hb dP_setWay_19 rfl (lv_at hl 3 rfl) ?_
        obtain ⟨n9, f10, v11, h12, hi13, ev14, hw⟩ := hw
        refine z_iald hx hb hK hM 0 0 h12 rfl hi13 ev14 dP_setWay_20 ?_
        refine lv_iload_n hx hb dP_setWay_21 rfl (lv_at hl 1 rfl) ?_
        refine lv_icmp_eq (tgt := 31) hx hb dP_setWay_22 (by decide) (fun hq => ?_) (fun hq => ?_)
        · have hw := hw.1 hq
          exact k_P_setWay_j31 C0  _ _ _ _ _ _ _ _ hM hS (lv_sub hl [0, 1, 2, 3] rfl) hw
        · have hw := hw.2 hq
          refine lv_iinc (v := (l3 + 1)) (lv' := [(3, .int (l3 + 1)), (0, .ref l0), (1, .int l1), (2, .int l2)]) hx hb dP_setWay_25 hl (k := 3) rfl rfl (by decide) rfl (fun ls hl => ?_)
          refine lv_goto (tgt := 2) hx hb dP_setWay_28 (by decide) ?_
          exact ih _ _ _ _ _ _ _ _ hM hS (lv_sub hl [1, 2, 3, 0] rfl) hw
def w_P_setWay (e0 : Nat) (post : zM → Prop) (M : zM) (h0 : Nat) (x1 : Int32) (x2 : Int32) : Prop := ∃ nn, w_P_setWay_j2 e0 post nn M h0 x1 x2 0
set_option maxHeartbeats 4000000 in
set_option maxRecDepth 100000 in
theorem k_P_setWay {l : Launch} {D : va_G} {tc : Nat → ClassId} {A : Nat → Prop} {post : zM → Prop} {M : zM} {h0 : Nat} {x1 : Int32} {x2 : Int32} (hw : w_P_setWay (tc 9) post M h0 x1 x2) : Met l yP_setWay (.code yP_setWay cP_setWay 4 none :: zTB) r_P_setWay (va_Pc [.ref h0, .int x1, .int x2] (zI D tc A M)) (va_Qv post (zB D tc A) A) 0 0 A := by
  refine Met.ofW (cc := cP_setWay) (maxL := 4) (ret := none) (by decide +kernel) rfl ?_
  intro p e s m args below meth c s₁ B hml hv
  obtain ⟨rfl, hA, hM, hG⟩ := hv
  have C0 := zC_of (D := D) (tc := tc) (A := A) B hml (zC_ex B) hA hG
  obtain ⟨hx, hb, hml, hr, hown, htb, hlk, hA, hG, hin, hex⟩ := id C0
  have hK := hG.1
  have hS : va_S A s.heap s.heap [] := va_S.rf
  have hl := lv_entry ([.ref h0, .int x1, .int x2]) (n := 4) (Nat.le_of_ble_eq_true rfl)
  rw [lg_entry_eq]
  generalize (lg_sl ([.ref h0, .int x1, .int x2]) ++ List.replicate (4 - (lg_sl ([.ref h0, .int x1, .int x2])).length) Slot.unset).toArray = ls at hl ⊢
  have hl : lv_has ls 4 [(0, .ref h0), (1, .int x1), (2, .int x2)] := hl
  refine lv_iconst (v := 0) hx hb dP_setWay_0 (by decide +kernel) ?_
  refine lv_istore_n (lv' := [(3, .int 0), (0, .ref h0), (1, .int x1), (2, .int x2)]) hx hb dP_setWay_1 rfl hl (by decide) rfl (fun ls hl => ?_)
  obtain ⟨nfu, hw⟩ := hw
  exact k_P_setWay_j2 C0  nfu _ _ _ _ _ _ _ _ hM hS (lv_sub hl [1, 2, 3, 0] rfl) hw
abbrev r_P_wouldBeAsked : Room := { frames := 0, cells := 0, slots := 0, locals := 0 }
abbrev J_P_wouldBeAsked_31 (p : Program) (l : Launch) (e : Env) (s : State) (m : MethodId) (args : Array Value) (below : List Frame) (meth : Method) (c : Code) (D : va_G) (tc : Nat → ClassId) (A : Nat → Prop) (Q : State → Prop) (K : zM → Prop) : Prop := ∀ (M : zM) (H : Heap) (locs : List Loc) (ls : Array Slot), zP D vwCl tc A M H → va_S A s.heap H locs → lv_has ls 3 [] → K M → W p l e (r_P_wouldBeAsked) s m args below meth c H locs 0 0 Q (F0 m 31 ls [])
abbrev J_P_wouldBeAsked_27 (p : Program) (l : Launch) (e : Env) (s : State) (m : MethodId) (args : Array Value) (below : List Frame) (meth : Method) (c : Code) (D : va_G) (tc : Nat → ClassId) (A : Nat → Prop) (Q : State → Prop) (K : zM → Prop) : Prop := ∀ (M : zM) (H : Heap) (locs : List Loc) (ls : Array Slot), zP D vwCl tc A M H → va_S A s.heap H locs → lv_has ls 3 [] → K M → W p l e (r_P_wouldBeAsked) s m args below meth c H locs 0 0 Q (F0 m 27 ls [])
def w_P_wouldBeAsked_j31 (e0 : Nat) (post : Int32 → zM → Prop) (M : zM) : Prop := post 0 M
set_option maxHeartbeats 4000000 in
set_option maxRecDepth 100000 in
theorem k_P_wouldBeAsked_j31 {p : Program} {l : Launch} {e : Env} {s : State} {m : MethodId} {args : Array Value} {below : List Frame} {meth : Method} {c : Code} {D : va_G} {tc : Nat → ClassId} {A : Nat → Prop} {post : Int32 → zM → Prop} (C0 : zC R_P cP_wouldBeAsked 3 (some .boolean) "wouldBeAsked" D tc A p l s m args meth c) : J_P_wouldBeAsked_31 p l e s m args below meth c D tc A (MQ below (va_Qi post (zB D tc A) A) args s 0 0 A) (w_P_wouldBeAsked_j31 (tc 9) post) := by
  obtain ⟨hx, hb, hml, hr, hown, htb, hlk, hA, hG, hin, hex⟩ := id C0
  have hK := hG.1
  intro M H locs ls hM hS hl hw
  refine lv_iconst (v := 0) hx hb dP_wouldBeAsked_31 (by decide +kernel) ?_
  exact W.zret hx hb hr rfl (fun t ht hW => ⟨⟨_, _, rfl, hw, zB_of ht hM⟩, hS.F ht⟩) hS.2.2 dP_wouldBeAsked_32
def w_P_wouldBeAsked_j27 (e0 : Nat) (post : Int32 → zM → Prop) (M : zM) : Prop := post 1 M
set_option maxHeartbeats 4000000 in
set_option maxRecDepth 100000 in
theorem k_P_wouldBeAsked_j27 {p : Program} {l : Launch} {e : Env} {s : State} {m : MethodId} {args : Array Value} {below : List Frame} {meth : Method} {c : Code} {D : va_G} {tc : Nat → ClassId} {A : Nat → Prop} {post : Int32 → zM → Prop} (C0 : zC R_P cP_wouldBeAsked 3 (some .boolean) "wouldBeAsked" D tc A p l s m args meth c) : J_P_wouldBeAsked_27 p l e s m args below meth c D tc A (MQ below (va_Qi post (zB D tc A) A) args s 0 0 A) (w_P_wouldBeAsked_j27 (tc 9) post) := by
  obtain ⟨hx, hb, hml, hr, hown, htb, hlk, hA, hG, hin, hex⟩ := id C0
  have hK := hG.1
  intro M H locs ls hM hS hl hw
  refine lv_iconst (v := 1) hx hb dP_wouldBeAsked_27 (by decide +kernel) ?_
  refine lv_goto (tgt := 32) hx hb dP_wouldBeAsked_28 (by decide) ?_
  exact W.zret hx hb hr rfl (fun t ht hW => ⟨⟨_, _, rfl, hw, zB_of ht hM⟩, hS.F ht⟩) hS.2.2 dP_wouldBeAsked_32
def w_P_wouldBeAsked (e0 : Nat) (post : Int32 → zM → Prop) (M : zM) (h0 : Nat) (x1 : Int32) (x2 : Int32) : Prop := wGI M h0 3 0 (fun v1 => ((v1 = x1) → wGI M h0 3 4 (fun v5 => ((v5 = 0) → w_P_wouldBeAsked_j27 e0 post M) ∧ (¬ (v5 = 0) → ((x2 = 0) → w_P_wouldBeAsked_j31 e0 post M) ∧ (¬ (x2 = 0) → wGI M h0 3 4 (fun v9 => ((v9 = 1) → w_P_wouldBeAsked_j27 e0 post M) ∧ (¬ (v9 = 1) → w_P_wouldBeAsked_j31 e0 post M)))))) ∧ (¬ (v1 = x1) → w_P_wouldBeAsked_j31 e0 post M))
set_option maxHeartbeats 4000000 in
set_option maxRecDepth 100000 in
theorem k_P_wouldBeAsked {l : Launch} {D : va_G} {tc : Nat → ClassId} {A : Nat → Prop} {post : Int32 → zM → Prop} {M : zM} {h0 : Nat} {x1 : Int32} {x2 : Int32} (hw : w_P_wouldBeAsked (tc 9) post M h0 x1 x2) : Met l yP_wouldBeAsked (.code yP_wouldBeAsked cP_wouldBeAsked 3 (some .boolean) :: zTB) r_P_wouldBeAsked (va_Pc [.ref h0, .int x1, .int x2] (zI D tc A M)) (va_Qi post (zB D tc A) A) 0 0 A := by
  refine Met.ofW (cc := cP_wouldBeAsked) (maxL := 3) (ret := (some .boolean)) (by decide +kernel) rfl ?_
  intro p e s m args below meth c s₁ B hml hv
  obtain ⟨rfl, hA, hM, hG⟩ := hv
  have C0 := zC_of (D := D) (tc := tc) (A := A) B hml (zC_ex B) hA hG
  obtain ⟨hx, hb, hml, hr, hown, htb, hlk, hA, hG, hin, hex⟩ := id C0
  have hK := hG.1
  have hS : va_S A s.heap s.heap [] := va_S.rf
  have hl := lv_entry ([.ref h0, .int x1, .int x2]) (n := 3) (Nat.le_of_ble_eq_true rfl)
  rw [lg_entry_eq]
  generalize (lg_sl ([.ref h0, .int x1, .int x2]) ++ List.replicate (3 - (lg_sl ([.ref h0, .int x1, .int x2])).length) Slot.unset).toArray = ls at hl ⊢
  have hl : lv_has ls 3 [(0, .ref h0), (1, .int x1), (2, .int x2)] := hl
  refine lv_aload_n hx hb dP_wouldBeAsked_0 rfl (lv_at hl 0 rfl) ?_
  obtain ⟨fs2, v1, h3, ev4, hw⟩ := hw
  refine z_get hx hb htb inw_P hown hK hM h3 rfl 0 (by decide) (htb _ t_339) (fun _ h9 => h9) ev4 dP_wouldBeAsked_1 ?_
  refine lv_iload_n hx hb dP_wouldBeAsked_4 rfl (lv_at hl 1 rfl) ?_
  refine lv_icmp_ne (tgt := 31) hx hb dP_wouldBeAsked_5 (by decide) (fun hq => ?_) (fun hq => ?_)
  · have hw := hw.2 hq
    exact k_P_wouldBeAsked_j31 C0  _  _ _ _ hM hS (lv_sub hl [] rfl) hw
  · have hw := hw.1 hq
    refine lv_aload_n hx hb dP_wouldBeAsked_8 rfl (lv_at hl 0 rfl) ?_
    obtain ⟨fs6, v5, h7, ev8, hw⟩ := hw
    refine z_get hx hb htb inw_P hown hK hM h7 rfl 4 (by decide) (htb _ t_344) (fun _ h9 => h9) ev8 dP_wouldBeAsked_9 ?_
    refine lv_if_eq (tgt := 27) hx hb dP_wouldBeAsked_12 (by decide) (fun hq => ?_) (fun hq => ?_)
    · have hw := hw.1 hq
      exact k_P_wouldBeAsked_j27 C0  _  _ _ _ hM hS (lv_sub hl [] rfl) hw
    · have hw := hw.2 hq
      refine lv_iload_n hx hb dP_wouldBeAsked_15 rfl (lv_at hl 2 rfl) ?_
      refine lv_if_eq (tgt := 31) hx hb dP_wouldBeAsked_16 (by decide) (fun hq => ?_) (fun hq => ?_)
      · have hw := hw.1 hq
        exact k_P_wouldBeAsked_j31 C0  _  _ _ _ hM hS (lv_sub hl [] rfl) hw
      · have hw := hw.2 hq
        refine lv_aload_n hx hb dP_wouldBeAsked_19 rfl (lv_at hl 0 rfl) ?_
        obtain ⟨fs10, v9, h11, ev12, hw⟩ := hw
        refine z_get hx hb htb inw_P hown hK hM h11 rfl 4 (by decide) (htb _ t_344) (fun _ h9 => h9) ev12 dP_wouldBeAsked_20 ?_
        refine lv_iconst (v := 1) hx hb dP_wouldBeAsked_23 (by decide +kernel) ?_
        refine lv_icmp_ne (tgt := 31) hx hb dP_wouldBeAsked_24 (by decide) (fun hq => ?_) (fun hq => ?_)
        · have hw := hw.2 hq
          exact k_P_wouldBeAsked_j31 C0  _  _ _ _ hM hS (lv_sub hl [] rfl) hw
        · have hw := hw.1 hq
          exact k_P_wouldBeAsked_j27 C0  _  _ _ _ hM hS (lv_sub hl [] rfl) hw
abbrev r_L_init (mc ms : Nat) : Room := { frames := 1, cells := mc, slots := ms, locals := 40 }
def w_L_init (e0 : Nat) (post : zM → Prop) (mc : Nat) (ms : Nat) (M : zM) (h0 : Nat) (x1 : Int32) (x2 : Int32) (x3 : Int32) (x4 : Int32) (x5 : Int32) : Prop := wPF M h0 1 0 (.int x1) (fun M4 => (narrow .boolean (.int x2) = .int x2 ∧ fits .boolean (.int x2) = true) ∧ wPF M4 h0 1 1 (.int x2) (fun M8 => wPF M8 h0 1 2 (.int x3) (fun M12 => wPF M12 h0 1 3 (.int x4) (fun M16 => wPF M16 h0 1 4 (.int x5) (fun M20 => wPF M20 h0 1 7 (.int 0) (fun M24 => wNA M24 0 60 60 4 mc ms (fun q25 M31 => wPF M31 h0 1 5 (.ref q25) (fun M35 => wNA M35 0 60 60 4 (mc - 1) (ms - 60) (fun q36 M42 => wPF M42 h0 1 6 (.ref q36) (fun M46 => wGR M46 h0 1 5 (fun v47 => w_YA_fill e0 (fun M51 => wGR M51 h0 1 6 (fun v52 => w_YA_fill e0 (fun M56 => post M56) M51 v52 (-2))) M46 v47 (-2))))))))))))
set_option maxHeartbeats 4000000 in
set_option maxRecDepth 100000 in
theorem k_L_init {l : Launch} {D : va_G} {tc : Nat → ClassId} {A : Nat → Prop} {mc ms : Nat} {post : zM → Prop} {M : zM} {h0 : Nat} {x1 : Int32} {x2 : Int32} {x3 : Int32} {x4 : Int32} {x5 : Int32} (hw : w_L_init (tc 9) post mc ms M h0 x1 x2 x3 x4 x5) : Met l yL_init (.code yL_init cL_init 6 none :: zTB) (r_L_init mc ms) (va_Pc [.ref h0, .int x1, .int x2, .int x3, .int x4, .int x5] (zI D tc A M)) (va_Qv post (zB D tc A) A) mc ms A := by
  refine Met.ofW (cc := cL_init) (maxL := 6) (ret := none) (by decide +kernel) rfl ?_
  intro p e s m args below meth c s₁ B hml hv
  obtain ⟨rfl, hA, hM, hG⟩ := hv
  have C0 := zC_of (D := D) (tc := tc) (A := A) B hml (zC_ex B) hA hG
  obtain ⟨hx, hb, hml, hr, hown, htb, hlk, hA, hG, hin, hex⟩ := id C0
  have hK := hG.1
  have hS : va_S A s.heap s.heap [] := va_S.rf
  have hl := lv_entry ([.ref h0, .int x1, .int x2, .int x3, .int x4, .int x5]) (n := 6) (Nat.le_of_ble_eq_true rfl)
  rw [lg_entry_eq]
  generalize (lg_sl ([.ref h0, .int x1, .int x2, .int x3, .int x4, .int x5]) ++ List.replicate (6 - (lg_sl ([.ref h0, .int x1, .int x2, .int x3, .int x4, .int x5])).length) Slot.unset).toArray = ls at hl ⊢
  have hl : lv_has ls 6 [(0, .ref h0), (1, .int x1), (2, .int x2), (3, .int x3), (4, .int x4), (5, .int x5)] := hl
  refine lv_aload_n hx hb dL_init_0 rfl (lv_at hl 0 rfl) ?_
  refine W.objInit hx hb hown (htb _ t_420) (htb _ t_29) (htb _ t_30) rfl (by rw [hml]; exact hl.1) rfl dL_init_1 (Nat.le_of_ble_eq_true rfl) (Nat.le_of_ble_eq_true rfl) ?_
  refine lv_aload_n hx hb dL_init_4 rfl (lv_at hl 0 rfl) ?_
  refine lv_iload_n hx hb dL_init_5 rfl (lv_at hl 1 rfl) ?_
  obtain ⟨fs1, h2, hl3, hw⟩ := hw
  refine z_putF (ty := .int) hx hb htb inw_L ty_L tyok_L nmok_L hown hK hM hS h2 rfl 0 (by decide) (htb _ t_424) (fun _ h9 => h9) rfl hin rfl (by decide +kernel) rfl rfl hl3 dL_init_6 (fun H locs hM hS => ?_)
  refine lv_aload_n hx hb dL_init_9 rfl (lv_at hl 0 rfl) ?_
  refine lv_iload_n hx hb dL_init_10 rfl (lv_at hl 2 rfl) ?_
  obtain ⟨⟨hnb, hfb⟩, hw⟩ := hw
  obtain ⟨fs5, h6, hl7, hw⟩ := hw
  refine z_putF (ty := .boolean) hx hb htb inw_L ty_L tyok_L nmok_L hown hK hM hS h6 rfl 1 (by decide) (htb _ t_426) (fun _ h9 => h9) rfl hin rfl (by decide +kernel) hnb hfb hl7 dL_init_11 (fun H locs hM hS => ?_)
  refine lv_aload_n hx hb dL_init_14 rfl (lv_at hl 0 rfl) ?_
  refine lv_iload_n hx hb dL_init_15 rfl (lv_at hl 3 rfl) ?_
  obtain ⟨fs9, h10, hl11, hw⟩ := hw
  refine z_putF (ty := .int) hx hb htb inw_L ty_L tyok_L nmok_L hown hK hM hS h10 rfl 2 (by decide) (htb _ t_428) (fun _ h9 => h9) rfl hin rfl (by decide +kernel) rfl rfl hl11 dL_init_16 (fun H locs hM hS => ?_)
  refine lv_aload_n hx hb dL_init_19 rfl (lv_at hl 0 rfl) ?_
  refine lv_iload hx hb dL_init_20 (lv_at hl 4 rfl) ?_
  obtain ⟨fs13, h14, hl15, hw⟩ := hw
  refine z_putF (ty := .int) hx hb htb inw_L ty_L tyok_L nmok_L hown hK hM hS h14 rfl 3 (by decide) (htb _ t_430) (fun _ h9 => h9) rfl hin rfl (by decide +kernel) rfl rfl hl15 dL_init_22 (fun H locs hM hS => ?_)
  refine lv_aload_n hx hb dL_init_25 rfl (lv_at hl 0 rfl) ?_
  refine lv_iload hx hb dL_init_26 (lv_at hl 5 rfl) ?_
  obtain ⟨fs17, h18, hl19, hw⟩ := hw
  refine z_putF (ty := .int) hx hb htb inw_L ty_L tyok_L nmok_L hown hK hM hS h18 rfl 4 (by decide) (htb _ t_432) (fun _ h9 => h9) rfl hin rfl (by decide +kernel) rfl rfl hl19 dL_init_28 (fun H locs hM hS => ?_)
  refine lv_aload_n hx hb dL_init_31 rfl (lv_at hl 0 rfl) ?_
  refine lv_iconst (v := 0) hx hb dL_init_32 (by decide +kernel) ?_
  obtain ⟨fs21, h22, hl23, hw⟩ := hw
  refine z_put (ty := .int) hx hb htb inw_L ty_L tyok_L nmok_L hown hK hM hS h22 rfl 7 (by decide) (htb _ t_436) (fun _ h9 => h9) rfl (by decide +kernel) rfl rfl hl23 dL_init_33 (fun H locs hM hS => ?_)
  refine lv_aload_n hx hb dL_init_36 rfl (lv_at hl 0 rfl) ?_
  refine lv_bipush (v := 60) hx hb dL_init_37 (by decide +kernel) ?_
  obtain ⟨h26, h27, h28, h29, hN9, hw⟩ := hw
  refine z_newa (atype := .int) (a0 := (60, .inl (fun _ => 0))) hx hb (htb _ t_363) rfl hK hM hS hA 0 0 rfl (fun _ h => h) (fun _ => rfl) h26 hN9 h27 (show 0 + 1 ≤ mc by omega) (show 0 + 60 ≤ ms by omega) dL_init_39 (fun q25 H hn30 hM hS => ?_)
  have hw := hw q25 hn30
  obtain ⟨fs32, h33, hl34, hw⟩ := hw
  refine z_putF (ty := (.array .int)) hx hb htb inw_L ty_L tyok_L nmok_L hown hK hM hS h33 rfl 5 (by decide) (htb _ t_434) (fun _ h9 => h9) rfl hin rfl (by decide +kernel) rfl rfl hl34 dL_init_41 (fun H locs hM hS => ?_)
  refine lv_aload_n hx hb dL_init_44 rfl (lv_at hl 0 rfl) ?_
  refine lv_bipush (v := 60) hx hb dL_init_45 (by decide +kernel) ?_
  obtain ⟨h37, h38, h39, h40, hN9, hw⟩ := hw
  refine z_newa (atype := .int) (a0 := (60, .inl (fun _ => 0))) hx hb (htb _ t_363) rfl hK hM hS hA 0 0 rfl (fun _ h => h) (fun _ => rfl) h37 hN9 h38 (show (0 + 1) + 1 ≤ mc by omega) (show (0 + 60) + 60 ≤ ms by omega) dL_init_47 (fun q36 H hn41 hM hS => ?_)
  have hw := hw q36 hn41
  obtain ⟨fs43, h44, hl45, hw⟩ := hw
  refine z_putF (ty := (.array .int)) hx hb htb inw_L ty_L tyok_L nmok_L hown hK hM hS h44 rfl 6 (by decide) (htb _ t_435) (fun _ h9 => h9) rfl hin rfl (by decide +kernel) rfl rfl hl45 dL_init_49 (fun H locs hM hS => ?_)
  refine lv_aload_n hx hb dL_init_52 rfl (lv_at hl 0 rfl) ?_
  obtain ⟨fs48, v47, h49, ev50, hw⟩ := hw
  refine z_get hx hb htb inw_L hown hK hM h49 rfl 5 (by decide) (htb _ t_434) (fun _ h9 => h9) ev50 dL_init_53 ?_
  refine lv_bipush (v := (-2)) hx hb dL_init_56 (by decide +kernel) ?_
  refine va_callv (va_runS (As := [.ref v47, .int (-2)]) (rest := []) ⟨hx, hb, hml, hown, htb⟩ (k_YA_fill (l := l) (D := D) (tc := tc) (A := A) hw) (cw_L_38 htb ⟨Nat.le_of_ble_eq_true rfl, Nat.le_of_ble_eq_true rfl⟩) (z_preS hG hA hS hM) rfl rfl hl.1 rfl (lv_room (Nat.le_of_ble_eq_true rfl)) dL_init_58 ⟨show ((0 + 1) + 1) + 0 ≤ mc by omega, show ((0 + 60) + 60) + 0 ≤ ms by omega⟩) hS (fun _ _ h => h) (fun _ h => h) (fun M51 t H locs ht hvm hw hB _ _ hS => ?_)
  have hM : zP D vwCl tc A M51 H := by rw [← ht]; exact hB
  refine lv_aload_n hx hb dL_init_61 rfl (lv_at hl 0 rfl) ?_
  obtain ⟨fs53, v52, h54, ev55, hw⟩ := hw
  refine z_get hx hb htb inw_L hown hK hM h54 rfl 6 (by decide) (htb _ t_435) (fun _ h9 => h9) ev55 dL_init_62 ?_
  refine lv_bipush (v := (-2)) hx hb dL_init_65 (by decide +kernel) ?_
  refine va_callv (va_runS (As := [.ref v52, .int (-2)]) (rest := []) ⟨hx, hb, hml, hown, htb⟩ (k_YA_fill (l := l) (D := D) (tc := tc) (A := A) hw) (cw_L_38 htb ⟨Nat.le_of_ble_eq_true rfl, Nat.le_of_ble_eq_true rfl⟩) (z_preS hG hA hS hM) rfl rfl hl.1 rfl (lv_room (Nat.le_of_ble_eq_true rfl)) dL_init_67 ⟨show ((0 + 1) + 1) + 0 ≤ mc by omega, show ((0 + 60) + 60) + 0 ≤ ms by omega⟩) hS (fun _ _ h => h) (fun _ h => h) (fun M56 t H locs ht hvm hw hB _ _ hS => ?_)
  have hM : zP D vwCl tc A M56 H := by rw [← ht]; exact hB
  refine W.widen (k := mc) (n := ms) (by omega) (by omega) ?_
  exact W.vret hx hb hr (fun t ht hW => ⟨⟨_, rfl, hw, zB_of ht hM⟩, hS.F ht⟩) hS.2.2 dL_init_70
abbrev r_P_reachNow : Room := { frames := 0, cells := 0, slots := 0, locals := 0 }
abbrev J_P_reachNow_2 (p : Program) (l : Launch) (e : Env) (s : State) (m : MethodId) (args : Array Value) (below : List Frame) (meth : Method) (c : Code) (D : va_G) (tc : Nat → ClassId) (A : Nat → Prop) (Q : State → Prop) (K : zM → Nat → Int32 → Prop) : Prop := ∀ (M : zM) (l0 : Nat) (l1 : Int32) (H : Heap) (locs : List Loc) (ls : Array Slot), zP D vwCl tc A M H → va_S A s.heap H locs → lv_has ls 2 [(0, .ref l0), (1, .int l1)] → K M l0 l1 → W p l e (r_P_reachNow) s m args below meth c H locs 0 0 Q (F0 m 2 ls [])
def w_P_reachNow_j2 (e0 : Nat) (post : Int32 → zM → Prop) : Nat → zM → Nat → Int32 → Prop
  | 0 => fun _ _ _ => False
  | n + 1 => fun M l0 l1 => wGI M l0 3 3 (fun v1 => ((v1 ≤ l1) → post (-1) M) ∧ (¬ (v1 ≤ l1) → ((3 ≤ l1) → post (-1) M) ∧ (¬ (3 ≤ l1) → wGR M l0 3 2 (fun v5 => wLI M v5 1 l1 (fun v11 => ((v11 = 0) → w_P_reachNow_j2 e0 post n M l0 (l1 + 1)) ∧ (¬ (v11 = 0) → wGR M l0 3 1 (fun v15 => wLI M v15 0 l1 (fun v21 => post ((200 * l1) + v21) M))))))))
set_option maxHeartbeats 4000000 in
set_option maxRecDepth 100000 in
theorem k_P_reachNow_j2 {p : Program} {l : Launch} {e : Env} {s : State} {m : MethodId} {args : Array Value} {below : List Frame} {meth : Method} {c : Code} {D : va_G} {tc : Nat → ClassId} {A : Nat → Prop} {post : Int32 → zM → Prop} (C0 : zC R_P cP_reachNow 2 (some .int) "reachNow" D tc A p l s m args meth c) : ∀ n : Nat, J_P_reachNow_2 p l e s m args below meth c D tc A (MQ below (va_Qi post (zB D tc A) A) args s 0 0 A) (w_P_reachNow_j2 (tc 9) post n) := by
  obtain ⟨hx, hb, hml, hr, hown, htb, hlk, hA, hG, hin, hex⟩ := id C0
  have hK := hG.1
  intro n
  induction n with
  | zero => intro M l0 l1 H locs ls hM hS hl hw; exact hw.elim
  | succ n ih =>
    intro M l0 l1 H locs ls hM hS hl hw
    refine lv_iload_n hx hb dP_reachNow_2 rfl (lv_at hl 1 rfl) ?_
    refine lv_aload_n hx hb dP_reachNow_3 rfl (lv_at hl 0 rfl) ?_
    obtain ⟨fs2, v1, h3, ev4, hw⟩ := hw
    refine z_get hx hb htb inw_P hown hK hM h3 rfl 3 (by decide) (htb _ t_342) (fun _ h9 => h9) ev4 dP_reachNow_4 ?_
    refine lv_icmp_ge (tgt := 43) hx hb dP_reachNow_7 (by decide) (fun hq => ?_) (fun hq => ?_)
    · have hw := hw.1 hq
      refine lv_iconst (v := (-1)) hx hb dP_reachNow_43 (by decide +kernel) ?_
      exact W.iret hx hb hr (fun t ht hW => ⟨⟨_, _, rfl, hw, zB_of ht hM⟩, hS.F ht⟩) hS.2.2 dP_reachNow_44
    · have hw := hw.2 hq
      refine lv_iload_n hx hb dP_reachNow_10 rfl (lv_at hl 1 rfl) ?_
      refine lv_iconst (v := 3) hx hb dP_reachNow_11 (by decide +kernel) ?_
      refine lv_icmp_ge (tgt := 43) hx hb dP_reachNow_12 (by decide) (fun hq => ?_) (fun hq => ?_)
      · have hw := hw.1 hq
        refine lv_iconst (v := (-1)) hx hb dP_reachNow_43 (by decide +kernel) ?_
        exact W.iret hx hb hr (fun t ht hW => ⟨⟨_, _, rfl, hw, zB_of ht hM⟩, hS.F ht⟩) hS.2.2 dP_reachNow_44
      · have hw := hw.2 hq
        refine lv_aload_n hx hb dP_reachNow_15 rfl (lv_at hl 0 rfl) ?_
        obtain ⟨fs6, v5, h7, ev8, hw⟩ := hw
        refine z_get hx hb htb inw_P hown hK hM h7 rfl 2 (by decide) (htb _ t_341) (fun _ h9 => h9) ev8 dP_reachNow_16 ?_
        refine lv_iload_n hx hb dP_reachNow_19 rfl (lv_at hl 1 rfl) ?_
        obtain ⟨n9, f10, v11, h12, hi13, ev14, hw⟩ := hw
        refine z_zald hx hb hK hM 1 1 h12 rfl hi13 ev14 dP_reachNow_20 ?_
        refine lv_if_eq (tgt := 37) hx hb dP_reachNow_21 (by decide) (fun hq => ?_) (fun hq => ?_)
        · have hw := hw.1 hq
          refine lv_iinc (v := (l1 + 1)) (lv' := [(1, .int (l1 + 1)), (0, .ref l0)]) hx hb dP_reachNow_37 hl (k := 1) rfl rfl (by decide) rfl (fun ls hl => ?_)
          refine lv_goto (tgt := 2) hx hb dP_reachNow_40 (by decide) ?_
          exact ih _ _ _ _ _ _ hM hS (lv_sub hl [1, 0] rfl) hw
        · have hw := hw.2 hq
          refine lv_sipush (v := 200) hx hb dP_reachNow_24 (by decide +kernel) ?_
          refine lv_iload_n hx hb dP_reachNow_27 rfl (lv_at hl 1 rfl) ?_
          refine lv_imul hx hb dP_reachNow_28 ?_
          refine lv_aload_n hx hb dP_reachNow_29 rfl (lv_at hl 0 rfl) ?_
          obtain ⟨fs16, v15, h17, ev18, hw⟩ := hw
          refine z_get hx hb htb inw_P hown hK hM h17 rfl 1 (by decide) (htb _ t_340) (fun _ h9 => h9) ev18 dP_reachNow_30 ?_
          refine lv_iload_n hx hb dP_reachNow_33 rfl (lv_at hl 1 rfl) ?_
          obtain ⟨n19, f20, v21, h22, hi23, ev24, hw⟩ := hw
          refine z_iald hx hb hK hM 0 0 h22 rfl hi23 ev24 dP_reachNow_34 ?_
          refine lv_iadd hx hb dP_reachNow_35 ?_
          exact W.iret hx hb hr (fun t ht hW => ⟨⟨_, _, rfl, hw, zB_of ht hM⟩, hS.F ht⟩) hS.2.2 dP_reachNow_36
def w_P_reachNow (e0 : Nat) (post : Int32 → zM → Prop) (M : zM) (h0 : Nat) : Prop := ∃ nn, w_P_reachNow_j2 e0 post nn M h0 0
set_option maxHeartbeats 4000000 in
set_option maxRecDepth 100000 in
theorem k_P_reachNow {l : Launch} {D : va_G} {tc : Nat → ClassId} {A : Nat → Prop} {post : Int32 → zM → Prop} {M : zM} {h0 : Nat} (hw : w_P_reachNow (tc 9) post M h0) : Met l yP_reachNow (.code yP_reachNow cP_reachNow 2 (some .int) :: zTB) r_P_reachNow (va_Pc [.ref h0] (zI D tc A M)) (va_Qi post (zB D tc A) A) 0 0 A := by
  refine Met.ofW (cc := cP_reachNow) (maxL := 2) (ret := (some .int)) (by decide +kernel) rfl ?_
  intro p e s m args below meth c s₁ B hml hv
  obtain ⟨rfl, hA, hM, hG⟩ := hv
  have C0 := zC_of (D := D) (tc := tc) (A := A) B hml (zC_ex B) hA hG
  obtain ⟨hx, hb, hml, hr, hown, htb, hlk, hA, hG, hin, hex⟩ := id C0
  have hK := hG.1
  have hS : va_S A s.heap s.heap [] := va_S.rf
  have hl := lv_entry ([.ref h0]) (n := 2) (Nat.le_of_ble_eq_true rfl)
  rw [lg_entry_eq]
  generalize (lg_sl ([.ref h0]) ++ List.replicate (2 - (lg_sl ([.ref h0])).length) Slot.unset).toArray = ls at hl ⊢
  have hl : lv_has ls 2 [(0, .ref h0)] := hl
  refine lv_iconst (v := 0) hx hb dP_reachNow_0 (by decide +kernel) ?_
  refine lv_istore_n (lv' := [(1, .int 0), (0, .ref h0)]) hx hb dP_reachNow_1 rfl hl (by decide) rfl (fun ls hl => ?_)
  obtain ⟨nfu, hw⟩ := hw
  exact k_P_reachNow_j2 C0  nfu _ _ _ _ _ _ hM hS (lv_sub hl [1, 0] rfl) hw
abbrev r_L_ask : Room := { frames := 0, cells := 0, slots := 0, locals := 0 }
def w_L_ask (e0 : Nat) (post : zM → Prop) (M : zM) (h0 : Nat) (x1 : Int32) (x2 : Int32) : Prop := ((x1 < 0) → post M) ∧ (¬ (x1 < 0) → wGR M h0 1 5 (fun v1 => wAL M v1 0 (fun v6 => ((v6 ≤ x1) → post M) ∧ (¬ (v6 ≤ x1) → wGR M h0 1 5 (fun v9 => wSI M v9 0 x1 x2 (fun M17 => post M17))))))
set_option maxHeartbeats 4000000 in
set_option maxRecDepth 100000 in
theorem k_L_ask {l : Launch} {D : va_G} {tc : Nat → ClassId} {A : Nat → Prop} {post : zM → Prop} {M : zM} {h0 : Nat} {x1 : Int32} {x2 : Int32} (hw : w_L_ask (tc 9) post M h0 x1 x2) : Met l yL_ask (.code yL_ask cL_ask 3 none :: zTB) r_L_ask (va_Pc [.ref h0, .int x1, .int x2] (zI D tc A M)) (va_Qv post (zB D tc A) A) 0 0 A := by
  refine Met.ofW (cc := cL_ask) (maxL := 3) (ret := none) (by decide +kernel) rfl ?_
  intro p e s m args below meth c s₁ B hml hv
  obtain ⟨rfl, hA, hM, hG⟩ := hv
  have C0 := zC_of (D := D) (tc := tc) (A := A) B hml (zC_ex B) hA hG
  obtain ⟨hx, hb, hml, hr, hown, htb, hlk, hA, hG, hin, hex⟩ := id C0
  have hK := hG.1
  have hS : va_S A s.heap s.heap [] := va_S.rf
  have hl := lv_entry ([.ref h0, .int x1, .int x2]) (n := 3) (Nat.le_of_ble_eq_true rfl)
  rw [lg_entry_eq]
  generalize (lg_sl ([.ref h0, .int x1, .int x2]) ++ List.replicate (3 - (lg_sl ([.ref h0, .int x1, .int x2])).length) Slot.unset).toArray = ls at hl ⊢
  have hl : lv_has ls 3 [(0, .ref h0), (1, .int x1), (2, .int x2)] := hl
  refine lv_iload_n hx hb dL_ask_0 rfl (lv_at hl 1 rfl) ?_
  refine lv_if_lt (tgt := 20) hx hb dL_ask_1 (by decide) (fun hq => ?_) (fun hq => ?_)
  · have hw := hw.1 hq
    exact W.vret hx hb hr (fun t ht hW => ⟨⟨_, rfl, hw, zB_of ht hM⟩, hS.F ht⟩) hS.2.2 dL_ask_20
  · have hw := hw.2 hq
    refine lv_iload_n hx hb dL_ask_4 rfl (lv_at hl 1 rfl) ?_
    refine lv_aload_n hx hb dL_ask_5 rfl (lv_at hl 0 rfl) ?_
    obtain ⟨fs2, v1, h3, ev4, hw⟩ := hw
    refine z_get hx hb htb inw_L hown hK hM h3 rfl 5 (by decide) (htb _ t_434) (fun _ h9 => h9) ev4 dL_ask_6 ?_
    obtain ⟨w5, v6, h7, ev8, hw⟩ := hw
    refine z_alen hx hb hK hM 0 0 h7 rfl ev8 dL_ask_9 ?_
    refine lv_icmp_ge (tgt := 20) hx hb dL_ask_10 (by decide) (fun hq => ?_) (fun hq => ?_)
    · have hw := hw.1 hq
      exact W.vret hx hb hr (fun t ht hW => ⟨⟨_, rfl, hw, zB_of ht hM⟩, hS.F ht⟩) hS.2.2 dL_ask_20
    · have hw := hw.2 hq
      refine lv_aload_n hx hb dL_ask_13 rfl (lv_at hl 0 rfl) ?_
      obtain ⟨fs10, v9, h11, ev12, hw⟩ := hw
      refine z_get hx hb htb inw_L hown hK hM h11 rfl 5 (by decide) (htb _ t_434) (fun _ h9 => h9) ev12 dL_ask_14 ?_
      refine lv_iload_n hx hb dL_ask_17 rfl (lv_at hl 1 rfl) ?_
      refine lv_iload_n hx hb dL_ask_18 rfl (lv_at hl 2 rfl) ?_
      obtain ⟨n13, f14, h15, hi16, hw⟩ := hw
      refine z_iast hx hb hK hM hS 0 0 h15 rfl hi16 dL_ask_19 (fun H locs hM hS => ?_)
      exact W.vret hx hb hr (fun t ht hW => ⟨⟨_, rfl, hw, zB_of ht hM⟩, hS.F ht⟩) hS.2.2 dL_ask_20
abbrev r_L_reachOf : Room := { frames := 0, cells := 0, slots := 0, locals := 0 }
abbrev J_L_reachOf_22 (p : Program) (l : Launch) (e : Env) (s : State) (m : MethodId) (args : Array Value) (below : List Frame) (meth : Method) (c : Code) (D : va_G) (tc : Nat → ClassId) (A : Nat → Prop) (Q : State → Prop) (K : zM → Prop) : Prop := ∀ (M : zM) (H : Heap) (locs : List Loc) (ls : Array Slot), zP D vwCl tc A M H → va_S A s.heap H locs → lv_has ls 2 [] → K M → W p l e (r_L_reachOf) s m args below meth c H locs 0 0 Q (F0 m 22 ls [])
def w_L_reachOf_j22 (e0 : Nat) (post : Int32 → zM → Prop) (M : zM) : Prop := post (-2) M
set_option maxHeartbeats 4000000 in
set_option maxRecDepth 100000 in
theorem k_L_reachOf_j22 {p : Program} {l : Launch} {e : Env} {s : State} {m : MethodId} {args : Array Value} {below : List Frame} {meth : Method} {c : Code} {D : va_G} {tc : Nat → ClassId} {A : Nat → Prop} {post : Int32 → zM → Prop} (C0 : zC R_L cL_reachOf 2 (some .int) "reachOf" D tc A p l s m args meth c) : J_L_reachOf_22 p l e s m args below meth c D tc A (MQ below (va_Qi post (zB D tc A) A) args s 0 0 A) (w_L_reachOf_j22 (tc 9) post) := by
  obtain ⟨hx, hb, hml, hr, hown, htb, hlk, hA, hG, hin, hex⟩ := id C0
  have hK := hG.1
  intro M H locs ls hM hS hl hw
  refine lv_bipush (v := (-2)) hx hb dL_reachOf_22 (by decide +kernel) ?_
  exact W.iret hx hb hr (fun t ht hW => ⟨⟨_, _, rfl, hw, zB_of ht hM⟩, hS.F ht⟩) hS.2.2 dL_reachOf_24
def w_L_reachOf (e0 : Nat) (post : Int32 → zM → Prop) (M : zM) (h0 : Nat) (x1 : Int32) : Prop := ((x1 < 0) → w_L_reachOf_j22 e0 post M) ∧ (¬ (x1 < 0) → wGR M h0 1 5 (fun v1 => wAL M v1 0 (fun v6 => ((v6 ≤ x1) → w_L_reachOf_j22 e0 post M) ∧ (¬ (v6 ≤ x1) → wGR M h0 1 5 (fun v9 => wLI M v9 0 x1 (fun v15 => post v15 M))))))
set_option maxHeartbeats 4000000 in
set_option maxRecDepth 100000 in
theorem k_L_reachOf {l : Launch} {D : va_G} {tc : Nat → ClassId} {A : Nat → Prop} {post : Int32 → zM → Prop} {M : zM} {h0 : Nat} {x1 : Int32} (hw : w_L_reachOf (tc 9) post M h0 x1) : Met l yL_reachOf (.code yL_reachOf cL_reachOf 2 (some .int) :: zTB) r_L_reachOf (va_Pc [.ref h0, .int x1] (zI D tc A M)) (va_Qi post (zB D tc A) A) 0 0 A := by
  refine Met.ofW (cc := cL_reachOf) (maxL := 2) (ret := (some .int)) (by decide +kernel) rfl ?_
  intro p e s m args below meth c s₁ B hml hv
  obtain ⟨rfl, hA, hM, hG⟩ := hv
  have C0 := zC_of (D := D) (tc := tc) (A := A) B hml (zC_ex B) hA hG
  obtain ⟨hx, hb, hml, hr, hown, htb, hlk, hA, hG, hin, hex⟩ := id C0
  have hK := hG.1
  have hS : va_S A s.heap s.heap [] := va_S.rf
  have hl := lv_entry ([.ref h0, .int x1]) (n := 2) (Nat.le_of_ble_eq_true rfl)
  rw [lg_entry_eq]
  generalize (lg_sl ([.ref h0, .int x1]) ++ List.replicate (2 - (lg_sl ([.ref h0, .int x1])).length) Slot.unset).toArray = ls at hl ⊢
  have hl : lv_has ls 2 [(0, .ref h0), (1, .int x1)] := hl
  refine lv_iload_n hx hb dL_reachOf_0 rfl (lv_at hl 1 rfl) ?_
  refine lv_if_lt (tgt := 22) hx hb dL_reachOf_1 (by decide) (fun hq => ?_) (fun hq => ?_)
  · have hw := hw.1 hq
    exact k_L_reachOf_j22 C0  _  _ _ _ hM hS (lv_sub hl [] rfl) hw
  · have hw := hw.2 hq
    refine lv_iload_n hx hb dL_reachOf_4 rfl (lv_at hl 1 rfl) ?_
    refine lv_aload_n hx hb dL_reachOf_5 rfl (lv_at hl 0 rfl) ?_
    obtain ⟨fs2, v1, h3, ev4, hw⟩ := hw
    refine z_get hx hb htb inw_L hown hK hM h3 rfl 5 (by decide) (htb _ t_434) (fun _ h9 => h9) ev4 dL_reachOf_6 ?_
    obtain ⟨w5, v6, h7, ev8, hw⟩ := hw
    refine z_alen hx hb hK hM 0 0 h7 rfl ev8 dL_reachOf_9 ?_
    refine lv_icmp_ge (tgt := 22) hx hb dL_reachOf_10 (by decide) (fun hq => ?_) (fun hq => ?_)
    · have hw := hw.1 hq
      exact k_L_reachOf_j22 C0  _  _ _ _ hM hS (lv_sub hl [] rfl) hw
    · have hw := hw.2 hq
      refine lv_aload_n hx hb dL_reachOf_13 rfl (lv_at hl 0 rfl) ?_
      obtain ⟨fs10, v9, h11, ev12, hw⟩ := hw
      refine z_get hx hb htb inw_L hown hK hM h11 rfl 5 (by decide) (htb _ t_434) (fun _ h9 => h9) ev12 dL_reachOf_14 ?_
      refine lv_iload_n hx hb dL_reachOf_17 rfl (lv_at hl 1 rfl) ?_
      obtain ⟨n13, f14, v15, h16, hi17, ev18, hw⟩ := hw
      refine z_iald hx hb hK hM 0 0 h16 rfl hi17 ev18 dL_reachOf_18 ?_
      refine lv_goto (tgt := 24) hx hb dL_reachOf_19 (by decide) ?_
      exact W.iret hx hb hr (fun t ht hW => ⟨⟨_, _, rfl, hw, zB_of ht hM⟩, hS.F ht⟩) hS.2.2 dL_reachOf_24
abbrev r_L_hasReached : Room := { frames := 1, cells := 0, slots := 0, locals := 21 }
def w_L_hasReached (e0 : Nat) (post : Int32 → zM → Prop) (M : zM) (h0 : Nat) (x1 : Int32) : Prop := wIs M h0 1 ∧ w_L_reachOf e0 (fun r2 M1 => ((r2 < 0) → post 0 M1) ∧ (¬ (r2 < 0) → post 1 M1)) M h0 x1
set_option maxHeartbeats 4000000 in
set_option maxRecDepth 100000 in
theorem k_L_hasReached {l : Launch} {D : va_G} {tc : Nat → ClassId} {A : Nat → Prop} {post : Int32 → zM → Prop} {M : zM} {h0 : Nat} {x1 : Int32} (hw : w_L_hasReached (tc 9) post M h0 x1) : Met l yL_hasReached (.code yL_hasReached cL_hasReached 2 (some .boolean) :: zTB) r_L_hasReached (va_Pc [.ref h0, .int x1] (zI D tc A M)) (va_Qi post (zB D tc A) A) 0 0 A := by
  refine Met.ofW (cc := cL_hasReached) (maxL := 2) (ret := (some .boolean)) (by decide +kernel) rfl ?_
  intro p e s m args below meth c s₁ B hml hv
  obtain ⟨rfl, hA, hM, hG⟩ := hv
  have C0 := zC_of (D := D) (tc := tc) (A := A) B hml (zC_ex B) hA hG
  obtain ⟨hx, hb, hml, hr, hown, htb, hlk, hA, hG, hin, hex⟩ := id C0
  have hK := hG.1
  have hS : va_S A s.heap s.heap [] := va_S.rf
  have hl := lv_entry ([.ref h0, .int x1]) (n := 2) (Nat.le_of_ble_eq_true rfl)
  rw [lg_entry_eq]
  generalize (lg_sl ([.ref h0, .int x1]) ++ List.replicate (2 - (lg_sl ([.ref h0, .int x1])).length) Slot.unset).toArray = ls at hl ⊢
  have hl : lv_has ls 2 [(0, .ref h0), (1, .int x1)] := hl
  refine lv_aload_n hx hb dL_hasReached_0 rfl (lv_at hl 0 rfl) ?_
  refine lv_iload_n hx hb dL_hasReached_1 rfl (lv_at hl 1 rfl) ?_
  obtain ⟨⟨fs3, h4⟩, hw⟩ := hw
  refine va_calli (va_runV (As := [.int x1]) (rest := []) ⟨hx, hb, hml, hown, htb⟩ (k_L_reachOf (l := l) (D := D) (tc := tc) (A := A) hw) (cw_L_44 htb ⟨Nat.le_of_ble_eq_true rfl, Nat.le_of_ble_eq_true rfl⟩) (z_preV hG hA hS hM h4 rfl) rfl rfl hl.1 rfl (lv_room (Nat.le_of_ble_eq_true rfl)) dL_hasReached_2 ⟨Nat.le_refl _, Nat.le_refl _⟩) hS (fun _ _ h => h) (fun _ h => h) (fun r2 M1 t H locs ht hvm hw hB _ _ hS => ?_)
  have hM : zP D vwCl tc A M1 H := by rw [← ht]; exact hB
  refine lv_if_lt (tgt := 12) hx hb dL_hasReached_5 (by decide) (fun hq => ?_) (fun hq => ?_)
  · have hw := hw.1 hq
    refine lv_iconst (v := 0) hx hb dL_hasReached_12 (by decide +kernel) ?_
    exact W.zret hx hb hr rfl (fun t ht hW => ⟨⟨_, _, rfl, hw, zB_of ht hM⟩, hS.F ht⟩) hS.2.2 dL_hasReached_13
  · have hw := hw.2 hq
    refine lv_iconst (v := 1) hx hb dL_hasReached_8 (by decide +kernel) ?_
    refine lv_goto (tgt := 13) hx hb dL_hasReached_9 (by decide) ?_
    exact W.zret hx hb hr rfl (fun t ht hW => ⟨⟨_, _, rfl, hw, zB_of ht hM⟩, hS.F ht⟩) hS.2.2 dL_hasReached_13
abbrev r_L_hasReachedBy : Room := { frames := 2, cells := 0, slots := 0, locals := 42 }
abbrev J_L_hasReachedBy_29 (p : Program) (l : Launch) (e : Env) (s : State) (m : MethodId) (args : Array Value) (below : List Frame) (meth : Method) (c : Code) (D : va_G) (tc : Nat → ClassId) (A : Nat → Prop) (Q : State → Prop) (K : zM → Prop) : Prop := ∀ (M : zM) (H : Heap) (locs : List Loc) (ls : Array Slot), zP D vwCl tc A M H → va_S A s.heap H locs → lv_has ls 3 [] → K M → W p l e (r_L_hasReachedBy) s m args below meth c H locs 0 0 Q (F0 m 29 ls [])
def w_L_hasReachedBy_j29 (e0 : Nat) (post : Int32 → zM → Prop) (M : zM) : Prop := post 0 M
set_option maxHeartbeats 4000000 in
set_option maxRecDepth 100000 in
theorem k_L_hasReachedBy_j29 {p : Program} {l : Launch} {e : Env} {s : State} {m : MethodId} {args : Array Value} {below : List Frame} {meth : Method} {c : Code} {D : va_G} {tc : Nat → ClassId} {A : Nat → Prop} {post : Int32 → zM → Prop} (C0 : zC R_L cL_hasReachedBy 3 (some .boolean) "hasReachedBy" D tc A p l s m args meth c) : J_L_hasReachedBy_29 p l e s m args below meth c D tc A (MQ below (va_Qi post (zB D tc A) A) args s 0 0 A) (w_L_hasReachedBy_j29 (tc 9) post) := by
  obtain ⟨hx, hb, hml, hr, hown, htb, hlk, hA, hG, hin, hex⟩ := id C0
  have hK := hG.1
  intro M H locs ls hM hS hl hw
  refine lv_iconst (v := 0) hx hb dL_hasReachedBy_29 (by decide +kernel) ?_
  exact W.zret hx hb hr rfl (fun t ht hW => ⟨⟨_, _, rfl, hw, zB_of ht hM⟩, hS.F ht⟩) hS.2.2 dL_hasReachedBy_30
def w_L_hasReachedBy (e0 : Nat) (post : Int32 → zM → Prop) (M : zM) (h0 : Nat) (x1 : Int32) (x2 : Int32) : Prop := wIs M h0 1 ∧ w_L_hasReached e0 (fun r2 M1 => ((r2 = 0) → w_L_hasReachedBy_j29 e0 post M1) ∧ (¬ (r2 = 0) → wGI M1 h0 1 2 (fun v3 => wIs M1 h0 1 ∧ w_L_reachOf e0 (fun r8 M7 => (((x1 - v3) < (r8 / 10)) → w_L_hasReachedBy_j29 e0 post M7) ∧ (¬ ((x1 - v3) < (r8 / 10)) → post 1 M7)) M1 h0 x2))) M h0 x2
set_option maxHeartbeats 4000000 in
set_option maxRecDepth 100000 in
theorem k_L_hasReachedBy {l : Launch} {D : va_G} {tc : Nat → ClassId} {A : Nat → Prop} {post : Int32 → zM → Prop} {M : zM} {h0 : Nat} {x1 : Int32} {x2 : Int32} (hw : w_L_hasReachedBy (tc 9) post M h0 x1 x2) : Met l yL_hasReachedBy (.code yL_hasReachedBy cL_hasReachedBy 3 (some .boolean) :: zTB) r_L_hasReachedBy (va_Pc [.ref h0, .int x1, .int x2] (zI D tc A M)) (va_Qi post (zB D tc A) A) 0 0 A := by
  refine Met.ofW (cc := cL_hasReachedBy) (maxL := 3) (ret := (some .boolean)) (by decide +kernel) rfl ?_
  intro p e s m args below meth c s₁ B hml hv
  obtain ⟨rfl, hA, hM, hG⟩ := hv
  have C0 := zC_of (D := D) (tc := tc) (A := A) B hml (zC_ex B) hA hG
  obtain ⟨hx, hb, hml, hr, hown, htb, hlk, hA, hG, hin, hex⟩ := id C0
  have hK := hG.1
  have hS : va_S A s.heap s.heap [] := va_S.rf
  have hl := lv_entry ([.ref h0, .int x1, .int x2]) (n := 3) (Nat.le_of_ble_eq_true rfl)
  rw [lg_entry_eq]
  generalize (lg_sl ([.ref h0, .int x1, .int x2]) ++ List.replicate (3 - (lg_sl ([.ref h0, .int x1, .int x2])).length) Slot.unset).toArray = ls at hl ⊢
  have hl : lv_has ls 3 [(0, .ref h0), (1, .int x1), (2, .int x2)] := hl
  refine lv_aload_n hx hb dL_hasReachedBy_0 rfl (lv_at hl 0 rfl) ?_
  refine lv_iload_n hx hb dL_hasReachedBy_1 rfl (lv_at hl 2 rfl) ?_
  obtain ⟨⟨fs11, h12⟩, hw⟩ := hw
  refine va_calli (va_runV (As := [.int x2]) (rest := []) ⟨hx, hb, hml, hown, htb⟩ (k_L_hasReached (l := l) (D := D) (tc := tc) (A := A) hw) (cw_L_48 htb ⟨Nat.le_of_ble_eq_true rfl, Nat.le_of_ble_eq_true rfl⟩) (z_preV hG hA hS hM h12 rfl) rfl rfl hl.1 rfl (lv_room (Nat.le_of_ble_eq_true rfl)) dL_hasReachedBy_2 ⟨Nat.le_refl _, Nat.le_refl _⟩) hS (fun _ _ h => h) (fun _ h => h) (fun r2 M1 t H locs ht hvm hw hB _ _ hS => ?_)
  have hM : zP D vwCl tc A M1 H := by rw [← ht]; exact hB
  refine lv_if_eq (tgt := 29) hx hb dL_hasReachedBy_5 (by decide) (fun hq => ?_) (fun hq => ?_)
  · have hw := hw.1 hq
    exact k_L_hasReachedBy_j29 C0  _  _ _ _ hM hS (lv_sub hl [] rfl) hw
  · have hw := hw.2 hq
    refine lv_iload_n hx hb dL_hasReachedBy_8 rfl (lv_at hl 1 rfl) ?_
    refine lv_aload_n hx hb dL_hasReachedBy_9 rfl (lv_at hl 0 rfl) ?_
    obtain ⟨fs4, v3, h5, ev6, hw⟩ := hw
    refine z_get hx hb htb inw_L hown hK hM h5 rfl 2 (by decide) (htb _ t_428) (fun _ h9 => h9) ev6 dL_hasReachedBy_10 ?_
    refine lv_isub hx hb dL_hasReachedBy_13 ?_
    refine lv_aload_n hx hb dL_hasReachedBy_14 rfl (lv_at hl 0 rfl) ?_
    refine lv_iload_n hx hb dL_hasReachedBy_15 rfl (lv_at hl 2 rfl) ?_
    obtain ⟨⟨fs9, h10⟩, hw⟩ := hw
    refine va_calli (va_runV (As := [.int x2]) (rest := [.int (x1 - v3)]) ⟨hx, hb, hml, hown, htb⟩ (k_L_reachOf (l := l) (D := D) (tc := tc) (A := A) hw) (cw_L_44 htb ⟨Nat.le_of_ble_eq_true rfl, Nat.le_of_ble_eq_true rfl⟩) (z_preV hG hA hS hM h10 rfl) rfl rfl hl.1 rfl (lv_room (Nat.le_of_ble_eq_true rfl)) dL_hasReachedBy_16 ⟨Nat.le_refl _, Nat.le_refl _⟩) hS (fun _ _ h => h) (fun _ h => h) (fun r8 M7 t H locs ht hvm hw hB _ _ hS => ?_)
    have hM : zP D vwCl tc A M7 H := by rw [← ht]; exact hB
    refine lv_bipush (v := 10) hx hb dL_hasReachedBy_19 (by decide +kernel) ?_
    refine lv_idiv hx hb dL_hasReachedBy_21 (by decide) ?_
    refine lv_icmp_lt (tgt := 29) hx hb dL_hasReachedBy_22 (by decide) (fun hq => ?_) (fun hq => ?_)
    · have hw := hw.1 hq
      exact k_L_hasReachedBy_j29 C0  _  _ _ _ hM hS (lv_sub hl [] rfl) hw
    · have hw := hw.2 hq
      refine lv_iconst (v := 1) hx hb dL_hasReachedBy_25 (by decide +kernel) ?_
      refine lv_goto (tgt := 30) hx hb dL_hasReachedBy_26 (by decide) ?_
      exact W.zret hx hb hr rfl (fun t ht hW => ⟨⟨_, _, rfl, hw, zB_of ht hM⟩, hS.F ht⟩) hS.2.2 dL_hasReachedBy_30
abbrev r_L_note : Room := { frames := 0, cells := 0, slots := 0, locals := 0 }
def w_L_note (e0 : Nat) (post : zM → Prop) (M : zM) (h0 : Nat) (x1 : Int32) (x2 : Int32) : Prop := ((x1 < 0) → post M) ∧ (¬ (x1 < 0) → wGR M h0 1 6 (fun v1 => wAL M v1 0 (fun v6 => ((v6 ≤ x1) → post M) ∧ (¬ (v6 ≤ x1) → wGR M h0 1 6 (fun v9 => wSI M v9 0 x1 x2 (fun M17 => post M17))))))
set_option maxHeartbeats 4000000 in
set_option maxRecDepth 100000 in
theorem k_L_note {l : Launch} {D : va_G} {tc : Nat → ClassId} {A : Nat → Prop} {post : zM → Prop} {M : zM} {h0 : Nat} {x1 : Int32} {x2 : Int32} (hw : w_L_note (tc 9) post M h0 x1 x2) : Met l yL_note (.code yL_note cL_note 3 none :: zTB) r_L_note (va_Pc [.ref h0, .int x1, .int x2] (zI D tc A M)) (va_Qv post (zB D tc A) A) 0 0 A := by
  refine Met.ofW (cc := cL_note) (maxL := 3) (ret := none) (by decide +kernel) rfl ?_
  intro p e s m args below meth c s₁ B hml hv
  obtain ⟨rfl, hA, hM, hG⟩ := hv
  have C0 := zC_of (D := D) (tc := tc) (A := A) B hml (zC_ex B) hA hG
  obtain ⟨hx, hb, hml, hr, hown, htb, hlk, hA, hG, hin, hex⟩ := id C0
  have hK := hG.1
  have hS : va_S A s.heap s.heap [] := va_S.rf
  have hl := lv_entry ([.ref h0, .int x1, .int x2]) (n := 3) (Nat.le_of_ble_eq_true rfl)
  rw [lg_entry_eq]
  generalize (lg_sl ([.ref h0, .int x1, .int x2]) ++ List.replicate (3 - (lg_sl ([.ref h0, .int x1, .int x2])).length) Slot.unset).toArray = ls at hl ⊢
  have hl : lv_has ls 3 [(0, .ref h0), (1, .int x1), (2, .int x2)] := hl
  refine lv_iload_n hx hb dL_note_0 rfl (lv_at hl 1 rfl) ?_
  refine lv_if_lt (tgt := 20) hx hb dL_note_1 (by decide) (fun hq => ?_) (fun hq => ?_)
  · have hw := hw.1 hq
    exact W.vret hx hb hr (fun t ht hW => ⟨⟨_, rfl, hw, zB_of ht hM⟩, hS.F ht⟩) hS.2.2 dL_note_20
  · have hw := hw.2 hq
    refine lv_iload_n hx hb dL_note_4 rfl (lv_at hl 1 rfl) ?_
    refine lv_aload_n hx hb dL_note_5 rfl (lv_at hl 0 rfl) ?_
    obtain ⟨fs2, v1, h3, ev4, hw⟩ := hw
    refine z_get hx hb htb inw_L hown hK hM h3 rfl 6 (by decide) (htb _ t_435) (fun _ h9 => h9) ev4 dL_note_6 ?_
    obtain ⟨w5, v6, h7, ev8, hw⟩ := hw
    refine z_alen hx hb hK hM 0 0 h7 rfl ev8 dL_note_9 ?_
    refine lv_icmp_ge (tgt := 20) hx hb dL_note_10 (by decide) (fun hq => ?_) (fun hq => ?_)
    · have hw := hw.1 hq
      exact W.vret hx hb hr (fun t ht hW => ⟨⟨_, rfl, hw, zB_of ht hM⟩, hS.F ht⟩) hS.2.2 dL_note_20
    · have hw := hw.2 hq
      refine lv_aload_n hx hb dL_note_13 rfl (lv_at hl 0 rfl) ?_
      obtain ⟨fs10, v9, h11, ev12, hw⟩ := hw
      refine z_get hx hb htb inw_L hown hK hM h11 rfl 6 (by decide) (htb _ t_435) (fun _ h9 => h9) ev12 dL_note_14 ?_
      refine lv_iload_n hx hb dL_note_17 rfl (lv_at hl 1 rfl) ?_
      refine lv_iload_n hx hb dL_note_18 rfl (lv_at hl 2 rfl) ?_
      obtain ⟨n13, f14, h15, hi16, hw⟩ := hw
      refine z_iast hx hb hK hM hS 0 0 h15 rfl hi16 dL_note_19 (fun H locs hM hS => ?_)
      exact W.vret hx hb hr (fun t ht hW => ⟨⟨_, rfl, hw, zB_of ht hM⟩, hS.F ht⟩) hS.2.2 dL_note_20
abbrev r_L_hasAsked : Room := { frames := 1, cells := 0, slots := 0, locals := 21 }
def w_L_hasAsked (e0 : Nat) (post : Int32 → zM → Prop) (M : zM) (h0 : Nat) (x1 : Int32) : Prop := wIs M h0 1 ∧ w_L_reachOf e0 (fun r2 M1 => ((r2 = (-2)) → post 0 M1) ∧ (¬ (r2 = (-2)) → post 1 M1)) M h0 x1
set_option maxHeartbeats 4000000 in
set_option maxRecDepth 100000 in
theorem k_L_hasAsked {l : Launch} {D : va_G} {tc : Nat → ClassId} {A : Nat → Prop} {post : Int32 → zM → Prop} {M : zM} {h0 : Nat} {x1 : Int32} (hw : w_L_hasAsked (tc 9) post M h0 x1) : Met l yL_hasAsked (.code yL_hasAsked cL_hasAsked 2 (some .boolean) :: zTB) r_L_hasAsked (va_Pc [.ref h0, .int x1] (zI D tc A M)) (va_Qi post (zB D tc A) A) 0 0 A := by
  refine Met.ofW (cc := cL_hasAsked) (maxL := 2) (ret := (some .boolean)) (by decide +kernel) rfl ?_
  intro p e s m args below meth c s₁ B hml hv
  obtain ⟨rfl, hA, hM, hG⟩ := hv
  have C0 := zC_of (D := D) (tc := tc) (A := A) B hml (zC_ex B) hA hG
  obtain ⟨hx, hb, hml, hr, hown, htb, hlk, hA, hG, hin, hex⟩ := id C0
  have hK := hG.1
  have hS : va_S A s.heap s.heap [] := va_S.rf
  have hl := lv_entry ([.ref h0, .int x1]) (n := 2) (Nat.le_of_ble_eq_true rfl)
  rw [lg_entry_eq]
  generalize (lg_sl ([.ref h0, .int x1]) ++ List.replicate (2 - (lg_sl ([.ref h0, .int x1])).length) Slot.unset).toArray = ls at hl ⊢
  have hl : lv_has ls 2 [(0, .ref h0), (1, .int x1)] := hl
  refine lv_aload_n hx hb dL_hasAsked_0 rfl (lv_at hl 0 rfl) ?_
  refine lv_iload_n hx hb dL_hasAsked_1 rfl (lv_at hl 1 rfl) ?_
  obtain ⟨⟨fs3, h4⟩, hw⟩ := hw
  refine va_calli (va_runV (As := [.int x1]) (rest := []) ⟨hx, hb, hml, hown, htb⟩ (k_L_reachOf (l := l) (D := D) (tc := tc) (A := A) hw) (cw_L_44 htb ⟨Nat.le_of_ble_eq_true rfl, Nat.le_of_ble_eq_true rfl⟩) (z_preV hG hA hS hM h4 rfl) rfl rfl hl.1 rfl (lv_room (Nat.le_of_ble_eq_true rfl)) dL_hasAsked_2 ⟨Nat.le_refl _, Nat.le_refl _⟩) hS (fun _ _ h => h) (fun _ h => h) (fun r2 M1 t H locs ht hvm hw hB _ _ hS => ?_)
  have hM : zP D vwCl tc A M1 H := by rw [← ht]; exact hB
  refine lv_bipush (v := (-2)) hx hb dL_hasAsked_5 (by decide +kernel) ?_
  refine lv_icmp_eq (tgt := 14) hx hb dL_hasAsked_7 (by decide) (fun hq => ?_) (fun hq => ?_)
  · have hw := hw.1 hq
    refine lv_iconst (v := 0) hx hb dL_hasAsked_14 (by decide +kernel) ?_
    exact W.zret hx hb hr rfl (fun t ht hW => ⟨⟨_, _, rfl, hw, zB_of ht hM⟩, hS.F ht⟩) hS.2.2 dL_hasAsked_15
  · have hw := hw.2 hq
    refine lv_iconst (v := 1) hx hb dL_hasAsked_10 (by decide +kernel) ?_
    refine lv_goto (tgt := 15) hx hb dL_hasAsked_11 (by decide) ?_
    exact W.zret hx hb hr rfl (fun t ht hW => ⟨⟨_, _, rfl, hw, zB_of ht hM⟩, hS.F ht⟩) hS.2.2 dL_hasAsked_15
abbrev r_L_countFrom : Room := { frames := 0, cells := 0, slots := 0, locals := 0 }
abbrev J_L_countFrom_33 (p : Program) (l : Launch) (e : Env) (s : State) (m : MethodId) (args : Array Value) (below : List Frame) (meth : Method) (c : Code) (D : va_G) (tc : Nat → ClassId) (A : Nat → Prop) (Q : State → Prop) (K : zM → Int32 → Int32 → Nat → Int32 → Int32 → Prop) : Prop := ∀ (M : zM) (l1 : Int32) (l2 : Int32) (l3 : Nat) (l4 : Int32) (l5 : Int32) (H : Heap) (locs : List Loc) (ls : Array Slot), zP D vwCl tc A M H → va_S A s.heap H locs → lv_has ls 7 [(1, .int l1), (2, .int l2), (3, .ref l3), (4, .int l4), (5, .int l5)] → K M l1 l2 l3 l4 l5 → W p l e (r_L_countFrom) s m args below meth c H locs 0 0 Q (F0 m 33 ls [])
abbrev J_L_countFrom_11 (p : Program) (l : Launch) (e : Env) (s : State) (m : MethodId) (args : Array Value) (below : List Frame) (meth : Method) (c : Code) (D : va_G) (tc : Nat → ClassId) (A : Nat → Prop) (Q : State → Prop) (K : zM → Int32 → Int32 → Nat → Int32 → Int32 → Prop) : Prop := ∀ (M : zM) (l1 : Int32) (l2 : Int32) (l3 : Nat) (l4 : Int32) (l5 : Int32) (H : Heap) (locs : List Loc) (ls : Array Slot), zP D vwCl tc A M H → va_S A s.heap H locs → lv_has ls 7 [(1, .int l1), (2, .int l2), (3, .ref l3), (4, .int l4), (5, .int l5)] → K M l1 l2 l3 l4 l5 → W p l e (r_L_countFrom) s m args below meth c H locs 0 0 Q (F0 m 11 ls [])
def w_L_countFrom_j33 (e0 : Nat) (post : Int32 → zM → Prop) (K11 : zM → Int32 → Int32 → Nat → Int32 → Int32 → Prop) (M : zM) (l1 : Int32) (l2 : Int32) (l3 : Nat) (l4 : Int32) (l5 : Int32) : Prop := K11 M l1 l2 l3 l4 (l5 + 1)
set_option maxHeartbeats 4000000 in
set_option maxRecDepth 100000 in
theorem k_L_countFrom_j33 {p : Program} {l : Launch} {e : Env} {s : State} {m : MethodId} {args : Array Value} {below : List Frame} {meth : Method} {c : Code} {D : va_G} {tc : Nat → ClassId} {A : Nat → Prop} {post : Int32 → zM → Prop} (C0 : zC R_L cL_countFrom 7 (some .int) "countFrom" D tc A p l s m args meth c) {K11 : zM → Int32 → Int32 → Nat → Int32 → Int32 → Prop} (hK11 : J_L_countFrom_11 p l e s m args below meth c D tc A (MQ below (va_Qi post (zB D tc A) A) args s 0 0 A) K11) : J_L_countFrom_33 p l e s m args below meth c D tc A (MQ below (va_Qi post (zB D tc A) A) args s 0 0 A) (w_L_countFrom_j33 (tc 9) post K11) := by
  obtain ⟨hx, hb, hml, hr, hown, htb, hlk, hA, hG, hin, hex⟩ := id C0
  have hK := hG.1
  intro M l1 l2 l3 l4 l5 H locs ls hM hS hl hw
  refine lv_iinc (v := (l5 + 1)) (lv' := [(5, .int (l5 + 1)), (1, .int l1), (2, .int l2), (3, .ref l3), (4, .int l4)]) hx hb dL_countFrom_33 hl (k := 4) rfl rfl (by decide) rfl (fun ls hl => ?_)
  refine lv_goto (tgt := 11) hx hb dL_countFrom_36 (by decide) ?_
  exact hK11 _ _ _ _ _ _ _ _ _ hM hS (lv_sub hl [1, 2, 3, 4, 0] rfl) hw
def w_L_countFrom_j11 (e0 : Nat) (post : Int32 → zM → Prop) : Nat → zM → Int32 → Int32 → Nat → Int32 → Int32 → Prop
  | 0 => fun _ _ _ _ _ _ => False
  | n + 1 => fun M l1 l2 l3 l4 l5 => ((l4 ≤ l5) → post l2 M) ∧ (¬ (l4 ≤ l5) → wLI M l3 0 l5 (fun v3 => ((v3 < l1) → w_L_countFrom_j33 e0 post (w_L_countFrom_j11 e0 post n) M l1 l2 l3 l4 l5) ∧ (¬ (v3 < l1) → w_L_countFrom_j33 e0 post (w_L_countFrom_j11 e0 post n) M l1 (l2 + 1) l3 l4 l5)))
set_option maxHeartbeats 4000000 in
set_option maxRecDepth 100000 in
theorem k_L_countFrom_j11 {p : Program} {l : Launch} {e : Env} {s : State} {m : MethodId} {args : Array Value} {below : List Frame} {meth : Method} {c : Code} {D : va_G} {tc : Nat → ClassId} {A : Nat → Prop} {post : Int32 → zM → Prop} (C0 : zC R_L cL_countFrom 7 (some .int) "countFrom" D tc A p l s m args meth c) : ∀ n : Nat, J_L_countFrom_11 p l e s m args below meth c D tc A (MQ below (va_Qi post (zB D tc A) A) args s 0 0 A) (w_L_countFrom_j11 (tc 9) post n) := by
  obtain ⟨hx, hb, hml, hr, hown, htb, hlk, hA, hG, hin, hex⟩ := id C0
  have hK := hG.1
  intro n
  induction n with
  | zero => intro M l1 l2 l3 l4 l5 H locs ls hM hS hl hw; exact hw.elim
  | succ n ih =>
    intro M l1 l2 l3 l4 l5 H locs ls hM hS hl hw
    refine lv_iload hx hb dL_countFrom_11 (lv_at hl 4 rfl) ?_
    refine lv_iload hx hb dL_countFrom_13 (lv_at hl 3 rfl) ?_
    refine lv_icmp_ge (tgt := 39) hx hb dL_countFrom_15 (by decide) (fun hq => ?_) (fun hq => ?_)
    · have hw := hw.1 hq
      refine lv_iload_n hx hb dL_countFrom_39 rfl (lv_at hl 1 rfl) ?_
      exact W.iret hx hb hr (fun t ht hW => ⟨⟨_, _, rfl, hw, zB_of ht hM⟩, hS.F ht⟩) hS.2.2 dL_countFrom_40
    · have hw := hw.2 hq
      refine lv_aload_n hx hb dL_countFrom_18 rfl (lv_at hl 2 rfl) ?_
      refine lv_iload hx hb dL_countFrom_19 (lv_at hl 4 rfl) ?_
      obtain ⟨n1, f2, v3, h4, hi5, ev6, hw⟩ := hw
      refine z_iald hx hb hK hM 0 0 h4 rfl hi5 ev6 dL_countFrom_21 ?_
      refine lv_istore (lv' := [(6, .int v3), (1, .int l1), (2, .int l2), (3, .ref l3), (4, .int l4), (5, .int l5)]) hx hb dL_countFrom_22 hl (by decide) rfl (fun ls hl => ?_)
      refine lv_iload hx hb dL_countFrom_24 (lv_at hl 0 rfl) ?_
      refine lv_iload_n hx hb dL_countFrom_26 rfl (lv_at hl 1 rfl) ?_
      refine lv_icmp_lt (tgt := 33) hx hb dL_countFrom_27 (by decide) (fun hq => ?_) (fun hq => ?_)
      · have hw := hw.1 hq
        exact k_L_countFrom_j33 C0 ih _ _ _ _ _ _ _ _ _ hM hS (lv_sub hl [1, 2, 3, 4, 5] rfl) hw
      · have hw := hw.2 hq
        refine lv_iinc (v := (l2 + 1)) (lv' := [(2, .int (l2 + 1)), (6, .int v3), (1, .int l1), (3, .ref l3), (4, .int l4), (5, .int l5)]) hx hb dL_countFrom_30 hl (k := 2) rfl rfl (by decide) rfl (fun ls hl => ?_)
        exact k_L_countFrom_j33 C0 ih _ _ _ _ _ _ _ _ _ hM hS (lv_sub hl [2, 0, 3, 4, 5] rfl) hw
def w_L_countFrom (e0 : Nat) (post : Int32 → zM → Prop) (M : zM) (h0 : Nat) (x1 : Int32) : Prop := wAL M h0 0 (fun v2 => ∃ nn, w_L_countFrom_j11 e0 post nn M x1 0 h0 v2 0)
set_option maxHeartbeats 4000000 in
set_option maxRecDepth 100000 in
theorem k_L_countFrom {l : Launch} {D : va_G} {tc : Nat → ClassId} {A : Nat → Prop} {post : Int32 → zM → Prop} {M : zM} {h0 : Nat} {x1 : Int32} (hw : w_L_countFrom (tc 9) post M h0 x1) : Met l yL_countFrom (.code yL_countFrom cL_countFrom 7 (some .int) :: zTB) r_L_countFrom (va_Pc [.ref h0, .int x1] (zI D tc A M)) (va_Qi post (zB D tc A) A) 0 0 A := by
  refine Met.ofW (cc := cL_countFrom) (maxL := 7) (ret := (some .int)) (by decide +kernel) rfl ?_
  intro p e s m args below meth c s₁ B hml hv
  obtain ⟨rfl, hA, hM, hG⟩ := hv
  have C0 := zC_of (D := D) (tc := tc) (A := A) B hml (zC_ex B) hA hG
  obtain ⟨hx, hb, hml, hr, hown, htb, hlk, hA, hG, hin, hex⟩ := id C0
  have hK := hG.1
  have hS : va_S A s.heap s.heap [] := va_S.rf
  have hl := lv_entry ([.ref h0, .int x1]) (n := 7) (Nat.le_of_ble_eq_true rfl)
  rw [lg_entry_eq]
  generalize (lg_sl ([.ref h0, .int x1]) ++ List.replicate (7 - (lg_sl ([.ref h0, .int x1])).length) Slot.unset).toArray = ls at hl ⊢
  have hl : lv_has ls 7 [(0, .ref h0), (1, .int x1)] := hl
  refine lv_iconst (v := 0) hx hb dL_countFrom_0 (by decide +kernel) ?_
  refine lv_istore_n (lv' := [(2, .int 0), (0, .ref h0), (1, .int x1)]) hx hb dL_countFrom_1 rfl hl (by decide) rfl (fun ls hl => ?_)
  refine lv_aload_n hx hb dL_countFrom_2 rfl (lv_at hl 1 rfl) ?_
  refine lv_astore_n (lv' := [(3, .ref h0), (2, .int 0), (0, .ref h0), (1, .int x1)]) hx hb dL_countFrom_3 rfl hl (by decide) rfl (fun ls hl => ?_)
  refine lv_aload_n hx hb dL_countFrom_4 rfl (lv_at hl 0 rfl) ?_
  obtain ⟨w1, v2, h3, ev4, hw⟩ := hw
  refine z_alen hx hb hK hM 0 0 h3 rfl ev4 dL_countFrom_5 ?_
  refine lv_istore (lv' := [(4, .int v2), (3, .ref h0), (2, .int 0), (0, .ref h0), (1, .int x1)]) hx hb dL_countFrom_6 hl (by decide) rfl (fun ls hl => ?_)
  refine lv_iconst (v := 0) hx hb dL_countFrom_8 (by decide +kernel) ?_
  refine lv_istore (lv' := [(5, .int 0), (4, .int v2), (3, .ref h0), (2, .int 0), (0, .ref h0), (1, .int x1)]) hx hb dL_countFrom_9 hl (by decide) rfl (fun ls hl => ?_)
  obtain ⟨nfu, hw⟩ := hw
  exact k_L_countFrom_j11 C0  nfu _ _ _ _ _ _ _ _ _ hM hS (lv_sub hl [5, 3, 2, 1, 0] rfl) hw
abbrev r_L_comingPersons : Room := { frames := 1, cells := 0, slots := 0, locals := 26 }
def w_L_comingPersons (e0 : Nat) (post : Int32 → zM → Prop) (M : zM) (h0 : Nat) : Prop := wGR M h0 1 6 (fun v1 => w_L_countFrom e0 (fun r6 M5 => post r6 M5) M v1 0)
set_option maxHeartbeats 4000000 in
set_option maxRecDepth 100000 in
theorem k_L_comingPersons {l : Launch} {D : va_G} {tc : Nat → ClassId} {A : Nat → Prop} {post : Int32 → zM → Prop} {M : zM} {h0 : Nat} (hw : w_L_comingPersons (tc 9) post M h0) : Met l yL_comingPersons (.code yL_comingPersons cL_comingPersons 1 (some .int) :: zTB) r_L_comingPersons (va_Pc [.ref h0] (zI D tc A M)) (va_Qi post (zB D tc A) A) 0 0 A := by
  refine Met.ofW (cc := cL_comingPersons) (maxL := 1) (ret := (some .int)) (by decide +kernel) rfl ?_
  intro p e s m args below meth c s₁ B hml hv
  obtain ⟨rfl, hA, hM, hG⟩ := hv
  have C0 := zC_of (D := D) (tc := tc) (A := A) B hml (zC_ex B) hA hG
  obtain ⟨hx, hb, hml, hr, hown, htb, hlk, hA, hG, hin, hex⟩ := id C0
  have hK := hG.1
  have hS : va_S A s.heap s.heap [] := va_S.rf
  have hl := lv_entry ([.ref h0]) (n := 1) (Nat.le_of_ble_eq_true rfl)
  rw [lg_entry_eq]
  generalize (lg_sl ([.ref h0]) ++ List.replicate (1 - (lg_sl ([.ref h0])).length) Slot.unset).toArray = ls at hl ⊢
  have hl : lv_has ls 1 [(0, .ref h0)] := hl
  refine lv_aload_n hx hb dL_comingPersons_0 rfl (lv_at hl 0 rfl) ?_
  obtain ⟨fs2, v1, h3, ev4, hw⟩ := hw
  refine z_get hx hb htb inw_L hown hK hM h3 rfl 6 (by decide) (htb _ t_435) (fun _ h9 => h9) ev4 dL_comingPersons_1 ?_
  refine lv_iconst (v := 0) hx hb dL_comingPersons_4 (by decide +kernel) ?_
  refine va_calli (va_runS (As := [.ref v1, .int 0]) (rest := []) ⟨hx, hb, hml, hown, htb⟩ (k_L_countFrom (l := l) (D := D) (tc := tc) (A := A) hw) (cw_L_52 htb ⟨Nat.le_of_ble_eq_true rfl, Nat.le_of_ble_eq_true rfl⟩) (z_preS hG hA hS hM) rfl rfl hl.1 rfl (lv_room (Nat.le_of_ble_eq_true rfl)) dL_comingPersons_5 ⟨Nat.le_refl _, Nat.le_refl _⟩) hS (fun _ _ h => h) (fun _ h => h) (fun r6 M5 t H locs ht hvm hw hB _ _ hS => ?_)
  have hM : zP D vwCl tc A M5 H := by rw [← ht]; exact hB
  exact W.iret hx hb hr (fun t ht hW => ⟨⟨_, _, rfl, hw, zB_of ht hM⟩, hS.F ht⟩) hS.2.2 dL_comingPersons_8
abbrev r_L_askedPersons : Room := { frames := 1, cells := 0, slots := 0, locals := 26 }
def w_L_askedPersons (e0 : Nat) (post : Int32 → zM → Prop) (M : zM) (h0 : Nat) : Prop := wGR M h0 1 5 (fun v1 => w_L_countFrom e0 (fun r6 M5 => post r6 M5) M v1 (-1))
set_option maxHeartbeats 4000000 in
set_option maxRecDepth 100000 in
theorem k_L_askedPersons {l : Launch} {D : va_G} {tc : Nat → ClassId} {A : Nat → Prop} {post : Int32 → zM → Prop} {M : zM} {h0 : Nat} (hw : w_L_askedPersons (tc 9) post M h0) : Met l yL_askedPersons (.code yL_askedPersons cL_askedPersons 1 (some .int) :: zTB) r_L_askedPersons (va_Pc [.ref h0] (zI D tc A M)) (va_Qi post (zB D tc A) A) 0 0 A := by
  refine Met.ofW (cc := cL_askedPersons) (maxL := 1) (ret := (some .int)) (by decide +kernel) rfl ?_
  intro p e s m args below meth c s₁ B hml hv
  obtain ⟨rfl, hA, hM, hG⟩ := hv
  have C0 := zC_of (D := D) (tc := tc) (A := A) B hml (zC_ex B) hA hG
  obtain ⟨hx, hb, hml, hr, hown, htb, hlk, hA, hG, hin, hex⟩ := id C0
  have hK := hG.1
  have hS : va_S A s.heap s.heap [] := va_S.rf
  have hl := lv_entry ([.ref h0]) (n := 1) (Nat.le_of_ble_eq_true rfl)
  rw [lg_entry_eq]
  generalize (lg_sl ([.ref h0]) ++ List.replicate (1 - (lg_sl ([.ref h0])).length) Slot.unset).toArray = ls at hl ⊢
  have hl : lv_has ls 1 [(0, .ref h0)] := hl
  refine lv_aload_n hx hb dL_askedPersons_0 rfl (lv_at hl 0 rfl) ?_
  obtain ⟨fs2, v1, h3, ev4, hw⟩ := hw
  refine z_get hx hb htb inw_L hown hK hM h3 rfl 5 (by decide) (htb _ t_434) (fun _ h9 => h9) ev4 dL_askedPersons_1 ?_
  refine lv_iconst (v := (-1)) hx hb dL_askedPersons_4 (by decide +kernel) ?_
  refine va_calli (va_runS (As := [.ref v1, .int (-1)]) (rest := []) ⟨hx, hb, hml, hown, htb⟩ (k_L_countFrom (l := l) (D := D) (tc := tc) (A := A) hw) (cw_L_52 htb ⟨Nat.le_of_ble_eq_true rfl, Nat.le_of_ble_eq_true rfl⟩) (z_preS hG hA hS hM) rfl rfl hl.1 rfl (lv_room (Nat.le_of_ble_eq_true rfl)) dL_askedPersons_5 ⟨Nat.le_refl _, Nat.le_refl _⟩) hS (fun _ _ h => h) (fun _ h => h) (fun r6 M5 t H locs ht hvm hw hB _ _ hS => ?_)
  have hM : zP D vwCl tc A M5 H := by rw [← ht]; exact hB
  exact W.iret hx hb hr (fun t ht hW => ⟨⟨_, _, rfl, hw, zB_of ht hM⟩, hS.F ht⟩) hS.2.2 dL_askedPersons_8
abbrev r_L_answeredPersons : Room := { frames := 1, cells := 0, slots := 0, locals := 26 }
def w_L_answeredPersons (e0 : Nat) (post : Int32 → zM → Prop) (M : zM) (h0 : Nat) : Prop := wGR M h0 1 6 (fun v1 => w_L_countFrom e0 (fun r6 M5 => post r6 M5) M v1 (-1))
set_option maxHeartbeats 4000000 in
set_option maxRecDepth 100000 in
theorem k_L_answeredPersons {l : Launch} {D : va_G} {tc : Nat → ClassId} {A : Nat → Prop} {post : Int32 → zM → Prop} {M : zM} {h0 : Nat} (hw : w_L_answeredPersons (tc 9) post M h0) : Met l yL_answeredPersons (.code yL_answeredPersons cL_answeredPersons 1 (some .int) :: zTB) r_L_answeredPersons (va_Pc [.ref h0] (zI D tc A M)) (va_Qi post (zB D tc A) A) 0 0 A := by
  refine Met.ofW (cc := cL_answeredPersons) (maxL := 1) (ret := (some .int)) (by decide +kernel) rfl ?_
  intro p e s m args below meth c s₁ B hml hv
  obtain ⟨rfl, hA, hM, hG⟩ := hv
  have C0 := zC_of (D := D) (tc := tc) (A := A) B hml (zC_ex B) hA hG
  obtain ⟨hx, hb, hml, hr, hown, htb, hlk, hA, hG, hin, hex⟩ := id C0
  have hK := hG.1
  have hS : va_S A s.heap s.heap [] := va_S.rf
  have hl := lv_entry ([.ref h0]) (n := 1) (Nat.le_of_ble_eq_true rfl)
  rw [lg_entry_eq]
  generalize (lg_sl ([.ref h0]) ++ List.replicate (1 - (lg_sl ([.ref h0])).length) Slot.unset).toArray = ls at hl ⊢
  have hl : lv_has ls 1 [(0, .ref h0)] := hl
  refine lv_aload_n hx hb dL_answeredPersons_0 rfl (lv_at hl 0 rfl) ?_
  obtain ⟨fs2, v1, h3, ev4, hw⟩ := hw
  refine z_get hx hb htb inw_L hown hK hM h3 rfl 6 (by decide) (htb _ t_435) (fun _ h9 => h9) ev4 dL_answeredPersons_1 ?_
  refine lv_iconst (v := (-1)) hx hb dL_answeredPersons_4 (by decide +kernel) ?_
  refine va_calli (va_runS (As := [.ref v1, .int (-1)]) (rest := []) ⟨hx, hb, hml, hown, htb⟩ (k_L_countFrom (l := l) (D := D) (tc := tc) (A := A) hw) (cw_L_52 htb ⟨Nat.le_of_ble_eq_true rfl, Nat.le_of_ble_eq_true rfl⟩) (z_preS hG hA hS hM) rfl rfl hl.1 rfl (lv_room (Nat.le_of_ble_eq_true rfl)) dL_answeredPersons_5 ⟨Nat.le_refl _, Nat.le_refl _⟩) hS (fun _ _ h => h) (fun _ h => h) (fun r6 M5 t H locs ht hvm hw hB _ _ hS => ?_)
  have hM : zP D vwCl tc A M5 H := by rw [← ht]; exact hB
  exact W.iret hx hb hr (fun t ht hW => ⟨⟨_, _, rfl, hw, zB_of ht hM⟩, hS.F ht⟩) hS.2.2 dL_answeredPersons_8
abbrev r_L_hasAnswer : Room := { frames := 0, cells := 0, slots := 0, locals := 0 }
abbrev J_L_hasAnswer_28 (p : Program) (l : Launch) (e : Env) (s : State) (m : MethodId) (args : Array Value) (below : List Frame) (meth : Method) (c : Code) (D : va_G) (tc : Nat → ClassId) (A : Nat → Prop) (Q : State → Prop) (K : zM → Prop) : Prop := ∀ (M : zM) (H : Heap) (locs : List Loc) (ls : Array Slot), zP D vwCl tc A M H → va_S A s.heap H locs → lv_has ls 2 [] → K M → W p l e (r_L_hasAnswer) s m args below meth c H locs 0 0 Q (F0 m 28 ls [])
def w_L_hasAnswer_j28 (e0 : Nat) (post : Int32 → zM → Prop) (M : zM) : Prop := post 0 M
set_option maxHeartbeats 4000000 in
set_option maxRecDepth 100000 in
theorem k_L_hasAnswer_j28 {p : Program} {l : Launch} {e : Env} {s : State} {m : MethodId} {args : Array Value} {below : List Frame} {meth : Method} {c : Code} {D : va_G} {tc : Nat → ClassId} {A : Nat → Prop} {post : Int32 → zM → Prop} (C0 : zC R_L cL_hasAnswer 2 (some .boolean) "hasAnswer" D tc A p l s m args meth c) : J_L_hasAnswer_28 p l e s m args below meth c D tc A (MQ below (va_Qi post (zB D tc A) A) args s 0 0 A) (w_L_hasAnswer_j28 (tc 9) post) := by
  obtain ⟨hx, hb, hml, hr, hown, htb, hlk, hA, hG, hin, hex⟩ := id C0
  have hK := hG.1
  intro M H locs ls hM hS hl hw
  refine lv_iconst (v := 0) hx hb dL_hasAnswer_28 (by decide +kernel) ?_
  exact W.zret hx hb hr rfl (fun t ht hW => ⟨⟨_, _, rfl, hw, zB_of ht hM⟩, hS.F ht⟩) hS.2.2 dL_hasAnswer_29
def w_L_hasAnswer (e0 : Nat) (post : Int32 → zM → Prop) (M : zM) (h0 : Nat) (x1 : Int32) : Prop := ((x1 < 0) → w_L_hasAnswer_j28 e0 post M) ∧ (¬ (x1 < 0) → wGR M h0 1 6 (fun v1 => wAL M v1 0 (fun v6 => ((v6 ≤ x1) → w_L_hasAnswer_j28 e0 post M) ∧ (¬ (v6 ≤ x1) → wGR M h0 1 6 (fun v9 => wLI M v9 0 x1 (fun v15 => ((v15 = (-2)) → w_L_hasAnswer_j28 e0 post M) ∧ (¬ (v15 = (-2)) → post 1 M)))))))
set_option maxHeartbeats 4000000 in
set_option maxRecDepth 100000 in
theorem k_L_hasAnswer {l : Launch} {D : va_G} {tc : Nat → ClassId} {A : Nat → Prop} {post : Int32 → zM → Prop} {M : zM} {h0 : Nat} {x1 : Int32} (hw : w_L_hasAnswer (tc 9) post M h0 x1) : Met l yL_hasAnswer (.code yL_hasAnswer cL_hasAnswer 2 (some .boolean) :: zTB) r_L_hasAnswer (va_Pc [.ref h0, .int x1] (zI D tc A M)) (va_Qi post (zB D tc A) A) 0 0 A := by
  refine Met.ofW (cc := cL_hasAnswer) (maxL := 2) (ret := (some .boolean)) (by decide +kernel) rfl ?_
  intro p e s m args below meth c s₁ B hml hv
  obtain ⟨rfl, hA, hM, hG⟩ := hv
  have C0 := zC_of (D := D) (tc := tc) (A := A) B hml (zC_ex B) hA hG
  obtain ⟨hx, hb, hml, hr, hown, htb, hlk, hA, hG, hin, hex⟩ := id C0
  have hK := hG.1
  have hS : va_S A s.heap s.heap [] := va_S.rf
  have hl := lv_entry ([.ref h0, .int x1]) (n := 2) (Nat.le_of_ble_eq_true rfl)
  rw [lg_entry_eq]
  generalize (lg_sl ([.ref h0, .int x1]) ++ List.replicate (2 - (lg_sl ([.ref h0, .int x1])).length) Slot.unset).toArray = ls at hl ⊢
  have hl : lv_has ls 2 [(0, .ref h0), (1, .int x1)] := hl
  refine lv_iload_n hx hb dL_hasAnswer_0 rfl (lv_at hl 1 rfl) ?_
  refine lv_if_lt (tgt := 28) hx hb dL_hasAnswer_1 (by decide) (fun hq => ?_) (fun hq => ?_)
  · have hw := hw.1 hq
    exact k_L_hasAnswer_j28 C0  _  _ _ _ hM hS (lv_sub hl [] rfl) hw
  · have hw := hw.2 hq
    refine lv_iload_n hx hb dL_hasAnswer_4 rfl (lv_at hl 1 rfl) ?_
    refine lv_aload_n hx hb dL_hasAnswer_5 rfl (lv_at hl 0 rfl) ?_
    obtain ⟨fs2, v1, h3, ev4, hw⟩ := hw
    refine z_get hx hb htb inw_L hown hK hM h3 rfl 6 (by decide) (htb _ t_435) (fun _ h9 => h9) ev4 dL_hasAnswer_6 ?_
    obtain ⟨w5, v6, h7, ev8, hw⟩ := hw
    refine z_alen hx hb hK hM 0 0 h7 rfl ev8 dL_hasAnswer_9 ?_
    refine lv_icmp_ge (tgt := 28) hx hb dL_hasAnswer_10 (by decide) (fun hq => ?_) (fun hq => ?_)
    · have hw := hw.1 hq
      exact k_L_hasAnswer_j28 C0  _  _ _ _ hM hS (lv_sub hl [] rfl) hw
    · have hw := hw.2 hq
      refine lv_aload_n hx hb dL_hasAnswer_13 rfl (lv_at hl 0 rfl) ?_
      obtain ⟨fs10, v9, h11, ev12, hw⟩ := hw
      refine z_get hx hb htb inw_L hown hK hM h11 rfl 6 (by decide) (htb _ t_435) (fun _ h9 => h9) ev12 dL_hasAnswer_14 ?_
      refine lv_iload_n hx hb dL_hasAnswer_17 rfl (lv_at hl 1 rfl) ?_
      obtain ⟨n13, f14, v15, h16, hi17, ev18, hw⟩ := hw
      refine z_iald hx hb hK hM 0 0 h16 rfl hi17 ev18 dL_hasAnswer_18 ?_
      refine lv_bipush (v := (-2)) hx hb dL_hasAnswer_19 (by decide +kernel) ?_
      refine lv_icmp_eq (tgt := 28) hx hb dL_hasAnswer_21 (by decide) (fun hq => ?_) (fun hq => ?_)
      · have hw := hw.1 hq
        exact k_L_hasAnswer_j28 C0  _  _ _ _ hM hS (lv_sub hl [] rfl) hw
      · have hw := hw.2 hq
        refine lv_iconst (v := 1) hx hb dL_hasAnswer_24 (by decide +kernel) ?_
        refine lv_goto (tgt := 29) hx hb dL_hasAnswer_25 (by decide) ?_
        exact W.zret hx hb hr rfl (fun t ht hW => ⟨⟨_, _, rfl, hw, zB_of ht hM⟩, hS.F ht⟩) hS.2.2 dL_hasAnswer_29
abbrev r_P_addClosed : Room := { frames := 0, cells := 0, slots := 0, locals := 0 }
def w_P_addClosed (e0 : Nat) (post : zM → Prop) (M : zM) (h0 : Nat) (x1 : Int32) : Prop := wGI M h0 3 5 (fun v1 => wPF M h0 3 5 (.int (v1 + 1)) (fun M8 => ((x1 = 0) → post M8) ∧ (¬ (x1 = 0) → wGI M8 h0 3 6 (fun v9 => wPF M8 h0 3 6 (.int (v9 + 1)) (fun M16 => post M16)))))
set_option maxHeartbeats 4000000 in
set_option maxRecDepth 100000 in
theorem k_P_addClosed {l : Launch} {D : va_G} {tc : Nat → ClassId} {A : Nat → Prop} {post : zM → Prop} {M : zM} {h0 : Nat} {x1 : Int32} (hw : w_P_addClosed (tc 9) post M h0 x1) : Met l yP_addClosed (.code yP_addClosed cP_addClosed 2 none :: zTB) r_P_addClosed (va_Pc [.ref h0, .int x1] (zI D tc A M)) (va_Qv post (zB D tc A) A) 0 0 A := by
  refine Met.ofW (cc := cP_addClosed) (maxL := 2) (ret := none) (by decide +kernel) rfl ?_
  intro p e s m args below meth c s₁ B hml hv
  obtain ⟨rfl, hA, hM, hG⟩ := hv
  have C0 := zC_of (D := D) (tc := tc) (A := A) B hml (zC_ex B) hA hG
  obtain ⟨hx, hb, hml, hr, hown, htb, hlk, hA, hG, hin, hex⟩ := id C0
  have hK := hG.1
  have hS : va_S A s.heap s.heap [] := va_S.rf
  have hl := lv_entry ([.ref h0, .int x1]) (n := 2) (Nat.le_of_ble_eq_true rfl)
  rw [lg_entry_eq]
  generalize (lg_sl ([.ref h0, .int x1]) ++ List.replicate (2 - (lg_sl ([.ref h0, .int x1])).length) Slot.unset).toArray = ls at hl ⊢
  have hl : lv_has ls 2 [(0, .ref h0), (1, .int x1)] := hl
  refine lv_aload_n hx hb dP_addClosed_0 rfl (lv_at hl 0 rfl) ?_
  refine lv_dup hx hb dP_addClosed_1 rfl ?_
  obtain ⟨fs2, v1, h3, ev4, hw⟩ := hw
  refine z_get hx hb htb inw_P hown hK hM h3 rfl 5 (by decide) (htb _ t_346) (fun _ h9 => h9) ev4 dP_addClosed_2 ?_
  refine lv_iconst (v := 1) hx hb dP_addClosed_5 (by decide +kernel) ?_
  refine lv_iadd hx hb dP_addClosed_6 ?_
  obtain ⟨fs5, h6, hl7, hw⟩ := hw
  refine z_put (ty := .int) hx hb htb inw_P ty_P tyok_P nmok_P hown hK hM hS h6 rfl 5 (by decide) (htb _ t_346) (fun _ h9 => h9) rfl (by decide +kernel) rfl rfl hl7 dP_addClosed_7 (fun H locs hM hS => ?_)
  refine lv_iload_n hx hb dP_addClosed_10 rfl (lv_at hl 1 rfl) ?_
  refine lv_if_eq (tgt := 24) hx hb dP_addClosed_11 (by decide) (fun hq => ?_) (fun hq => ?_)
  · have hw := hw.1 hq
    exact W.vret hx hb hr (fun t ht hW => ⟨⟨_, rfl, hw, zB_of ht hM⟩, hS.F ht⟩) hS.2.2 dP_addClosed_24
  · have hw := hw.2 hq
    refine lv_aload_n hx hb dP_addClosed_14 rfl (lv_at hl 0 rfl) ?_
    refine lv_dup hx hb dP_addClosed_15 rfl ?_
    obtain ⟨fs10, v9, h11, ev12, hw⟩ := hw
    refine z_get hx hb htb inw_P hown hK hM h11 rfl 6 (by decide) (htb _ t_347) (fun _ h9 => h9) ev12 dP_addClosed_16 ?_
    refine lv_iconst (v := 1) hx hb dP_addClosed_19 (by decide +kernel) ?_
    refine lv_iadd hx hb dP_addClosed_20 ?_
    obtain ⟨fs13, h14, hl15, hw⟩ := hw
    refine z_put (ty := .int) hx hb htb inw_P ty_P tyok_P nmok_P hown hK hM hS h14 rfl 6 (by decide) (htb _ t_347) (fun _ h9 => h9) rfl (by decide +kernel) rfl rfl hl15 dP_addClosed_21 (fun H locs hM hS => ?_)
    exact W.vret hx hb hr (fun t ht hW => ⟨⟨_, rfl, hw, zB_of ht hM⟩, hS.F ht⟩) hS.2.2 dP_addClosed_24
abbrev r_L_reachedPersons : Room := { frames := 1, cells := 0, slots := 0, locals := 26 }
def w_L_reachedPersons (e0 : Nat) (post : Int32 → zM → Prop) (M : zM) (h0 : Nat) : Prop := wGR M h0 1 5 (fun v1 => w_L_countFrom e0 (fun r6 M5 => post r6 M5) M v1 0)
set_option maxHeartbeats 4000000 in
set_option maxRecDepth 100000 in
theorem k_L_reachedPersons {l : Launch} {D : va_G} {tc : Nat → ClassId} {A : Nat → Prop} {post : Int32 → zM → Prop} {M : zM} {h0 : Nat} (hw : w_L_reachedPersons (tc 9) post M h0) : Met l yL_reachedPersons (.code yL_reachedPersons cL_reachedPersons 1 (some .int) :: zTB) r_L_reachedPersons (va_Pc [.ref h0] (zI D tc A M)) (va_Qi post (zB D tc A) A) 0 0 A := by
  refine Met.ofW (cc := cL_reachedPersons) (maxL := 1) (ret := (some .int)) (by decide +kernel) rfl ?_
  intro p e s m args below meth c s₁ B hml hv
  obtain ⟨rfl, hA, hM, hG⟩ := hv
  have C0 := zC_of (D := D) (tc := tc) (A := A) B hml (zC_ex B) hA hG
  obtain ⟨hx, hb, hml, hr, hown, htb, hlk, hA, hG, hin, hex⟩ := id C0
  have hK := hG.1
  have hS : va_S A s.heap s.heap [] := va_S.rf
  have hl := lv_entry ([.ref h0]) (n := 1) (Nat.le_of_ble_eq_true rfl)
  rw [lg_entry_eq]
  generalize (lg_sl ([.ref h0]) ++ List.replicate (1 - (lg_sl ([.ref h0])).length) Slot.unset).toArray = ls at hl ⊢
  have hl : lv_has ls 1 [(0, .ref h0)] := hl
  refine lv_aload_n hx hb dL_reachedPersons_0 rfl (lv_at hl 0 rfl) ?_
  obtain ⟨fs2, v1, h3, ev4, hw⟩ := hw
  refine z_get hx hb htb inw_L hown hK hM h3 rfl 5 (by decide) (htb _ t_434) (fun _ h9 => h9) ev4 dL_reachedPersons_1 ?_
  refine lv_iconst (v := 0) hx hb dL_reachedPersons_4 (by decide +kernel) ?_
  refine va_calli (va_runS (As := [.ref v1, .int 0]) (rest := []) ⟨hx, hb, hml, hown, htb⟩ (k_L_countFrom (l := l) (D := D) (tc := tc) (A := A) hw) (cw_L_52 htb ⟨Nat.le_of_ble_eq_true rfl, Nat.le_of_ble_eq_true rfl⟩) (z_preS hG hA hS hM) rfl rfl hl.1 rfl (lv_room (Nat.le_of_ble_eq_true rfl)) dL_reachedPersons_5 ⟨Nat.le_refl _, Nat.le_refl _⟩) hS (fun _ _ h => h) (fun _ h => h) (fun r6 M5 t H locs ht hvm hw hB _ _ hS => ?_)
  have hM : zP D vwCl tc A M5 H := by rw [← ht]; exact hB
  exact W.iret hx hb hr (fun t ht hW => ⟨⟨_, _, rfl, hw, zB_of ht hM⟩, hS.F ht⟩) hS.2.2 dL_reachedPersons_8
abbrev r_L_comersBefore : Room := { frames := 0, cells := 0, slots := 0, locals := 0 }
abbrev J_L_comersBefore_50 (p : Program) (l : Launch) (e : Env) (s : State) (m : MethodId) (args : Array Value) (below : List Frame) (meth : Method) (c : Code) (D : va_G) (tc : Nat → ClassId) (A : Nat → Prop) (Q : State → Prop) (K : zM → Nat → Int32 → Int32 → Int32 → Int32 → Prop) : Prop := ∀ (M : zM) (l0 : Nat) (l1 : Int32) (l2 : Int32) (l3 : Int32) (l4 : Int32) (H : Heap) (locs : List Loc) (ls : Array Slot), zP D vwCl tc A M H → va_S A s.heap H locs → lv_has ls 6 [(0, .ref l0), (1, .int l1), (2, .int l2), (3, .int l3), (4, .int l4)] → K M l0 l1 l2 l3 l4 → W p l e (r_L_comersBefore) s m args below meth c H locs 0 0 Q (F0 m 50 ls [])
abbrev J_L_comersBefore_47 (p : Program) (l : Launch) (e : Env) (s : State) (m : MethodId) (args : Array Value) (below : List Frame) (meth : Method) (c : Code) (D : va_G) (tc : Nat → ClassId) (A : Nat → Prop) (Q : State → Prop) (K : zM → Nat → Int32 → Int32 → Int32 → Int32 → Prop) : Prop := ∀ (M : zM) (l0 : Nat) (l1 : Int32) (l2 : Int32) (l3 : Int32) (l4 : Int32) (H : Heap) (locs : List Loc) (ls : Array Slot), zP D vwCl tc A M H → va_S A s.heap H locs → lv_has ls 6 [(0, .ref l0), (1, .int l1), (2, .int l2), (3, .int l3), (4, .int l4)] → K M l0 l1 l2 l3 l4 → W p l e (r_L_comersBefore) s m args below meth c H locs 0 0 Q (F0 m 47 ls [])
abbrev J_L_comersBefore_5 (p : Program) (l : Launch) (e : Env) (s : State) (m : MethodId) (args : Array Value) (below : List Frame) (meth : Method) (c : Code) (D : va_G) (tc : Nat → ClassId) (A : Nat → Prop) (Q : State → Prop) (K : zM → Nat → Int32 → Int32 → Int32 → Int32 → Prop) : Prop := ∀ (M : zM) (l0 : Nat) (l1 : Int32) (l2 : Int32) (l3 : Int32) (l4 : Int32) (H : Heap) (locs : List Loc) (ls : Array Slot), zP D vwCl tc A M H → va_S A s.heap H locs → lv_has ls 6 [(0, .ref l0), (1, .int l1), (2, .int l2), (3, .int l3), (4, .int l4)] → K M l0 l1 l2 l3 l4 → W p l e (r_L_comersBefore) s m args below meth c H locs 0 0 Q (F0 m 5 ls [])
def w_L_comersBefore_j50 (e0 : Nat) (post : Int32 → zM → Prop) (K5 : zM → Nat → Int32 → Int32 → Int32 → Int32 → Prop) (M : zM) (l0 : Nat) (l1 : Int32) (l2 : Int32) (l3 : Int32) (l4 : Int32) : Prop := K5 M l0 l1 l2 l3 (l4 + 1)
set_option maxHeartbeats 4000000 in
set_option maxRecDepth 100000 in
theorem k_L_comersBefore_j50 {p : Program} {l : Launch} {e : Env} {s : State} {m : MethodId} {args : Array Value} {below : List Frame} {meth : Method} {c : Code} {D : va_G} {tc : Nat → ClassId} {A : Nat → Prop} {post : Int32 → zM → Prop} (C0 : zC R_L cL_comersBefore 6 (some .int) "comersBefore" D tc A p l s m args meth c) {K5 : zM → Nat → Int32 → Int32 → Int32 → Int32 → Prop} (hK5 : J_L_comersBefore_5 p l e s m args below meth c D tc A (MQ below (va_Qi post (zB D tc A) A) args s 0 0 A) K5) : J_L_comersBefore_50 p l e s m args below meth c D tc A (MQ below (va_Qi post (zB D tc A) A) args s 0 0 A) (w_L_comersBefore_j50 (tc 9) post K5) := by
  obtain ⟨hx, hb, hml, hr, hown, htb, hlk, hA, hG, hin, hex⟩ := id C0
  have hK := hG.1
  intro M l0 l1 l2 l3 l4 H locs ls hM hS hl hw
  refine lv_iinc (v := (l4 + 1)) (lv' := [(4, .int (l4 + 1)), (0, .ref l0), (1, .int l1), (2, .int l2), (3, .int l3)]) hx hb dL_comersBefore_50 hl (k := 4) rfl rfl (by decide) rfl (fun ls hl => ?_)
  refine lv_goto (tgt := 5) hx hb dL_comersBefore_53 (by decide) ?_
  exact hK5 _ _ _ _ _ _ _ _ _ hM hS (lv_sub hl [1, 2, 3, 4, 0] rfl) hw
def w_L_comersBefore_j47 (e0 : Nat) (post : Int32 → zM → Prop) (K5 : zM → Nat → Int32 → Int32 → Int32 → Int32 → Prop) (M : zM) (l0 : Nat) (l1 : Int32) (l2 : Int32) (l3 : Int32) (l4 : Int32) : Prop := w_L_comersBefore_j50 e0 post K5 M l0 l1 l2 (l3 + 1) l4
set_option maxHeartbeats 4000000 in
set_option maxRecDepth 100000 in
theorem k_L_comersBefore_j47 {p : Program} {l : Launch} {e : Env} {s : State} {m : MethodId} {args : Array Value} {below : List Frame} {meth : Method} {c : Code} {D : va_G} {tc : Nat → ClassId} {A : Nat → Prop} {post : Int32 → zM → Prop} (C0 : zC R_L cL_comersBefore 6 (some .int) "comersBefore" D tc A p l s m args meth c) {K5 : zM → Nat → Int32 → Int32 → Int32 → Int32 → Prop} (hK5 : J_L_comersBefore_5 p l e s m args below meth c D tc A (MQ below (va_Qi post (zB D tc A) A) args s 0 0 A) K5) : J_L_comersBefore_47 p l e s m args below meth c D tc A (MQ below (va_Qi post (zB D tc A) A) args s 0 0 A) (w_L_comersBefore_j47 (tc 9) post K5) := by
  obtain ⟨hx, hb, hml, hr, hown, htb, hlk, hA, hG, hin, hex⟩ := id C0
  have hK := hG.1
  intro M l0 l1 l2 l3 l4 H locs ls hM hS hl hw
  refine lv_iinc (v := (l3 + 1)) (lv' := [(3, .int (l3 + 1)), (0, .ref l0), (1, .int l1), (2, .int l2), (4, .int l4)]) hx hb dL_comersBefore_47 hl (k := 3) rfl rfl (by decide) rfl (fun ls hl => ?_)
  exact k_L_comersBefore_j50 C0 hK5 _ _ _ _ _ _ _ _ _ hM hS (lv_sub hl [1, 2, 3, 0, 4] rfl) hw
def w_L_comersBefore_j5 (e0 : Nat) (post : Int32 → zM → Prop) : Nat → zM → Nat → Int32 → Int32 → Int32 → Int32 → Prop
  | 0 => fun _ _ _ _ _ _ => False
  | n + 1 => fun M l0 l1 l2 l3 l4 => wGR M l0 1 6 (fun v1 => wAL M v1 0 (fun v6 => ((v6 ≤ l4) → post l3 M) ∧ (¬ (v6 ≤ l4) → wGR M l0 1 6 (fun v9 => wLI M v9 0 l4 (fun v15 => ((v15 < 0) → w_L_comersBefore_j50 e0 post (w_L_comersBefore_j5 e0 post n) M l0 l1 l2 l3 l4) ∧ (¬ (v15 < 0) → ((v15 < l2) → w_L_comersBefore_j47 e0 post (w_L_comersBefore_j5 e0 post n) M l0 l1 l2 l3 l4) ∧ (¬ (v15 < l2) → ((v15 = l2) → ((l1 ≤ l4) → w_L_comersBefore_j50 e0 post (w_L_comersBefore_j5 e0 post n) M l0 l1 l2 l3 l4) ∧ (¬ (l1 ≤ l4) → w_L_comersBefore_j47 e0 post (w_L_comersBefore_j5 e0 post n) M l0 l1 l2 l3 l4)) ∧ (¬ (v15 = l2) → w_L_comersBefore_j50 e0 post (w_L_comersBefore_j5 e0 post n) M l0 l1 l2 l3 l4))))))))
set_option maxHeartbeats 4000000 in
set_option maxRecDepth 100000 in
theorem k_L_comersBefore_j5 {p : Program} {l : Launch} {e : Env} {s : State} {m : MethodId} {args : Array Value} {below : List Frame} {meth : Method} {c : Code} {D : va_G} {tc : Nat → ClassId} {A : Nat → Prop} {post : Int32 → zM → Prop} (C0 : zC R_L cL_comersBefore 6 (some .int) "comersBefore" D tc A p l s m args meth c) : ∀ n : Nat, J_L_comersBefore_5 p l e s m args below meth c D tc A (MQ below (va_Qi post (zB D tc A) A) args s 0 0 A) (w_L_comersBefore_j5 (tc 9) post n) := by
  obtain ⟨hx, hb, hml, hr, hown, htb, hlk, hA, hG, hin, hex⟩ := id C0
  have hK := hG.1
  intro n
  induction n with
  | zero => intro M l0 l1 l2 l3 l4 H locs ls hM hS hl hw; exact hw.elim
  | succ n ih =>
    intro M l0 l1 l2 l3 l4 H locs ls hM hS hl hw
    refine lv_iload hx hb dL_comersBefore_5 (lv_at hl 4 rfl) ?_
    refine lv_aload_n hx hb dL_comersBefore_7 rfl (lv_at hl 0 rfl) ?_
    obtain ⟨fs2, v1, h3, ev4, hw⟩ := hw
    refine z_get hx hb htb inw_L hown hK hM h3 rfl 6 (by decide) (htb _ t_435) (fun _ h9 => h9) ev4 dL_comersBefore_8 ?_
    obtain ⟨w5, v6, h7, ev8, hw⟩ := hw
    refine z_alen hx hb hK hM 0 0 h7 rfl ev8 dL_comersBefore_11 ?_
    refine lv_icmp_ge (tgt := 56) hx hb dL_comersBefore_12 (by decide) (fun hq => ?_) (fun hq => ?_)
    · have hw := hw.1 hq
      refine lv_iload_n hx hb dL_comersBefore_56 rfl (lv_at hl 3 rfl) ?_
      exact W.iret hx hb hr (fun t ht hW => ⟨⟨_, _, rfl, hw, zB_of ht hM⟩, hS.F ht⟩) hS.2.2 dL_comersBefore_57
    · have hw := hw.2 hq
      refine lv_aload_n hx hb dL_comersBefore_15 rfl (lv_at hl 0 rfl) ?_
      obtain ⟨fs10, v9, h11, ev12, hw⟩ := hw
      refine z_get hx hb htb inw_L hown hK hM h11 rfl 6 (by decide) (htb _ t_435) (fun _ h9 => h9) ev12 dL_comersBefore_16 ?_
      refine lv_iload hx hb dL_comersBefore_19 (lv_at hl 4 rfl) ?_
      obtain ⟨n13, f14, v15, h16, hi17, ev18, hw⟩ := hw
      refine z_iald hx hb hK hM 0 0 h16 rfl hi17 ev18 dL_comersBefore_21 ?_
      refine lv_istore (lv' := [(5, .int v15), (0, .ref l0), (1, .int l1), (2, .int l2), (3, .int l3), (4, .int l4)]) hx hb dL_comersBefore_22 hl (by decide) rfl (fun ls hl => ?_)
      refine lv_iload hx hb dL_comersBefore_24 (lv_at hl 0 rfl) ?_
      refine lv_if_lt (tgt := 50) hx hb dL_comersBefore_26 (by decide) (fun hq => ?_) (fun hq => ?_)
      · have hw := hw.1 hq
        exact k_L_comersBefore_j50 C0 ih _ _ _ _ _ _ _ _ _ hM hS (lv_sub hl [1, 2, 3, 4, 5] rfl) hw
      · have hw := hw.2 hq
        refine lv_iload hx hb dL_comersBefore_29 (lv_at hl 0 rfl) ?_
        refine lv_iload_n hx hb dL_comersBefore_31 rfl (lv_at hl 3 rfl) ?_
        refine lv_icmp_lt (tgt := 47) hx hb dL_comersBefore_32 (by decide) (fun hq => ?_) (fun hq => ?_)
        · have hw := hw.1 hq
          exact k_L_comersBefore_j47 C0 ih _ _ _ _ _ _ _ _ _ hM hS (lv_sub hl [1, 2, 3, 4, 5] rfl) hw
        · have hw := hw.2 hq
          refine lv_iload hx hb dL_comersBefore_35 (lv_at hl 0 rfl) ?_
          refine lv_iload_n hx hb dL_comersBefore_37 rfl (lv_at hl 3 rfl) ?_
          refine lv_icmp_ne (tgt := 50) hx hb dL_comersBefore_38 (by decide) (fun hq => ?_) (fun hq => ?_)
          · have hw := hw.2 hq
            exact k_L_comersBefore_j50 C0 ih _ _ _ _ _ _ _ _ _ hM hS (lv_sub hl [1, 2, 3, 4, 5] rfl) hw
          · have hw := hw.1 hq
            refine lv_iload hx hb dL_comersBefore_41 (lv_at hl 5 rfl) ?_
            refine lv_iload_n hx hb dL_comersBefore_43 rfl (lv_at hl 2 rfl) ?_
            refine lv_icmp_ge (tgt := 50) hx hb dL_comersBefore_44 (by decide) (fun hq => ?_) (fun hq => ?_)
            · have hw := hw.1 hq
              exact k_L_comersBefore_j50 C0 ih _ _ _ _ _ _ _ _ _ hM hS (lv_sub hl [1, 2, 3, 4, 5] rfl) hw
            · have hw := hw.2 hq
              exact k_L_comersBefore_j47 C0 ih _ _ _ _ _ _ _ _ _ hM hS (lv_sub hl [1, 2, 3, 4, 5] rfl) hw
def w_L_comersBefore (e0 : Nat) (post : Int32 → zM → Prop) (M : zM) (h0 : Nat) (x1 : Int32) (x2 : Int32) : Prop := ∃ nn, w_L_comersBefore_j5 e0 post nn M h0 x1 x2 0 0
set_option maxHeartbeats 4000000 in
set_option maxRecDepth 100000 in
theorem k_L_comersBefore {l : Launch} {D : va_G} {tc : Nat → ClassId} {A : Nat → Prop} {post : Int32 → zM → Prop} {M : zM} {h0 : Nat} {x1 : Int32} {x2 : Int32} (hw : w_L_comersBefore (tc 9) post M h0 x1 x2) : Met l yL_comersBefore (.code yL_comersBefore cL_comersBefore 6 (some .int) :: zTB) r_L_comersBefore (va_Pc [.ref h0, .int x1, .int x2] (zI D tc A M)) (va_Qi post (zB D tc A) A) 0 0 A := by
  refine Met.ofW (cc := cL_comersBefore) (maxL := 6) (ret := (some .int)) (by decide +kernel) rfl ?_
  intro p e s m args below meth c s₁ B hml hv
  obtain ⟨rfl, hA, hM, hG⟩ := hv
  have C0 := zC_of (D := D) (tc := tc) (A := A) B hml (zC_ex B) hA hG
  obtain ⟨hx, hb, hml, hr, hown, htb, hlk, hA, hG, hin, hex⟩ := id C0
  have hK := hG.1
  have hS : va_S A s.heap s.heap [] := va_S.rf
  have hl := lv_entry ([.ref h0, .int x1, .int x2]) (n := 6) (Nat.le_of_ble_eq_true rfl)
  rw [lg_entry_eq]
  generalize (lg_sl ([.ref h0, .int x1, .int x2]) ++ List.replicate (6 - (lg_sl ([.ref h0, .int x1, .int x2])).length) Slot.unset).toArray = ls at hl ⊢
  have hl : lv_has ls 6 [(0, .ref h0), (1, .int x1), (2, .int x2)] := hl
  refine lv_iconst (v := 0) hx hb dL_comersBefore_0 (by decide +kernel) ?_
  refine lv_istore_n (lv' := [(3, .int 0), (0, .ref h0), (1, .int x1), (2, .int x2)]) hx hb dL_comersBefore_1 rfl hl (by decide) rfl (fun ls hl => ?_)
  refine lv_iconst (v := 0) hx hb dL_comersBefore_2 (by decide +kernel) ?_
  refine lv_istore (lv' := [(4, .int 0), (3, .int 0), (0, .ref h0), (1, .int x1), (2, .int x2)]) hx hb dL_comersBefore_3 hl (by decide) rfl (fun ls hl => ?_)
  obtain ⟨nfu, hw⟩ := hw
  exact k_L_comersBefore_j5 C0  nfu _ _ _ _ _ _ _ _ _ hM hS (lv_sub hl [2, 3, 4, 1, 0] rfl) hw
abbrev r_L_comerAt : Room := { frames := 1, cells := 0, slots := 0, locals := 25 }
abbrev J_L_comerAt_40 (p : Program) (l : Launch) (e : Env) (s : State) (m : MethodId) (args : Array Value) (below : List Frame) (meth : Method) (c : Code) (D : va_G) (tc : Nat → ClassId) (A : Nat → Prop) (Q : State → Prop) (K : zM → Nat → Int32 → Int32 → Prop) : Prop := ∀ (M : zM) (l0 : Nat) (l1 : Int32) (l2 : Int32) (H : Heap) (locs : List Loc) (ls : Array Slot), zP D vwCl tc A M H → va_S A s.heap H locs → lv_has ls 4 [(0, .ref l0), (1, .int l1), (2, .int l2)] → K M l0 l1 l2 → W p l e (r_L_comerAt) s m args below meth c H locs 0 0 Q (F0 m 40 ls [])
abbrev J_L_comerAt_2 (p : Program) (l : Launch) (e : Env) (s : State) (m : MethodId) (args : Array Value) (below : List Frame) (meth : Method) (c : Code) (D : va_G) (tc : Nat → ClassId) (A : Nat → Prop) (Q : State → Prop) (K : zM → Nat → Int32 → Int32 → Prop) : Prop := ∀ (M : zM) (l0 : Nat) (l1 : Int32) (l2 : Int32) (H : Heap) (locs : List Loc) (ls : Array Slot), zP D vwCl tc A M H → va_S A s.heap H locs → lv_has ls 4 [(0, .ref l0), (1, .int l1), (2, .int l2)] → K M l0 l1 l2 → W p l e (r_L_comerAt) s m args below meth c H locs 0 0 Q (F0 m 2 ls [])
def w_L_comerAt_j40 (e0 : Nat) (post : Int32 → zM → Prop) (K2 : zM → Nat → Int32 → Int32 → Prop) (M : zM) (l0 : Nat) (l1 : Int32) (l2 : Int32) : Prop := K2 M l0 l1 (l2 + 1)
set_option maxHeartbeats 4000000 in
set_option maxRecDepth 100000 in
theorem k_L_comerAt_j40 {p : Program} {l : Launch} {e : Env} {s : State} {m : MethodId} {args : Array Value} {below : List Frame} {meth : Method} {c : Code} {D : va_G} {tc : Nat → ClassId} {A : Nat → Prop} {post : Int32 → zM → Prop} (C0 : zC R_L cL_comerAt 4 (some .int) "comerAt" D tc A p l s m args meth c) {K2 : zM → Nat → Int32 → Int32 → Prop} (hK2 : J_L_comerAt_2 p l e s m args below meth c D tc A (MQ below (va_Qi post (zB D tc A) A) args s 0 0 A) K2) : J_L_comerAt_40 p l e s m args below meth c D tc A (MQ below (va_Qi post (zB D tc A) A) args s 0 0 A) (w_L_comerAt_j40 (tc 9) post K2) := by
  obtain ⟨hx, hb, hml, hr, hown, htb, hlk, hA, hG, hin, hex⟩ := id C0
  have hK := hG.1
  intro M l0 l1 l2 H locs ls hM hS hl hw
  refine lv_iinc (v := (l2 + 1)) (lv' := [(2, .int (l2 + 1)), (0, .ref l0), (1, .int l1)]) hx hb dL_comerAt_40 hl (k := 2) rfl rfl (by decide) rfl (fun ls hl => ?_)
  refine lv_goto (tgt := 2) hx hb dL_comerAt_43 (by decide) ?_
  exact hK2 _ _ _ _ _ _ _ hM hS (lv_sub hl [1, 2, 0] rfl) hw
def w_L_comerAt_j2 (e0 : Nat) (post : Int32 → zM → Prop) : Nat → zM → Nat → Int32 → Int32 → Prop
  | 0 => fun _ _ _ _ => False
  | n + 1 => fun M l0 l1 l2 => wGR M l0 1 6 (fun v1 => wAL M v1 0 (fun v6 => ((v6 ≤ l2) → post (-1) M) ∧ (¬ (v6 ≤ l2) → wGR M l0 1 6 (fun v9 => wLI M v9 0 l2 (fun v15 => ((v15 < 0) → w_L_comerAt_j40 e0 post (w_L_comerAt_j2 e0 post n) M l0 l1 l2) ∧ (¬ (v15 < 0) → wIs M l0 1 ∧ w_L_comersBefore e0 (fun r20 M19 => ((r20 = l1) → post ((1000 * l2) + v15) M19) ∧ (¬ (r20 = l1) → w_L_comerAt_j40 e0 post (w_L_comerAt_j2 e0 post n) M19 l0 l1 l2)) M l0 l2 v15))))))
set_option maxHeartbeats 4000000 in
set_option maxRecDepth 100000 in
theorem k_L_comerAt_j2 {p : Program} {l : Launch} {e : Env} {s : State} {m : MethodId} {args : Array Value} {below : List Frame} {meth : Method} {c : Code} {D : va_G} {tc : Nat → ClassId} {A : Nat → Prop} {post : Int32 → zM → Prop} (C0 : zC R_L cL_comerAt 4 (some .int) "comerAt" D tc A p l s m args meth c) : ∀ n : Nat, J_L_comerAt_2 p l e s m args below meth c D tc A (MQ below (va_Qi post (zB D tc A) A) args s 0 0 A) (w_L_comerAt_j2 (tc 9) post n) := by
  obtain ⟨hx, hb, hml, hr, hown, htb, hlk, hA, hG, hin, hex⟩ := id C0
  have hK := hG.1
  intro n
  induction n with
  | zero => intro M l0 l1 l2 H locs ls hM hS hl hw; exact hw.elim
  | succ n ih =>
    intro M l0 l1 l2 H locs ls hM hS hl hw
    refine lv_iload_n hx hb dL_comerAt_2 rfl (lv_at hl 2 rfl) ?_
    refine lv_aload_n hx hb dL_comerAt_3 rfl (lv_at hl 0 rfl) ?_
    obtain ⟨fs2, v1, h3, ev4, hw⟩ := hw
    refine z_get hx hb htb inw_L hown hK hM h3 rfl 6 (by decide) (htb _ t_435) (fun _ h9 => h9) ev4 dL_comerAt_4 ?_
    obtain ⟨w5, v6, h7, ev8, hw⟩ := hw
    refine z_alen hx hb hK hM 0 0 h7 rfl ev8 dL_comerAt_7 ?_
    refine lv_icmp_ge (tgt := 46) hx hb dL_comerAt_8 (by decide) (fun hq => ?_) (fun hq => ?_)
    · have hw := hw.1 hq
      refine lv_iconst (v := (-1)) hx hb dL_comerAt_46 (by decide +kernel) ?_
      exact W.iret hx hb hr (fun t ht hW => ⟨⟨_, _, rfl, hw, zB_of ht hM⟩, hS.F ht⟩) hS.2.2 dL_comerAt_47
    · have hw := hw.2 hq
      refine lv_aload_n hx hb dL_comerAt_11 rfl (lv_at hl 0 rfl) ?_
      obtain ⟨fs10, v9, h11, ev12, hw⟩ := hw
      refine z_get hx hb htb inw_L hown hK hM h11 rfl 6 (by decide) (htb _ t_435) (fun _ h9 => h9) ev12 dL_comerAt_12 ?_
      refine lv_iload_n hx hb dL_comerAt_15 rfl (lv_at hl 2 rfl) ?_
      obtain ⟨n13, f14, v15, h16, hi17, ev18, hw⟩ := hw
      refine z_iald hx hb hK hM 0 0 h16 rfl hi17 ev18 dL_comerAt_16 ?_
      refine lv_istore_n (lv' := [(3, .int v15), (0, .ref l0), (1, .int l1), (2, .int l2)]) hx hb dL_comerAt_17 rfl hl (by decide) rfl (fun ls hl => ?_)
      refine lv_iload_n hx hb dL_comerAt_18 rfl (lv_at hl 0 rfl) ?_
      refine lv_if_lt (tgt := 40) hx hb dL_comerAt_19 (by decide) (fun hq => ?_) (fun hq => ?_)
      · have hw := hw.1 hq
        exact k_L_comerAt_j40 C0 ih _ _ _ _ _ _ _ hM hS (lv_sub hl [1, 2, 3] rfl) hw
      · have hw := hw.2 hq
        refine lv_aload_n hx hb dL_comerAt_22 rfl (lv_at hl 1 rfl) ?_
        refine lv_iload_n hx hb dL_comerAt_23 rfl (lv_at hl 3 rfl) ?_
        refine lv_iload_n hx hb dL_comerAt_24 rfl (lv_at hl 0 rfl) ?_
        obtain ⟨⟨fs21, h22⟩, hw⟩ := hw
        refine va_calli (va_runV (As := [.int l2, .int v15]) (rest := []) ⟨hx, hb, hml, hown, htb⟩ (k_L_comersBefore (l := l) (D := D) (tc := tc) (A := A) hw) (cw_L_56 htb ⟨Nat.le_of_ble_eq_true rfl, Nat.le_of_ble_eq_true rfl⟩) (z_preV hG hA hS hM h22 rfl) rfl rfl hl.1 rfl (lv_room (Nat.le_of_ble_eq_true rfl)) dL_comerAt_25 ⟨Nat.le_refl _, Nat.le_refl _⟩) hS (fun _ _ h => h) (fun _ h => h) (fun r20 M19 t H locs ht hvm hw hB _ _ hS => ?_)
        have hM : zP D vwCl tc A M19 H := by rw [← ht]; exact hB
        refine lv_iload_n hx hb dL_comerAt_28 rfl (lv_at hl 2 rfl) ?_
        refine lv_icmp_ne (tgt := 40) hx hb dL_comerAt_29 (by decide) (fun hq => ?_) (fun hq => ?_)
        · have hw := hw.2 hq
          exact k_L_comerAt_j40 C0 ih _ _ _ _ _ _ _ hM hS (lv_sub hl [1, 2, 3] rfl) hw
        · have hw := hw.1 hq
          refine lv_sipush (v := 1000) hx hb dL_comerAt_32 (by decide +kernel) ?_
          refine lv_iload_n hx hb dL_comerAt_35 rfl (lv_at hl 3 rfl) ?_
          refine lv_imul hx hb dL_comerAt_36 ?_
          refine lv_iload_n hx hb dL_comerAt_37 rfl (lv_at hl 0 rfl) ?_
          refine lv_iadd hx hb dL_comerAt_38 ?_
          exact W.iret hx hb hr (fun t ht hW => ⟨⟨_, _, rfl, hw, zB_of ht hM⟩, hS.F ht⟩) hS.2.2 dL_comerAt_39
def w_L_comerAt (e0 : Nat) (post : Int32 → zM → Prop) (M : zM) (h0 : Nat) (x1 : Int32) : Prop := ∃ nn, w_L_comerAt_j2 e0 post nn M h0 x1 0
set_option maxHeartbeats 4000000 in
set_option maxRecDepth 100000 in
theorem k_L_comerAt {l : Launch} {D : va_G} {tc : Nat → ClassId} {A : Nat → Prop} {post : Int32 → zM → Prop} {M : zM} {h0 : Nat} {x1 : Int32} (hw : w_L_comerAt (tc 9) post M h0 x1) : Met l yL_comerAt (.code yL_comerAt cL_comerAt 4 (some .int) :: zTB) r_L_comerAt (va_Pc [.ref h0, .int x1] (zI D tc A M)) (va_Qi post (zB D tc A) A) 0 0 A := by
  refine Met.ofW (cc := cL_comerAt) (maxL := 4) (ret := (some .int)) (by decide +kernel) rfl ?_
  intro p e s m args below meth c s₁ B hml hv
  obtain ⟨rfl, hA, hM, hG⟩ := hv
  have C0 := zC_of (D := D) (tc := tc) (A := A) B hml (zC_ex B) hA hG
  obtain ⟨hx, hb, hml, hr, hown, htb, hlk, hA, hG, hin, hex⟩ := id C0
  have hK := hG.1
  have hS : va_S A s.heap s.heap [] := va_S.rf
  have hl := lv_entry ([.ref h0, .int x1]) (n := 4) (Nat.le_of_ble_eq_true rfl)
  rw [lg_entry_eq]
  generalize (lg_sl ([.ref h0, .int x1]) ++ List.replicate (4 - (lg_sl ([.ref h0, .int x1])).length) Slot.unset).toArray = ls at hl ⊢
  have hl : lv_has ls 4 [(0, .ref h0), (1, .int x1)] := hl
  refine lv_iconst (v := 0) hx hb dL_comerAt_0 (by decide +kernel) ?_
  refine lv_istore_n (lv' := [(2, .int 0), (0, .ref h0), (1, .int x1)]) hx hb dL_comerAt_1 rfl hl (by decide) rfl (fun ls hl => ?_)
  obtain ⟨nfu, hw⟩ := hw
  exact k_L_comerAt_j2 C0  nfu _ _ _ _ _ _ _ hM hS (lv_sub hl [1, 2, 0] rfl) hw
abbrev r_P_neverAnswers : Room := { frames := 0, cells := 0, slots := 0, locals := 0 }
abbrev J_P_neverAnswers_19 (p : Program) (l : Launch) (e : Env) (s : State) (m : MethodId) (args : Array Value) (below : List Frame) (meth : Method) (c : Code) (D : va_G) (tc : Nat → ClassId) (A : Nat → Prop) (Q : State → Prop) (K : zM → Prop) : Prop := ∀ (M : zM) (H : Heap) (locs : List Loc) (ls : Array Slot), zP D vwCl tc A M H → va_S A s.heap H locs → lv_has ls 1 [] → K M → W p l e (r_P_neverAnswers) s m args below meth c H locs 0 0 Q (F0 m 19 ls [])
def w_P_neverAnswers_j19 (e0 : Nat) (post : Int32 → zM → Prop) (M : zM) : Prop := post 0 M
set_option maxHeartbeats 4000000 in
set_option maxRecDepth 100000 in
theorem k_P_neverAnswers_j19 {p : Program} {l : Launch} {e : Env} {s : State} {m : MethodId} {args : Array Value} {below : List Frame} {meth : Method} {c : Code} {D : va_G} {tc : Nat → ClassId} {A : Nat → Prop} {post : Int32 → zM → Prop} (C0 : zC R_P cP_neverAnswers 1 (some .boolean) "neverAnswers" D tc A p l s m args meth c) : J_P_neverAnswers_19 p l e s m args below meth c D tc A (MQ below (va_Qi post (zB D tc A) A) args s 0 0 A) (w_P_neverAnswers_j19 (tc 9) post) := by
  obtain ⟨hx, hb, hml, hr, hown, htb, hlk, hA, hG, hin, hex⟩ := id C0
  have hK := hG.1
  intro M H locs ls hM hS hl hw
  refine lv_iconst (v := 0) hx hb dP_neverAnswers_19 (by decide +kernel) ?_
  exact W.zret hx hb hr rfl (fun t ht hW => ⟨⟨_, _, rfl, hw, zB_of ht hM⟩, hS.F ht⟩) hS.2.2 dP_neverAnswers_20
def w_P_neverAnswers (e0 : Nat) (post : Int32 → zM → Prop) (M : zM) (h0 : Nat) : Prop := wGI M h0 3 5 (fun v1 => ((v1 < 3) → w_P_neverAnswers_j19 e0 post M) ∧ (¬ (v1 < 3) → wGI M h0 3 6 (fun v5 => ((v5 = 0) → post 1 M) ∧ (¬ (v5 = 0) → w_P_neverAnswers_j19 e0 post M))))
set_option maxHeartbeats 4000000 in
set_option maxRecDepth 100000 in
theorem k_P_neverAnswers {l : Launch} {D : va_G} {tc : Nat → ClassId} {A : Nat → Prop} {post : Int32 → zM → Prop} {M : zM} {h0 : Nat} (hw : w_P_neverAnswers (tc 9) post M h0) : Met l yP_neverAnswers (.code yP_neverAnswers cP_neverAnswers 1 (some .boolean) :: zTB) r_P_neverAnswers (va_Pc [.ref h0] (zI D tc A M)) (va_Qi post (zB D tc A) A) 0 0 A := by
  refine Met.ofW (cc := cP_neverAnswers) (maxL := 1) (ret := (some .boolean)) (by decide +kernel) rfl ?_
  intro p e s m args below meth c s₁ B hml hv
  obtain ⟨rfl, hA, hM, hG⟩ := hv
  have C0 := zC_of (D := D) (tc := tc) (A := A) B hml (zC_ex B) hA hG
  obtain ⟨hx, hb, hml, hr, hown, htb, hlk, hA, hG, hin, hex⟩ := id C0
  have hK := hG.1
  have hS : va_S A s.heap s.heap [] := va_S.rf
  have hl := lv_entry ([.ref h0]) (n := 1) (Nat.le_of_ble_eq_true rfl)
  rw [lg_entry_eq]
  generalize (lg_sl ([.ref h0]) ++ List.replicate (1 - (lg_sl ([.ref h0])).length) Slot.unset).toArray = ls at hl ⊢
  have hl : lv_has ls 1 [(0, .ref h0)] := hl
  refine lv_aload_n hx hb dP_neverAnswers_0 rfl (lv_at hl 0 rfl) ?_
  obtain ⟨fs2, v1, h3, ev4, hw⟩ := hw
  refine z_get hx hb htb inw_P hown hK hM h3 rfl 5 (by decide) (htb _ t_346) (fun _ h9 => h9) ev4 dP_neverAnswers_1 ?_
  refine lv_iconst (v := 3) hx hb dP_neverAnswers_4 (by decide +kernel) ?_
  refine lv_icmp_lt (tgt := 19) hx hb dP_neverAnswers_5 (by decide) (fun hq => ?_) (fun hq => ?_)
  · have hw := hw.1 hq
    exact k_P_neverAnswers_j19 C0  _  _ _ _ hM hS (lv_sub hl [] rfl) hw
  · have hw := hw.2 hq
    refine lv_aload_n hx hb dP_neverAnswers_8 rfl (lv_at hl 0 rfl) ?_
    obtain ⟨fs6, v5, h7, ev8, hw⟩ := hw
    refine z_get hx hb htb inw_P hown hK hM h7 rfl 6 (by decide) (htb _ t_347) (fun _ h9 => h9) ev8 dP_neverAnswers_9 ?_
    refine lv_if_ne (tgt := 19) hx hb dP_neverAnswers_12 (by decide) (fun hq => ?_) (fun hq => ?_)
    · have hw := hw.2 hq
      exact k_P_neverAnswers_j19 C0  _  _ _ _ hM hS (lv_sub hl [] rfl) hw
    · have hw := hw.1 hq
      refine lv_iconst (v := 1) hx hb dP_neverAnswers_15 (by decide +kernel) ?_
      refine lv_goto (tgt := 20) hx hb dP_neverAnswers_16 (by decide) ?_
      exact W.zret hx hb hr rfl (fun t ht hW => ⟨⟨_, _, rfl, hw, zB_of ht hM⟩, hS.F ht⟩) hS.2.2 dP_neverAnswers_20
