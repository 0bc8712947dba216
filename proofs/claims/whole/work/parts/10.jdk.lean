abbrev r_YC_init : Room := { frames := 1, cells := 0, slots := 0, locals := 40 }
def w_YC_init (e0 : Nat) (post : zM → Prop) (M : zM) (h0 : Nat) : Prop := post M
set_option maxHeartbeats 4000000 in
set_option maxRecDepth 100000 in
theorem k_YC_init {l : Launch} {D : va_G} {tc : Nat → ClassId} {A : Nat → Prop} {post : zM → Prop} {M : zM} {h0 : Nat} (hw : w_YC_init (tc 9) post M h0) : Met l yYC_init (.code yYC_init cYC_init 1 none :: zTB) r_YC_init (va_Pc [.ref h0] (zI D tc A M)) (va_Qv post (zB D tc A) A) 0 0 A := by
  refine Met.ofW (cc := cYC_init) (maxL := 1) (ret := none) (by decide +kernel) rfl ?_
  intro p e s m args below meth c s₁ B hml hv
  obtain ⟨rfl, hA, hM, hG⟩ := hv
  have C0 := zC_of (D := D) (tc := tc) (A := A) B hml (zC_ex B) hA hG
  obtain ⟨hx, hb, hml, hr, hown, htb, hlk, hA, hG, hin, hex⟩ := id C0
  have hK := hG.1
  have hS : va_S A s.heap s.heap [] := va_S.rf
  have hl := lv_entry ([.ref h0]) (n := 1) (Nat.le_of_ble_eq_true rfl)
  rw [lg_entry_eq]
  generalize (lg_sl ([.ref h0]) ++ List.replicate (1 - (lg_sl ([.ref h0])).length) Slot.unset).toArray = ls at hl ⊢
  have hl : lv_has ls 1 [(0, .ref h0)] := hl
  refine lv_aload_n hx hb dYC_init_0 rfl (lv_at hl 0 rfl) ?_
  refine W.objInit hx hb hown (htb _ t_42) (htb _ t_29) (htb _ t_30) rfl (by rw [hml]; exact hl.1) rfl dYC_init_1 (Nat.le_of_ble_eq_true rfl) (Nat.le_of_ble_eq_true rfl) ?_
  exact W.vret hx hb hr (fun t ht hW => ⟨⟨_, rfl, hw, zB_of ht hM⟩, hS.F ht⟩) hS.2.2 dYC_init_4
abbrev r_YL_init : Room := { frames := 2, cells := 0, slots := 0, locals := 60 }
def w_YL_init (e0 : Nat) (post : zM → Prop) (M : zM) (h0 : Nat) : Prop := w_YC_init e0 (fun M1 => wPF M1 h0 5 2 (.int 0) (fun M5 => post M5)) M h0
set_option maxHeartbeats 4000000 in
set_option maxRecDepth 100000 in
theorem k_YL_init {l : Launch} {D : va_G} {tc : Nat → ClassId} {A : Nat → Prop} {post : zM → Prop} {M : zM} {h0 : Nat} (hw : w_YL_init (tc 9) post M h0) : Met l yYL_init (.code yYL_init cYL_init 1 none :: zTB) r_YL_init (va_Pc [.ref h0] (zI D tc A M)) (va_Qv post (zB D tc A) A) 0 0 A := by
  refine Met.ofW (cc := cYL_init) (maxL := 1) (ret := none) (by decide +kernel) rfl ?_
  intro p e s m args below meth c s₁ B hml hv
  obtain ⟨rfl, hA, hM, hG⟩ := hv
  have C0 := zC_of (D := D) (tc := tc) (A := A) B hml (zC_ex B) hA hG
  obtain ⟨hx, hb, hml, hr, hown, htb, hlk, hA, hG, hin, hex⟩ := id C0
  have hK := hG.1
  have hS : va_S A s.heap s.heap [] := va_S.rf
  have hl := lv_entry ([.ref h0]) (n := 1) (Nat.le_of_ble_eq_true rfl)
  rw [lg_entry_eq]
  generalize (lg_sl ([.ref h0]) ++ List.replicate (1 - (lg_sl ([.ref h0])).length) Slot.unset).toArray = ls at hl ⊢
  have hl : lv_has ls 1 [(0, .ref h0)] := hl
  refine lv_aload_n hx hb dYL_init_0 rfl (lv_at hl 0 rfl) ?_
  refine va_callv (va_runI (As := []) (rest := []) ⟨hx, hb, hml, hown, htb⟩ (k_YC_init (l := l) (D := D) (tc := tc) (A := A) hw) (cw_YL_1 htb ⟨Nat.le_of_ble_eq_true rfl, Nat.le_of_ble_eq_true rfl⟩) (z_preS hG hA hS hM) rfl rfl hl.1 rfl (lv_room (Nat.le_of_ble_eq_true rfl)) dYL_init_1 ⟨Nat.le_refl _, Nat.le_refl _⟩) hS (fun _ _ h => h) (fun _ h => h) (fun M1 t H locs ht hvm hw hB _ _ hS => ?_)
  have hM : zP D vwCl tc A M1 H := by rw [← ht]; exact hB
  refine lv_aload_n hx hb dYL_init_4 rfl (lv_at hl 0 rfl) ?_
  refine lv_iconst (v := 0) hx hb dYL_init_5 (by decide +kernel) ?_
  obtain ⟨fs2, h3, hl4, hw⟩ := hw
  refine z_put (ty := .int) hx hb htb inw_Y ty_Y tyok_Y nmok_Y hown hK hM hS h3 rfl 2 (by decide) (htb _ t_47) (fun _ h9 => h9) rfl (by decide +kernel) rfl rfl hl4 dYL_init_6 (fun H locs hM hS => ?_)
  exact W.vret hx hb hr (fun t ht hW => ⟨⟨_, rfl, hw, zB_of ht hM⟩, hS.F ht⟩) hS.2.2 dYL_init_9
abbrev r_Y_init : Room := { frames := 3, cells := 0, slots := 0, locals := 80 }
def w_Y_init (e0 : Nat) (post : zM → Prop) (M : zM) (h0 : Nat) : Prop := w_YL_init e0 (fun M1 => wPF M1 h0 5 0 (.ref e0) (fun M5 => post M5)) M h0
set_option maxHeartbeats 4000000 in
set_option maxRecDepth 100000 in
theorem k_Y_init {l : Launch} {D : va_G} {tc : Nat → ClassId} {A : Nat → Prop} {post : zM → Prop} {M : zM} {h0 : Nat} (hw : w_Y_init (tc 9) post M h0) : Met l yY_init (.code yY_init cY_init 1 none :: zTB) r_Y_init (va_Pc [.ref h0] (zI D tc A M)) (va_Qv post (zB D tc A) A) 0 0 A := by
  refine Met.ofW (cc := cY_init) (maxL := 1) (ret := none) (by decide +kernel) rfl ?_
  intro p e s m args below meth c s₁ B hml hv
  obtain ⟨rfl, hA, hM, hG⟩ := hv
  have C0 := zC_of (D := D) (tc := tc) (A := A) B hml (zC_ex B) hA hG
  obtain ⟨hx, hb, hml, hr, hown, htb, hlk, hA, hG, hin, hex⟩ := id C0
  have hK := hG.1
  have hS : va_S A s.heap s.heap [] := va_S.rf
  have hl := lv_entry ([.ref h0]) (n := 1) (Nat.le_of_ble_eq_true rfl)
  rw [lg_entry_eq]
  generalize (lg_sl ([.ref h0]) ++ List.replicate (1 - (lg_sl ([.ref h0])).length) Slot.unset).toArray = ls at hl ⊢
  have hl : lv_has ls 1 [(0, .ref h0)] := hl
  refine lv_aload_n hx hb dY_init_0 rfl (lv_at hl 0 rfl) ?_
  refine va_callv (va_runI (As := []) (rest := []) ⟨hx, hb, hml, hown, htb⟩ (k_YL_init (l := l) (D := D) (tc := tc) (A := A) hw) (cw_Y_1 htb ⟨Nat.le_of_ble_eq_true rfl, Nat.le_of_ble_eq_true rfl⟩) (z_preS hG hA hS hM) rfl rfl hl.1 rfl (lv_room (Nat.le_of_ble_eq_true rfl)) dY_init_1 ⟨Nat.le_refl _, Nat.le_refl _⟩) hS (fun _ _ h => h) (fun _ h => h) (fun M1 t H locs ht hvm hw hB _ _ hS => ?_)
  have hM : zP D vwCl tc A M1 H := by rw [← ht]; exact hB
  refine lv_aload_n hx hb dY_init_4 rfl (lv_at hl 0 rfl) ?_
  refine va_gets hx hb hG.2.2.2.2.2.1 hS hown (htb _ t_43) (fun _ h9 => h9) dY_init_5 ?_
  obtain ⟨fs2, h3, hl4, hw⟩ := hw
  refine z_put (ty := (.array (.object "java/lang/Object"))) hx hb htb inw_Y ty_Y tyok_Y nmok_Y hown hK hM hS h3 rfl 0 (by decide) (htb _ t_45) (fun _ h9 => h9) rfl (by decide +kernel) rfl rfl hl4 dY_init_8 (fun H locs hM hS => ?_)
  exact W.vret hx hb hr (fun t ht hW => ⟨⟨_, rfl, hw, zB_of ht hM⟩, hS.F ht⟩) hS.2.2 dY_init_11
abbrev r_Y_size : Room := { frames := 0, cells := 0, slots := 0, locals := 0 }
def w_Y_size (e0 : Nat) (post : Int32 → zM → Prop) (M : zM) (h0 : Nat) : Prop := wGI M h0 5 1 (fun v1 => post v1 M)
set_option maxHeartbeats 4000000 in
set_option maxRecDepth 100000 in
theorem k_Y_size {l : Launch} {D : va_G} {tc : Nat → ClassId} {A : Nat → Prop} {post : Int32 → zM → Prop} {M : zM} {h0 : Nat} (hw : w_Y_size (tc 9) post M h0) : Met l yY_size (.code yY_size cY_size 1 (some .int) :: zTB) r_Y_size (va_Pc [.ref h0] (zI D tc A M)) (va_Qi post (zB D tc A) A) 0 0 A := by
  refine Met.ofW (cc := cY_size) (maxL := 1) (ret := (some .int)) (by decide +kernel) rfl ?_
  intro p e s m args below meth c s₁ B hml hv
  obtain ⟨rfl, hA, hM, hG⟩ := hv
  have C0 := zC_of (D := D) (tc := tc) (A := A) B hml (zC_ex B) hA hG
  obtain ⟨hx, hb, hml, hr, hown, htb, hlk, hA, hG, hin, hex⟩ := id C0
  have hK := hG.1
  have hS : va_S A s.heap s.heap [] := va_S.rf
  have hl := lv_entry ([.ref h0]) (n := 1) (Nat.le_of_ble_eq_true rfl)
  rw [lg_entry_eq]
  generalize (lg_sl ([.ref h0]) ++ List.replicate (1 - (lg_sl ([.ref h0])).length) Slot.unset).toArray = ls at hl ⊢
  have hl : lv_has ls 1 [(0, .ref h0)] := hl
  refine lv_aload_n hx hb dY_size_0 rfl (lv_at hl 0 rfl) ?_
  obtain ⟨fs2, v1, h3, ev4, hw⟩ := hw
  refine z_get hx hb htb inw_Y hown hK hM h3 rfl 1 (by decide) (htb _ t_46) (fun _ h9 => h9) ev4 dY_size_1 ?_
  exact W.iret hx hb hr (fun t ht hW => ⟨⟨_, _, rfl, hw, zB_of ht hM⟩, hS.F ht⟩) hS.2.2 dY_size_4
abbrev r_YM_max : Room := { frames := 0, cells := 0, slots := 0, locals := 0 }
def w_YM_max (e0 : Nat) (post : Int32 → zM → Prop) (M : zM) (x0 : Int32) (x1 : Int32) : Prop := ((x0 < x1) → post x1 M) ∧ (¬ (x0 < x1) → post x0 M)
set_option maxHeartbeats 4000000 in
set_option maxRecDepth 100000 in
theorem k_YM_max {l : Launch} {D : va_G} {tc : Nat → ClassId} {A : Nat → Prop} {post : Int32 → zM → Prop} {M : zM} {x0 : Int32} {x1 : Int32} (hw : w_YM_max (tc 9) post M x0 x1) : Met l yYM_max (.code yYM_max cYM_max 2 (some .int) :: zTB) r_YM_max (va_Pc [.int x0, .int x1] (zI D tc A M)) (va_Qi post (zB D tc A) A) 0 0 A := by
  refine va_MetF (cc := cYM_max) (maxL := 2) (ret := (some .int)) (by decide +kernel) rfl ?_
  intro p e s m args below meth c s₁ B hml hv
  obtain ⟨rfl, hA, hM, hG⟩ := hv
  have C0 := zC_of (D := D) (tc := tc) (A := A) B hml (zC_ex B) hA hG
  obtain ⟨hx, hb, hml, hr, hown, htb, hlk, hA, hG, hin, hex⟩ := id C0
  have hK := hG.1
  have hS : va_S A s.heap s.heap [] := va_S.rf
  have hl := lv_entry ([.int x0, .int x1]) (n := 2) (Nat.le_of_ble_eq_true rfl)
  rw [lg_entry_eq]
  generalize (lg_sl ([.int x0, .int x1]) ++ List.replicate (2 - (lg_sl ([.int x0, .int x1])).length) Slot.unset).toArray = ls at hl ⊢
  have hl : lv_has ls 2 [(0, .int x0), (1, .int x1)] := hl
  refine lv_iload_n hx hb dYM_max_0 rfl (lv_at hl 0 rfl) ?_
  refine lv_iload_n hx hb dYM_max_1 rfl (lv_at hl 1 rfl) ?_
  refine lv_icmp_lt (tgt := 9) hx hb dYM_max_2 (by decide) (fun hq => ?_) (fun hq => ?_)
  · have hw := hw.1 hq
    refine lv_iload_n hx hb dYM_max_9 rfl (lv_at hl 1 rfl) ?_
    exact W.iret hx hb hr (fun t ht hW => ⟨⟨_, _, rfl, hw, zB_of ht hM⟩, hS.F ht⟩) hS.2.2 dYM_max_10
  · have hw := hw.2 hq
    refine lv_iload_n hx hb dYM_max_5 rfl (lv_at hl 0 rfl) ?_
    refine lv_goto (tgt := 10) hx hb dYM_max_6 (by decide) ?_
    exact W.iret hx hb hr (fun t ht hW => ⟨⟨_, _, rfl, hw, zB_of ht hM⟩, hS.F ht⟩) hS.2.2 dYM_max_10
abbrev r_YS_newLength : Room := { frames := 1, cells := 0, slots := 0, locals := 21 }
abbrev J_YS_newLength_21 (p : Program) (l : Launch) (e : Env) (s : State) (m : MethodId) (args : Array Value) (below : List Frame) (meth : Method) (c : Code) (D : va_G) (tc : Nat → ClassId) (A : Nat → Prop) (Q : State → Prop) (K : zM → Prop) : Prop := ∀ (M : zM) (H : Heap) (locs : List Loc) (ls : Array Slot), zP D vwCl tc A M H → va_S A s.heap H locs → lv_has ls 4 [] → K M → W p l e (r_YS_newLength) s m args below meth c H locs 0 0 Q (F0 m 21 ls [])
def w_YS_newLength_j21 (e0 : Nat) (post : Int32 → zM → Prop) (M : zM) : Prop := False
set_option maxHeartbeats 4000000 in
set_option maxRecDepth 100000 in
theorem k_YS_newLength_j21 {p : Program} {l : Launch} {e : Env} {s : State} {m : MethodId} {args : Array Value} {below : List Frame} {meth : Method} {c : Code} {D : va_G} {tc : Nat → ClassId} {A : Nat → Prop} {post : Int32 → zM → Prop} (C0 : zC R_YS cYS_newLength 4 (some .int) "newLength" D tc A p l s m args meth c) : J_YS_newLength_21 p l e s m args below meth c D tc A (MQ below (va_Qi post (zB D tc A) A) args s 0 0 A) (w_YS_newLength_j21 (tc 9) post) := by
  obtain ⟨hx, hb, hml, hr, hown, htb, hlk, hA, hG, hin, hex⟩ := id C0
  have hK := hG.1
  intro M H locs ls hM hS hl hw
  exact hw.elim
def w_YS_newLength (e0 : Nat) (post : Int32 → zM → Prop) (M : zM) (x0 : Int32) (x1 : Int32) (x2 : Int32) : Prop := w_YM_max e0 (fun r2 M1 => (((x0 + r2) ≤ 0) → w_YS_newLength_j21 e0 post M1) ∧ (¬ ((x0 + r2) ≤ 0) → ((2147483639 < (x0 + r2)) → w_YS_newLength_j21 e0 post M1) ∧ (¬ (2147483639 < (x0 + r2)) → post (x0 + r2) M1))) M x1 x2
set_option maxHeartbeats 4000000 in
set_option maxRecDepth 100000 in
theorem k_YS_newLength {l : Launch} {D : va_G} {tc : Nat → ClassId} {A : Nat → Prop} {post : Int32 → zM → Prop} {M : zM} {x0 : Int32} {x1 : Int32} {x2 : Int32} (hw : w_YS_newLength (tc 9) post M x0 x1 x2) : Met l yYS_newLength (.code yYS_newLength cYS_newLength 4 (some .int) :: zTB) r_YS_newLength (va_Pc [.int x0, .int x1, .int x2] (zI D tc A M)) (va_Qi post (zB D tc A) A) 0 0 A := by
  refine Met.ofW (cc := cYS_newLength) (maxL := 4) (ret := (some .int)) (by decide +kernel) rfl ?_
  intro p e s m args below meth c s₁ B hml hv
  obtain ⟨rfl, hA, hM, hG⟩ := hv
  have C0 := zC_of (D := D) (tc := tc) (A := A) B hml (zC_ex B) hA hG
  obtain ⟨hx, hb, hml, hr, hown, htb, hlk, hA, hG, hin, hex⟩ := id C0
  have hK := hG.1
  have hS : va_S A s.heap s.heap [] := va_S.rf
  have hl := lv_entry ([.int x0, .int x1, .int x2]) (n := 4) (Nat.le_of_ble_eq_true rfl)
  rw [lg_entry_eq]
  generalize (lg_sl ([.int x0, .int x1, .int x2]) ++ List.replicate (4 - (lg_sl ([.int x0, .int x1, .int x2])).length) Slot.unset).toArray = ls at hl ⊢
  have hl : lv_has ls 4 [(0, .int x0), (1, .int x1), (2, .int x2)] := hl
  refine lv_iload_n hx hb dYS_newLength_0 rfl (lv_at hl 0 rfl) ?_
  refine lv_iload_n hx hb dYS_newLength_1 rfl (lv_at hl 1 rfl) ?_
  refine lv_iload_n hx hb dYS_newLength_2 rfl (lv_at hl 2 rfl) ?_
  refine va_calli (va_runS (As := [.int x1, .int x2]) (rest := [.int x0]) ⟨hx, hb, hml, hown, htb⟩ (k_YM_max (l := l) (D := D) (tc := tc) (A := A) hw) (cw_YS_194 htb ⟨Nat.le_of_ble_eq_true rfl, Nat.le_of_ble_eq_true rfl⟩) (z_preS hG hA hS hM) rfl rfl hl.1 rfl (lv_room (Nat.le_of_ble_eq_true rfl)) dYS_newLength_3 ⟨Nat.le_refl _, Nat.le_refl _⟩) hS (fun _ _ h => h) (fun _ h => h) (fun r2 M1 t H locs ht hvm hw hB _ _ hS => ?_)
  have hM : zP D vwCl tc A M1 H := by rw [← ht]; exact hB
  refine lv_iadd hx hb dYS_newLength_6 ?_
  refine lv_istore_n (lv' := [(3, .int (x0 + r2)), (0, .int x0), (1, .int x1), (2, .int x2)]) hx hb dYS_newLength_7 rfl hl (by decide) rfl (fun ls hl => ?_)
  refine lv_iconst (v := 0) hx hb dYS_newLength_8 (by decide +kernel) ?_
  refine lv_iload_n hx hb dYS_newLength_9 rfl (lv_at hl 0 rfl) ?_
  refine lv_icmp_ge (tgt := 21) hx hb dYS_newLength_10 (by decide) (fun hq => ?_) (fun hq => ?_)
  · have hw := hw.1 hq
    exact k_YS_newLength_j21 C0  _  _ _ _ hM hS (lv_sub hl [] rfl) hw
  · have hw := hw.2 hq
    refine lv_iload_n hx hb dYS_newLength_13 rfl (lv_at hl 0 rfl) ?_
    refine lv_ldc (v := 2147483639) hx hb hown (htb _ t_226) dYS_newLength_14 ?_
    refine lv_icmp_gt (tgt := 21) hx hb dYS_newLength_16 (by decide) (fun hq => ?_) (fun hq => ?_)
    · have hw := hw.1 hq
      exact k_YS_newLength_j21 C0  _  _ _ _ hM hS (lv_sub hl [] rfl) hw
    · have hw := hw.2 hq
      refine lv_iload_n hx hb dYS_newLength_19 rfl (lv_at hl 0 rfl) ?_
      exact W.iret hx hb hr (fun t ht hW => ⟨⟨_, _, rfl, hw, zB_of ht hM⟩, hS.F ht⟩) hS.2.2 dYS_newLength_20
abbrev r_YM_min : Room := { frames := 0, cells := 0, slots := 0, locals := 0 }
def w_YM_min (e0 : Nat) (post : Int32 → zM → Prop) (M : zM) (x0 : Int32) (x1 : Int32) : Prop := ((x1 < x0) → post x1 M) ∧ (¬ (x1 < x0) → post x0 M)
set_option maxHeartbeats 4000000 in
set_option maxRecDepth 100000 in
theorem k_YM_min {l : Launch} {D : va_G} {tc : Nat → ClassId} {A : Nat → Prop} {post : Int32 → zM → Prop} {M : zM} {x0 : Int32} {x1 : Int32} (hw : w_YM_min (tc 9) post M x0 x1) : Met l yYM_min (.code yYM_min cYM_min 2 (some .int) :: zTB) r_YM_min (va_Pc [.int x0, .int x1] (zI D tc A M)) (va_Qi post (zB D tc A) A) 0 0 A := by
  refine va_MetF (cc := cYM_min) (maxL := 2) (ret := (some .int)) (by decide +kernel) rfl ?_
  intro p e s m args below meth c s₁ B hml hv
  obtain ⟨rfl, hA, hM, hG⟩ := hv
  have C0 := zC_of (D := D) (tc := tc) (A := A) B hml (zC_ex B) hA hG
  obtain ⟨hx, hb, hml, hr, hown, htb, hlk, hA, hG, hin, hex⟩ := id C0
  have hK := hG.1
  have hS : va_S A s.heap s.heap [] := va_S.rf
  have hl := lv_entry ([.int x0, .int x1]) (n := 2) (Nat.le_of_ble_eq_true rfl)
  rw [lg_entry_eq]
  generalize (lg_sl ([.int x0, .int x1]) ++ List.replicate (2 - (lg_sl ([.int x0, .int x1])).length) Slot.unset).toArray = ls at hl ⊢
  have hl : lv_has ls 2 [(0, .int x0), (1, .int x1)] := hl
  refine lv_iload_n hx hb dYM_min_0 rfl (lv_at hl 0 rfl) ?_
  refine lv_iload_n hx hb dYM_min_1 rfl (lv_at hl 1 rfl) ?_
  refine lv_icmp_gt (tgt := 9) hx hb dYM_min_2 (by decide) (fun hq => ?_) (fun hq => ?_)
  · have hw := hw.1 hq
    refine lv_iload_n hx hb dYM_min_9 rfl (lv_at hl 1 rfl) ?_
    exact W.iret hx hb hr (fun t ht hW => ⟨⟨_, _, rfl, hw, zB_of ht hM⟩, hS.F ht⟩) hS.2.2 dYM_min_10
  · have hw := hw.2 hq
    refine lv_iload_n hx hb dYM_min_5 rfl (lv_at hl 0 rfl) ?_
    refine lv_goto (tgt := 10) hx hb dYM_min_6 (by decide) ?_
    exact W.iret hx hb hr (fun t ht hW => ⟨⟨_, _, rfl, hw, zB_of ht hM⟩, hS.F ht⟩) hS.2.2 dYM_min_10
abbrev r_YA_copyOf3 (mc ms : Nat) : Room := { frames := 1, cells := mc, slots := ms, locals := 60 }
def w_YA_copyOf3 (e0 : Nat) (post : Option Nat → zM → Prop) (mc : Nat) (ms : Nat) (M : zM) (h0 : Nat) (x1 : Int32) : Prop := wNQ M x1 mc ms (fun q1 M7 => wAE M7 e0 h0 (fun v8 => w_YM_min e0 (fun r11 M10 => wCP M10 h0 0 q1 0 r11 (fun M12 => post (some q1) M12)) M7 v8 x1))
set_option maxHeartbeats 4000000 in
set_option maxRecDepth 100000 in
theorem k_YA_copyOf3 {l : Launch} {D : va_G} {tc : Nat → ClassId} {A : Nat → Prop} {mc ms : Nat} {post : Option Nat → zM → Prop} {M : zM} {h0 : Nat} {x1 : Int32} (hw : w_YA_copyOf3 (tc 9) post mc ms M h0 x1) : Met l yYA_copyOf3 (.code yYA_copyOf3 cYA_copyOf3 4 (some (.array (.object "java/lang/Object"))) :: zTB) (r_YA_copyOf3 mc ms) (va_Pc [.ref h0, .int x1, .ref (tc 8)] (zI D tc A M)) (va_Qq post (zB D tc A) A) mc ms A := by
  refine Met.ofW (cc := cYA_copyOf3) (maxL := 4) (ret := (some (.array (.object "java/lang/Object")))) (by decide +kernel) rfl ?_
  intro p e s m args below meth c s₁ B hml hv
  obtain ⟨rfl, hA, hM, hG⟩ := hv
  have C0 := zC_of (D := D) (tc := tc) (A := A) B hml (zC_ex B) hA hG
  obtain ⟨hx, hb, hml, hr, hown, htb, hlk, hA, hG, hin, hex⟩ := id C0
  have hK := hG.1
  have hS : va_S A s.heap s.heap [] := va_S.rf
  have hl := lv_entry ([.ref h0, .int x1, .ref (tc 8)]) (n := 4) (Nat.le_of_ble_eq_true rfl)
  rw [lg_entry_eq]
  generalize (lg_sl ([.ref h0, .int x1, .ref (tc 8)]) ++ List.replicate (4 - (lg_sl ([.ref h0, .int x1, .ref (tc 8)])).length) Slot.unset).toArray = ls at hl ⊢
  have hl : lv_has ls 4 [(0, .ref h0), (1, .int x1), (2, .ref (tc 8))] := hl
  refine lv_aload_n hx hb dYA_copyOf3_0 rfl (lv_at hl 2 rfl) ?_
  refine va_ldcM hx hb hown (htb _ t_251) hG.2.2.2.2.2.2.2.1 dYA_copyOf3_1 ?_
  refine lv_acmp_ne (rx := some (tc 8)) (ry := some (tc 8)) (tgt := 13) hx hb dYA_copyOf3_3 (by decide) (fun hq => absurd rfl hq) (fun _ => ?_)
  refine lv_iload_n hx hb dYA_copyOf3_6 rfl (lv_at hl 1 rfl) ?_
  obtain ⟨h2, h3, h4, h5, hw⟩ := hw
  refine z_newq hx hb hown (htb _ t_253) hG hK hM hS hA h2 h3 (show 0 + 1 ≤ mc by omega) (show 0 + x1.toNatClampNeg ≤ ms by omega) dYA_copyOf3_7 (fun q1 H hn6 hM hS => ?_)
  have hw := hw q1 hn6
  refine lv_goto (tgt := 24) hx hb dYA_copyOf3_10 (by decide) ?_
  refine lv_astore_n (lv' := [(3, .ref q1), (0, .ref h0), (1, .int x1), (2, .ref (tc 8))]) hx hb dYA_copyOf3_24 rfl hl (by decide) rfl (fun ls hl => ?_)
  refine lv_aload_n hx hb dYA_copyOf3_25 rfl (lv_at hl 1 rfl) ?_
  refine lv_iconst (v := 0) hx hb dYA_copyOf3_26 (by decide +kernel) ?_
  refine lv_aload_n hx hb dYA_copyOf3_27 rfl (lv_at hl 0 rfl) ?_
  refine lv_iconst (v := 0) hx hb dYA_copyOf3_28 (by decide +kernel) ?_
  refine lv_aload_n hx hb dYA_copyOf3_29 rfl (lv_at hl 1 rfl) ?_
  obtain ⟨v8, h9, hw⟩ := hw
  refine z_alenE hx hb hK hM hG hS h9 dYA_copyOf3_30 ?_
  refine lv_iload_n hx hb dYA_copyOf3_31 rfl (lv_at hl 2 rfl) ?_
  refine va_calli (va_runS (As := [.int v8, .int x1]) (rest := [.int 0, .ref q1, .int 0, .ref h0]) ⟨hx, hb, hml, hown, htb⟩ (k_YM_min (l := l) (D := D) (tc := tc) (A := A) hw) (cw_YA_304 htb ⟨Nat.le_of_ble_eq_true rfl, Nat.le_of_ble_eq_true rfl⟩) (z_preS hG hA hS hM) rfl rfl hl.1 rfl (lv_room (Nat.le_of_ble_eq_true rfl)) dYA_copyOf3_32 ⟨show (0 + 1) + 0 ≤ mc by omega, show (0 + x1.toNatClampNeg) + 0 ≤ ms by omega⟩) hS (fun _ _ h => h) (fun _ h => h) (fun r11 M10 t H locs ht hvm hw hB _ _ hS => ?_)
  have hM : zP D vwCl tc A M10 H := by rw [← ht]; exact hB
  obtain ⟨n01, n02, f01, f02, h01, h02, h03, h04, h05, h06, h07, h08, hw⟩ := hw
  refine z_copy hx hb (hml.trans hl.1.symm) hown (htb _ t_257) (htb _ t_259) (htb _ t_258) (htb _ t_15) hK hG hM hS h01 h02 h03 h04 h05 h06 h07 h08 (Nat.le_of_ble_eq_true rfl) (Nat.le_of_ble_eq_true rfl) dYA_copyOf3_35 (fun H locs hM hS => ?_)
  refine lv_aload_n hx hb dYA_copyOf3_38 rfl (lv_at hl 0 rfl) ?_
  refine W.widen (k := mc) (n := ms) (by omega) (by omega) ?_
  exact W.aret (v := va_rf (some q1)) hx hb hr (by first | exact Or.inl ⟨_, rfl⟩ | exact Or.inr ⟨_, rfl⟩) (va_rf_or _) (fun t ht hW => ⟨⟨_, _, rfl, hw, zB_of ht hM⟩, hS.F ht⟩) hS.2.2 dYA_copyOf3_39
abbrev r_YA_copyOf2 (mc ms : Nat) : Room := { frames := 2, cells := mc, slots := ms, locals := 83 }
def w_YA_copyOf2 (e0 : Nat) (post : Option Nat → zM → Prop) (mc : Nat) (ms : Nat) (M : zM) (h0 : Nat) (x1 : Int32) : Prop := wIA M h0 ∧ ∃ mc4 ms5 : Nat, mc4 ≤ mc ∧ ms5 ≤ ms ∧ w_YA_copyOf3 e0 (fun r6 M3 => wSm r6 (fun a7 => post (some a7) M3)) mc4 ms5 M h0 x1
set_option maxHeartbeats 4000000 in
set_option maxRecDepth 100000 in
theorem k_YA_copyOf2 {l : Launch} {D : va_G} {tc : Nat → ClassId} {A : Nat → Prop} {mc ms : Nat} {post : Option Nat → zM → Prop} {M : zM} {h0 : Nat} {x1 : Int32} (hw : w_YA_copyOf2 (tc 9) post mc ms M h0 x1) : Met l yYA_copyOf2 (.code yYA_copyOf2 cYA_copyOf2 2 (some (.array (.object "java/lang/Object"))) :: zTB) (r_YA_copyOf2 mc ms) (va_Pc [.ref h0, .int x1] (zI D tc A M)) (va_Qq post (zB D tc A) A) mc ms A := by
  refine Met.ofW (cc := cYA_copyOf2) (maxL := 2) (ret := (some (.array (.object "java/lang/Object")))) (by decide +kernel) rfl ?_
  intro p e s m args below meth c s₁ B hml hv
  obtain ⟨rfl, hA, hM, hG⟩ := hv
  have C0 := zC_of (D := D) (tc := tc) (A := A) B hml (zC_ex B) hA hG
  obtain ⟨hx, hb, hml, hr, hown, htb, hlk, hA, hG, hin, hex⟩ := id C0
  have hK := hG.1
  have hS : va_S A s.heap s.heap [] := va_S.rf
  have hl := lv_entry ([.ref h0, .int x1]) (n := 2) (Nat.le_of_ble_eq_true rfl)
  rw [lg_entry_eq]
  generalize (lg_sl ([.ref h0, .int x1]) ++ List.replicate (2 - (lg_sl ([.ref h0, .int x1])).length) Slot.unset).toArray = ls at hl ⊢
  have hl : lv_has ls 2 [(0, .ref h0), (1, .int x1)] := hl
  refine lv_aload_n hx hb dYA_copyOf2_0 rfl (lv_at hl 0 rfl) ?_
  refine lv_iload_n hx hb dYA_copyOf2_1 rfl (lv_at hl 1 rfl) ?_
  refine lv_aload_n hx hb dYA_copyOf2_2 rfl (lv_at hl 0 rfl) ?_
  obtain ⟨⟨w1, h2⟩, hw⟩ := hw
  refine z_getC hx hb (hml.trans hl.1.symm) hown htb (htb _ t_233) hK hG hM h2 (Nat.le_of_ble_eq_true rfl) (Nat.le_of_ble_eq_true rfl) dYA_copyOf2_3 ?_
  obtain ⟨mc4, ms5, hbmc4, hbms5, hw⟩ := hw
  refine va_callq (va_runS (As := [.ref h0, .int x1, .ref (tc 8)]) (rest := []) ⟨hx, hb, hml, hown, htb⟩ (k_YA_copyOf3 (l := l) (D := D) (tc := tc) (A := A) hw) (cw_YA_300 htb ⟨Nat.le_of_ble_eq_true rfl, Nat.le_of_ble_eq_true rfl⟩) (z_preS hG hA hS hM) rfl rfl hl.1 rfl (lv_room (Nat.le_of_ble_eq_true rfl)) dYA_copyOf2_6 ⟨show 0 + mc4 ≤ mc by omega, show 0 + ms5 ≤ ms by omega⟩) hS (fun _ _ h => h) (fun _ h => h) (fun r6 M3 t H locs ht hvm hw hB _ _ hS => ?_)
  have hM : zP D vwCl tc A M3 H := by rw [← ht]; exact hB
  obtain ⟨a7, rfl, hw⟩ := hw
  refine W.widen (k := mc) (n := ms) (by omega) (by omega) ?_
  exact W.aret (v := va_rf (some a7)) hx hb hr (by first | exact Or.inl ⟨_, rfl⟩ | exact Or.inr ⟨_, rfl⟩) (va_rf_or _) (fun t ht hW => ⟨⟨_, _, rfl, hw, zB_of ht hM⟩, hS.F ht⟩) hS.2.2 dYA_copyOf2_9
abbrev r_Y_grow1 (mc ms : Nat) : Room := { frames := 3, cells := mc, slots := ms, locals := 104 }
abbrev J_Y_grow1_20 (p : Program) (l : Launch) (e : Env) (s : State) (m : MethodId) (args : Array Value) (below : List Frame) (meth : Method) (c : Code) (D : va_G) (tc : Nat → ClassId) (A : Nat → Prop) (mcT msT : Nat) (Q : State → Prop) (K : Nat → Nat → zM → Nat → Int32 → Int32 → Prop) : Prop := ∀ (mc : Nat) (ms : Nat) (M : zM) (l0 : Nat) (l1 : Int32) (l2 : Int32) (H : Heap) (locs : List Loc) (cells slots : Nat) (ls : Array Slot), cells + mc ≤ mcT → slots + ms ≤ msT → zP D vwCl tc A M H → va_S A s.heap H locs → lv_has ls 4 [(0, .ref l0), (1, .int l1), (2, .int l2)] → K mc ms M l0 l1 l2 → W p l e (r_Y_grow1 mcT msT) s m args below meth c H locs cells slots Q (F0 m 20 ls [])
def w_Y_grow1_j20 (e0 : Nat) (post : Option Nat → zM → Prop) (mc : Nat) (ms : Nat) (M : zM) (l0 : Nat) (l1 : Int32) (l2 : Int32) : Prop := w_YS_newLength e0 (fun r2 M1 => wGR M1 l0 5 0 (fun v3 => ∃ mc8 ms9 : Nat, mc8 ≤ mc ∧ ms9 ≤ ms ∧ w_YA_copyOf2 e0 (fun r10 M7 => wSm r10 (fun a11 => wPF M7 l0 5 0 (.ref a11) (fun M15 => post (some a11) M15))) mc8 ms9 M1 v3 r2)) M l2 (l1 - l2) (l2 >>> (1 &&& 31))
set_option maxHeartbeats 4000000 in
set_option maxRecDepth 100000 in
theorem k_Y_grow1_j20 {p : Program} {l : Launch} {e : Env} {s : State} {m : MethodId} {args : Array Value} {below : List Frame} {meth : Method} {c : Code} {D : va_G} {tc : Nat → ClassId} {A : Nat → Prop} {mcT msT : Nat} {post : Option Nat → zM → Prop} (C0 : zC R_Y cY_grow1 4 (some (.array (.object "java/lang/Object"))) "grow" D tc A p l s m args meth c) : J_Y_grow1_20 p l e s m args below meth c D tc A mcT msT (MQ below (va_Qq post (zB D tc A) A) args s mcT msT A) (w_Y_grow1_j20 (tc 9) post) := by
  obtain ⟨hx, hb, hml, hr, hown, htb, hlk, hA, hG, hin, hex⟩ := id C0
  have hK := hG.1
  intro mc ms M l0 l1 l2 H locs cells slots ls hbc hbs hM hS hl hw
  refine lv_iload_n hx hb dY_grow1_20 rfl (lv_at hl 2 rfl) ?_
  refine lv_iload_n hx hb dY_grow1_21 rfl (lv_at hl 1 rfl) ?_
  refine lv_iload_n hx hb dY_grow1_22 rfl (lv_at hl 2 rfl) ?_
  refine lv_isub hx hb dY_grow1_23 ?_
  refine lv_iload_n hx hb dY_grow1_24 rfl (lv_at hl 2 rfl) ?_
  refine lv_iconst (v := 1) hx hb dY_grow1_25 (by decide +kernel) ?_
  refine lv_ishr hx hb dY_grow1_26 ?_
  refine va_calli (va_runS (As := [.int l2, .int (l1 - l2), .int (l2 >>> (1 &&& 31))]) (rest := []) ⟨hx, hb, hml, hown, htb⟩ (k_YS_newLength (l := l) (D := D) (tc := tc) (A := A) hw) (cw_Y_73 htb ⟨Nat.le_of_ble_eq_true rfl, Nat.le_of_ble_eq_true rfl⟩) (z_preS hG hA hS hM) rfl rfl hl.1 rfl (lv_room (Nat.le_of_ble_eq_true rfl)) dY_grow1_27 ⟨show cells + 0 ≤ mcT by omega, show slots + 0 ≤ msT by omega⟩) hS (fun _ _ h => h) (fun _ h => h) (fun r2 M1 t H locs ht hvm hw hB _ _ hS => ?_)
  have hM : zP D vwCl tc A M1 H := by rw [← ht]; exact hB
  refine lv_istore_n (lv' := [(3, .int r2), (0, .ref l0), (1, .int l1), (2, .int l2)]) hx hb dY_grow1_30 rfl hl (by decide) rfl (fun ls hl => ?_)
  refine lv_aload_n hx hb dY_grow1_31 rfl (lv_at hl 1 rfl) ?_
  refine lv_aload_n hx hb dY_grow1_32 rfl (lv_at hl 1 rfl) ?_
  obtain ⟨fs4, v3, h5, ev6, hw⟩ := hw
  refine z_get hx hb htb inw_Y hown hK hM h5 rfl 0 (by decide) (htb _ t_45) (fun _ h9 => h9) ev6 dY_grow1_33 ?_
  refine lv_iload_n hx hb dY_grow1_36 rfl (lv_at hl 0 rfl) ?_
  obtain ⟨mc8, ms9, hbmc8, hbms9, hw⟩ := hw
  refine va_callq (va_runS (As := [.ref v3, .int r2]) (rest := [.ref l0]) ⟨hx, hb, hml, hown, htb⟩ (k_YA_copyOf2 (l := l) (D := D) (tc := tc) (A := A) hw) (cw_Y_66 htb ⟨Nat.le_of_ble_eq_true rfl, Nat.le_of_ble_eq_true rfl⟩) (z_preS hG hA hS hM) rfl rfl hl.1 rfl (lv_room (Nat.le_of_ble_eq_true rfl)) dY_grow1_37 ⟨show cells + mc8 ≤ mcT by omega, show slots + ms9 ≤ msT by omega⟩) hS (fun _ _ h => h) (fun _ h => h) (fun r10 M7 t H locs ht hvm hw hB _ _ hS => ?_)
  have hM : zP D vwCl tc A M7 H := by rw [← ht]; exact hB
  obtain ⟨a11, rfl, hw⟩ := hw
  refine lv_dup_x1 hx hb dY_grow1_40 rfl rfl ?_
  obtain ⟨fs12, h13, hl14, hw⟩ := hw
  refine z_put (ty := (.array (.object "java/lang/Object"))) hx hb htb inw_Y ty_Y tyok_Y nmok_Y hown hK hM hS h13 rfl 0 (by decide) (htb _ t_45) (fun _ h9 => h9) rfl (by decide +kernel) rfl rfl hl14 dY_grow1_41 (fun H locs hM hS => ?_)
  refine W.widen (k := mcT) (n := msT) (by omega) (by omega) ?_
  exact W.aret (v := va_rf (some a11)) hx hb hr (by first | exact Or.inl ⟨_, rfl⟩ | exact Or.inr ⟨_, rfl⟩) (va_rf_or _) (fun t ht hW => ⟨⟨_, _, rfl, hw, zB_of ht hM⟩, hS.F ht⟩) hS.2.2 dY_grow1_44
def w_Y_grow1 (e0 : Nat) (post : Option Nat → zM → Prop) (mc : Nat) (ms : Nat) (M : zM) (h0 : Nat) (x1 : Int32) : Prop := wGR M h0 5 0 (fun v1 => wAE M e0 v1 (fun v5 => ((0 < v5) → w_Y_grow1_j20 e0 post mc ms M h0 x1 v5) ∧ (¬ (0 < v5) → wGR M h0 5 0 (fun v7 => ((some v7 = some e0) → w_YM_max e0 (fun r12 M11 => wNQ M11 r12 mc ms (fun q13 M19 => wPF M19 h0 5 0 (.ref q13) (fun M23 => post (some q13) M23))) M 10 x1) ∧ (¬ (some v7 = some e0) → w_Y_grow1_j20 e0 post mc ms M h0 x1 v5)))))
set_option maxHeartbeats 4000000 in
set_option maxRecDepth 100000 in
theorem k_Y_grow1 {l : Launch} {D : va_G} {tc : Nat → ClassId} {A : Nat → Prop} {mc ms : Nat} {post : Option Nat → zM → Prop} {M : zM} {h0 : Nat} {x1 : Int32} (hw : w_Y_grow1 (tc 9) post mc ms M h0 x1) : Met l yY_grow1 (.code yY_grow1 cY_grow1 4 (some (.array (.object "java/lang/Object"))) :: zTB) (r_Y_grow1 mc ms) (va_Pc [.ref h0, .int x1] (zI D tc A M)) (va_Qq post (zB D tc A) A) mc ms A := by
  refine Met.ofW (cc := cY_grow1) (maxL := 4) (ret := (some (.array (.object "java/lang/Object")))) (by decide +kernel) rfl ?_
  intro p e s m args below meth c s₁ B hml hv
  obtain ⟨rfl, hA, hM, hG⟩ := hv
  have C0 := zC_of (D := D) (tc := tc) (A := A) B hml (zC_ex B) hA hG
  obtain ⟨hx, hb, hml, hr, hown, htb, hlk, hA, hG, hin, hex⟩ := id C0
  have hK := hG.1
  have hS : va_S A s.heap s.heap [] := va_S.rf
  have hl := lv_entry ([.ref h0, .int x1]) (n := 4) (Nat.le_of_ble_eq_true rfl)
  rw [lg_entry_eq]
  generalize (lg_sl ([.ref h0, .int x1]) ++ List.replicate (4 - (lg_sl ([.ref h0, .int x1])).length) Slot.unset).toArray = ls at hl ⊢
  have hl : lv_has ls 4 [(0, .ref h0), (1, .int x1)] := hl
  refine lv_aload_n hx hb dY_grow1_0 rfl (lv_at hl 0 rfl) ?_
  obtain ⟨fs2, v1, h3, ev4, hw⟩ := hw
  refine z_get hx hb htb inw_Y hown hK hM h3 rfl 0 (by decide) (htb _ t_45) (fun _ h9 => h9) ev4 dY_grow1_1 ?_
  obtain ⟨v5, h6, hw⟩ := hw
  refine z_alenE hx hb hK hM hG hS h6 dY_grow1_4 ?_
  refine lv_istore_n (lv' := [(2, .int v5), (0, .ref h0), (1, .int x1)]) hx hb dY_grow1_5 rfl hl (by decide) rfl (fun ls hl => ?_)
  refine lv_iload_n hx hb dY_grow1_6 rfl (lv_at hl 0 rfl) ?_
  refine lv_if_gt (tgt := 20) hx hb dY_grow1_7 (by decide) (fun hq => ?_) (fun hq => ?_)
  · have hw := hw.1 hq
    exact k_Y_grow1_j20 C0  _ _ _ _ _ _ _ _ _ _ _ (show 0 + mc ≤ mc by omega) (show 0 + ms ≤ ms by omega) hM hS (lv_sub hl [1, 2, 0] rfl) hw
  · have hw := hw.2 hq
    refine lv_aload_n hx hb dY_grow1_10 rfl (lv_at hl 1 rfl) ?_
    obtain ⟨fs8, v7, h9, ev10, hw⟩ := hw
    refine z_get hx hb htb inw_Y hown hK hM h9 rfl 0 (by decide) (htb _ t_45) (fun _ h9 => h9) ev10 dY_grow1_11 ?_
    refine va_gets hx hb hG.2.2.2.2.2.1 hS hown (htb _ t_43) (fun _ h9 => h9) dY_grow1_14 ?_
    refine lv_acmp_eq (rx := some v7) (ry := some (tc 9)) (tgt := 45) hx hb dY_grow1_17 (by decide) (fun hq => ?_) (fun hq => ?_)
    · have hw := hw.1 hq
      refine lv_aload_n hx hb dY_grow1_45 rfl (lv_at hl 1 rfl) ?_
      refine lv_bipush (v := 10) hx hb dY_grow1_46 (by decide +kernel) ?_
      refine lv_iload_n hx hb dY_grow1_48 rfl (lv_at hl 2 rfl) ?_
      refine va_calli (va_runS (As := [.int 10, .int x1]) (rest := [.ref h0]) ⟨hx, hb, hml, hown, htb⟩ (k_YM_max (l := l) (D := D) (tc := tc) (A := A) hw) (cw_Y_79 htb ⟨Nat.le_of_ble_eq_true rfl, Nat.le_of_ble_eq_true rfl⟩) (z_preS hG hA hS hM) rfl rfl hl.1 rfl (lv_room (Nat.le_of_ble_eq_true rfl)) dY_grow1_49 ⟨show 0 + 0 ≤ mc by omega, show 0 + 0 ≤ ms by omega⟩) hS (fun _ _ h => h) (fun _ h => h) (fun r12 M11 t H locs ht hvm hw hB _ _ hS => ?_)
      have hM : zP D vwCl tc A M11 H := by rw [← ht]; exact hB
      obtain ⟨h14, h15, h16, h17, hw⟩ := hw
      refine z_newq hx hb hown (htb _ t_261) hG hK hM hS hA h14 h15 (show 0 + 1 ≤ mc by omega) (show 0 + r12.toNatClampNeg ≤ ms by omega) dY_grow1_52 (fun q13 H hn18 hM hS => ?_)
      have hw := hw q13 hn18
      refine lv_dup_x1 hx hb dY_grow1_55 rfl rfl ?_
      obtain ⟨fs20, h21, hl22, hw⟩ := hw
      refine z_put (ty := (.array (.object "java/lang/Object"))) hx hb htb inw_Y ty_Y tyok_Y nmok_Y hown hK hM hS h21 rfl 0 (by decide) (htb _ t_45) (fun _ h9 => h9) rfl (by decide +kernel) rfl rfl hl22 dY_grow1_56 (fun H locs hM hS => ?_)
      refine W.widen (k := mc) (n := ms) (by omega) (by omega) ?_
      exact W.aret (v := va_rf (some q13)) hx hb hr (by first | exact Or.inl ⟨_, rfl⟩ | exact Or.inr ⟨_, rfl⟩) (va_rf_or _) (fun t ht hW => ⟨⟨_, _, rfl, hw, zB_of ht hM⟩, hS.F ht⟩) hS.2.2 dY_grow1_59
    · have hw := hw.2 hq
      exact k_Y_grow1_j20 C0  _ _ _ _ _ _ _ _ _ _ _ (show 0 + mc ≤ mc by omega) (show 0 + ms ≤ ms by omega) hM hS (lv_sub hl [1, 2, 0] rfl) hw
abbrev r_Y_grow0 (mc ms : Nat) : Room := { frames := 4, cells := mc, slots := ms, locals := 127 }
def w_Y_grow0 (e0 : Nat) (post : Option Nat → zM → Prop) (mc : Nat) (ms : Nat) (M : zM) (h0 : Nat) : Prop := wGI M h0 5 1 (fun v1 => wIs M h0 5 ∧ ∃ mc6 ms7 : Nat, mc6 ≤ mc ∧ ms7 ≤ ms ∧ w_Y_grow1 e0 (fun r8 M5 => wSm r8 (fun a9 => post (some a9) M5)) mc6 ms7 M h0 (v1 + 1))
set_option maxHeartbeats 4000000 in
set_option maxRecDepth 100000 in
theorem k_Y_grow0 {l : Launch} {D : va_G} {tc : Nat → ClassId} {A : Nat → Prop} {mc ms : Nat} {post : Option Nat → zM → Prop} {M : zM} {h0 : Nat} (hw : w_Y_grow0 (tc 9) post mc ms M h0) : Met l yY_grow0 (.code yY_grow0 cY_grow0 1 (some (.array (.object "java/lang/Object"))) :: zTB) (r_Y_grow0 mc ms) (va_Pc [.ref h0] (zI D tc A M)) (va_Qq post (zB D tc A) A) mc ms A := by
  refine Met.ofW (cc := cY_grow0) (maxL := 1) (ret := (some (.array (.object "java/lang/Object")))) (by decide +kernel) rfl ?_
  intro p e s m args below meth c s₁ B hml hv
  obtain ⟨rfl, hA, hM, hG⟩ := hv
  have C0 := zC_of (D := D) (tc := tc) (A := A) B hml (zC_ex B) hA hG
  obtain ⟨hx, hb, hml, hr, hown, htb, hlk, hA, hG, hin, hex⟩ := id C0
  have hK := hG.1
  have hS : va_S A s.heap s.heap [] := va_S.rf
  have hl := lv_entry ([.ref h0]) (n := 1) (Nat.le_of_ble_eq_true rfl)
  rw [lg_entry_eq]
  generalize (lg_sl ([.ref h0]) ++ List.replicate (1 - (lg_sl ([.ref h0])).length) Slot.unset).toArray = ls at hl ⊢
  have hl : lv_has ls 1 [(0, .ref h0)] := hl
  refine lv_aload_n hx hb dY_grow0_0 rfl (lv_at hl 0 rfl) ?_
  refine lv_aload_n hx hb dY_grow0_1 rfl (lv_at hl 0 rfl) ?_
  obtain ⟨fs2, v1, h3, ev4, hw⟩ := hw
  refine z_get hx hb htb inw_Y hown hK hM h3 rfl 1 (by decide) (htb _ t_46) (fun _ h9 => h9) ev4 dY_grow0_2 ?_
  refine lv_iconst (v := 1) hx hb dY_grow0_5 (by decide +kernel) ?_
  refine lv_iadd hx hb dY_grow0_6 ?_
  obtain ⟨⟨fs10, h11⟩, hw⟩ := hw
  obtain ⟨mc6, ms7, hbmc6, hbms7, hw⟩ := hw
  refine va_callq (va_runV (As := [.int (v1 + 1)]) (rest := []) ⟨hx, hb, hml, hown, htb⟩ (k_Y_grow1 (l := l) (D := D) (tc := tc) (A := A) hw) (cw_Y_69 htb ⟨Nat.le_of_ble_eq_true rfl, Nat.le_of_ble_eq_true rfl⟩) (z_preV hG hA hS hM h11 rfl) rfl rfl hl.1 rfl (lv_room (Nat.le_of_ble_eq_true rfl)) dY_grow0_7 ⟨show 0 + mc6 ≤ mc by omega, show 0 + ms7 ≤ ms by omega⟩) hS (fun _ _ h => h) (fun _ h => h) (fun r8 M5 t H locs ht hvm hw hB _ _ hS => ?_)
  have hM : zP D vwCl tc A M5 H := by rw [← ht]; exact hB
  obtain ⟨a9, rfl, hw⟩ := hw
  refine W.widen (k := mc) (n := ms) (by omega) (by omega) ?_
  exact W.aret (v := va_rf (some a9)) hx hb hr (by first | exact Or.inl ⟨_, rfl⟩ | exact Or.inr ⟨_, rfl⟩) (va_rf_or _) (fun t ht hW => ⟨⟨_, _, rfl, hw, zB_of ht hM⟩, hS.F ht⟩) hS.2.2 dY_grow0_10
abbrev r_Y_add3 (mc ms : Nat) : Room := { frames := 5, cells := mc, slots := ms, locals := 147 }
abbrev J_Y_add3_11 (p : Program) (l : Launch) (e : Env) (s : State) (m : MethodId) (args : Array Value) (below : List Frame) (meth : Method) (c : Code) (D : va_G) (tc : Nat → ClassId) (A : Nat → Prop) (mcT msT : Nat) (Q : State → Prop) (K : Nat → Nat → zM → Nat → Nat → Nat → Int32 → Prop) : Prop := ∀ (mc : Nat) (ms : Nat) (M : zM) (l0 : Nat) (l1 : Nat) (l2 : Nat) (l3 : Int32) (H : Heap) (locs : List Loc) (cells slots : Nat) (ls : Array Slot), cells + mc ≤ mcT → slots + ms ≤ msT → zP D vwCl tc A M H → va_S A s.heap H locs → lv_has ls 4 [(0, .ref l0), (1, .ref l1), (2, .ref l2), (3, .int l3)] → K mc ms M l0 l1 l2 l3 → W p l e (r_Y_add3 mcT msT) s m args below meth c H locs cells slots Q (F0 m 11 ls [])
def w_Y_add3_j11 (e0 : Nat) (post : zM → Prop) (mc : Nat) (ms : Nat) (M : zM) (l0 : Nat) (l1 : Nat) (l2 : Nat) (l3 : Int32) : Prop := wSQ M l2 l3 l1 (fun M9 => wPF M9 l0 5 1 (.int (l3 + 1)) (fun M13 => post M13))
set_option maxHeartbeats 4000000 in
set_option maxRecDepth 100000 in
theorem k_Y_add3_j11 {p : Program} {l : Launch} {e : Env} {s : State} {m : MethodId} {args : Array Value} {below : List Frame} {meth : Method} {c : Code} {D : va_G} {tc : Nat → ClassId} {A : Nat → Prop} {mcT msT : Nat} {post : zM → Prop} (C0 : zC R_Y cY_add3 4 none "add" D tc A p l s m args meth c) : J_Y_add3_11 p l e s m args below meth c D tc A mcT msT (MQ below (va_Qv post (zB D tc A) A) args s mcT msT A) (w_Y_add3_j11 (tc 9) post) := by
  obtain ⟨hx, hb, hml, hr, hown, htb, hlk, hA, hG, hin, hex⟩ := id C0
  have hK := hG.1
  intro mc ms M l0 l1 l2 l3 H locs cells slots ls hbc hbs hM hS hl hw
  refine lv_aload_n hx hb dY_add3_11 rfl (lv_at hl 2 rfl) ?_
  refine lv_iload_n hx hb dY_add3_12 rfl (lv_at hl 3 rfl) ?_
  refine lv_aload_n hx hb dY_add3_13 rfl (lv_at hl 1 rfl) ?_
  obtain ⟨n1, f2, ci3, fs4, h5, hi6, hv7, h8, hw⟩ := hw
  refine z_astq hx hb hK hG hM hS h5 hi6 hv7 h8 dY_add3_14 (fun H locs hM hS => ?_)
  refine lv_aload_n hx hb dY_add3_15 rfl (lv_at hl 0 rfl) ?_
  refine lv_iload_n hx hb dY_add3_16 rfl (lv_at hl 3 rfl) ?_
  refine lv_iconst (v := 1) hx hb dY_add3_17 (by decide +kernel) ?_
  refine lv_iadd hx hb dY_add3_18 ?_
  obtain ⟨fs10, h11, hl12, hw⟩ := hw
  refine z_put (ty := .int) hx hb htb inw_Y ty_Y tyok_Y nmok_Y hown hK hM hS h11 rfl 1 (by decide) (htb _ t_46) (fun _ h9 => h9) rfl (by decide +kernel) rfl rfl hl12 dY_add3_19 (fun H locs hM hS => ?_)
  refine W.widen (k := mcT) (n := msT) (by omega) (by omega) ?_
  exact W.vret hx hb hr (fun t ht hW => ⟨⟨_, rfl, hw, zB_of ht hM⟩, hS.F ht⟩) hS.2.2 dY_add3_22
def w_Y_add3 (e0 : Nat) (post : zM → Prop) (mc : Nat) (ms : Nat) (M : zM) (h0 : Nat) (h1 : Nat) (h2 : Nat) (x3 : Int32) : Prop := wAE M e0 h2 (fun v1 => ((x3 = v1) → wIs M h0 5 ∧ ∃ mc4 ms5 : Nat, mc4 ≤ mc ∧ ms5 ≤ ms ∧ w_Y_grow0 e0 (fun r6 M3 => wSm r6 (fun a7 => w_Y_add3_j11 e0 post (mc - mc4) (ms - ms5) M3 h0 h1 a7 x3)) mc4 ms5 M h0) ∧ (¬ (x3 = v1) → w_Y_add3_j11 e0 post mc ms M h0 h1 h2 x3))
set_option maxHeartbeats 4000000 in
set_option maxRecDepth 100000 in
theorem k_Y_add3 {l : Launch} {D : va_G} {tc : Nat → ClassId} {A : Nat → Prop} {mc ms : Nat} {post : zM → Prop} {M : zM} {h0 : Nat} {h1 : Nat} {h2 : Nat} {x3 : Int32} (hw : w_Y_add3 (tc 9) post mc ms M h0 h1 h2 x3) : Met l yY_add3 (.code yY_add3 cY_add3 4 none :: zTB) (r_Y_add3 mc ms) (va_Pc [.ref h0, .ref h1, .ref h2, .int x3] (zI D tc A M)) (va_Qv post (zB D tc A) A) mc ms A := by
  refine Met.ofW (cc := cY_add3) (maxL := 4) (ret := none) (by decide +kernel) rfl ?_
  intro p e s m args below meth c s₁ B hml hv
  obtain ⟨rfl, hA, hM, hG⟩ := hv
  have C0 := zC_of (D := D) (tc := tc) (A := A) B hml (zC_ex B) hA hG
  obtain ⟨hx, hb, hml, hr, hown, htb, hlk, hA, hG, hin, hex⟩ := id C0
  have hK := hG.1
  have hS : va_S A s.heap s.heap [] := va_S.rf
  have hl := lv_entry ([.ref h0, .ref h1, .ref h2, .int x3]) (n := 4) (Nat.le_of_ble_eq_true rfl)
  rw [lg_entry_eq]
  generalize (lg_sl ([.ref h0, .ref h1, .ref h2, .int x3]) ++ List.replicate (4 - (lg_sl ([.ref h0, .ref h1, .ref h2, .int x3])).length) Slot.unset).toArray = ls at hl ⊢
  have hl : lv_has ls 4 [(0, .ref h0), (1, .ref h1), (2, .ref h2), (3, .int x3)] := hl
  refine lv_iload_n hx hb dY_add3_0 rfl (lv_at hl 3 rfl) ?_
  refine lv_aload_n hx hb dY_add3_1 rfl (lv_at hl 2 rfl) ?_
  obtain ⟨v1, h2, hw⟩ := hw
  refine z_alenE hx hb hK hM hG hS h2 dY_add3_2 ?_
  refine lv_icmp_ne (tgt := 11) hx hb dY_add3_3 (by decide) (fun hq => ?_) (fun hq => ?_)
  · have hw := hw.2 hq
    exact k_Y_add3_j11 C0  _ _ _ _ _ _ _ _ _ _ _ _ (show 0 + mc ≤ mc by omega) (show 0 + ms ≤ ms by omega) hM hS (lv_sub hl [0, 1, 2, 3] rfl) hw
  · have hw := hw.1 hq
    refine lv_aload_n hx hb dY_add3_6 rfl (lv_at hl 0 rfl) ?_
    obtain ⟨⟨fs8, h9⟩, hw⟩ := hw
    obtain ⟨mc4, ms5, hbmc4, hbms5, hw⟩ := hw
    refine va_callq (va_runV (As := []) (rest := []) ⟨hx, hb, hml, hown, htb⟩ (k_Y_grow0 (l := l) (D := D) (tc := tc) (A := A) hw) (cw_Y_129 htb ⟨Nat.le_of_ble_eq_true rfl, Nat.le_of_ble_eq_true rfl⟩) (z_preV hG hA hS hM h9 rfl) rfl rfl hl.1 rfl (lv_room (Nat.le_of_ble_eq_true rfl)) dY_add3_7 ⟨show 0 + mc4 ≤ mc by omega, show 0 + ms5 ≤ ms by omega⟩) hS (fun _ _ h => h) (fun _ h => h) (fun r6 M3 t H locs ht hvm hw hB _ _ hS => ?_)
    have hM : zP D vwCl tc A M3 H := by rw [← ht]; exact hB
    obtain ⟨a7, rfl, hw⟩ := hw
    refine lv_astore_n (lv' := [(2, .ref a7), (0, .ref h0), (1, .ref h1), (3, .int x3)]) hx hb dY_add3_10 rfl hl (by decide) rfl (fun ls hl => ?_)
    exact k_Y_add3_j11 C0  _ _ _ _ _ _ _ _ _ _ _ _ (show (0 + mc4) + (mc - mc4) ≤ mc by omega) (show (0 + ms5) + (ms - ms5) ≤ ms by omega) hM hS (lv_sub hl [1, 2, 0, 3] rfl) hw
abbrev r_Y_add1 (mc ms : Nat) : Room := { frames := 6, cells := mc, slots := ms, locals := 170 }
def w_Y_add1 (e0 : Nat) (post : Int32 → zM → Prop) (mc : Nat) (ms : Nat) (M : zM) (h0 : Nat) (h1 : Nat) : Prop := wGI M h0 5 2 (fun v1 => wPF M h0 5 2 (.int (v1 + 1)) (fun M8 => wGR M8 h0 5 0 (fun v9 => wGI M8 h0 5 1 (fun v13 => wIs M8 h0 5 ∧ ∃ mc18 ms19 : Nat, mc18 ≤ mc ∧ ms19 ≤ ms ∧ w_Y_add3 e0 (fun M17 => post 1 M17) mc18 ms19 M8 h0 h1 v9 v13))))
set_option maxHeartbeats 4000000 in
set_option maxRecDepth 100000 in
theorem k_Y_add1 {l : Launch} {D : va_G} {tc : Nat → ClassId} {A : Nat → Prop} {mc ms : Nat} {post : Int32 → zM → Prop} {M : zM} {h0 : Nat} {h1 : Nat} (hw : w_Y_add1 (tc 9) post mc ms M h0 h1) : Met l yY_add1 (.code yY_add1 cY_add1 2 (some .boolean) :: zTB) (r_Y_add1 mc ms) (va_Pc [.ref h0, .ref h1] (zI D tc A M)) (va_Qi post (zB D tc A) A) mc ms A := by
  refine Met.ofW (cc := cY_add1) (maxL := 2) (ret := (some .boolean)) (by decide +kernel) rfl ?_
  intro p e s m args below meth c s₁ B hml hv
  obtain ⟨rfl, hA, hM, hG⟩ := hv
  have C0 := zC_of (D := D) (tc := tc) (A := A) B hml (zC_ex B) hA hG
  obtain ⟨hx, hb, hml, hr, hown, htb, hlk, hA, hG, hin, hex⟩ := id C0
  have hK := hG.1
  have hS : va_S A s.heap s.heap [] := va_S.rf
  have hl := lv_entry ([.ref h0, .ref h1]) (n := 2) (Nat.le_of_ble_eq_true rfl)
  rw [lg_entry_eq]
  generalize (lg_sl ([.ref h0, .ref h1]) ++ List.replicate (2 - (lg_sl ([.ref h0, .ref h1])).length) Slot.unset).toArray = ls at hl ⊢
  have hl : lv_has ls 2 [(0, .ref h0), (1, .ref h1)] := hl
  refine lv_aload_n hx hb dY_add1_0 rfl (lv_at hl 0 rfl) ?_
  refine lv_dup hx hb dY_add1_1 rfl ?_
  obtain ⟨fs2, v1, h3, ev4, hw⟩ := hw
  refine z_get hx hb htb inw_Y hown hK hM h3 rfl 2 (by decide) (htb _ t_48) (u_same (htb _ t_49)) ev4 dY_add1_2 ?_
  refine lv_iconst (v := 1) hx hb dY_add1_5 (by decide +kernel) ?_
  refine lv_iadd hx hb dY_add1_6 ?_
  obtain ⟨fs5, h6, hl7, hw⟩ := hw
  refine z_put (ty := .int) hx hb htb inw_Y ty_Y tyok_Y nmok_Y hown hK hM hS h6 rfl 2 (by decide) (htb _ t_48) (u_same (htb _ t_49)) rfl (by decide +kernel) rfl rfl hl7 dY_add1_7 (fun H locs hM hS => ?_)
  refine lv_aload_n hx hb dY_add1_10 rfl (lv_at hl 0 rfl) ?_
  refine lv_aload_n hx hb dY_add1_11 rfl (lv_at hl 1 rfl) ?_
  refine lv_aload_n hx hb dY_add1_12 rfl (lv_at hl 0 rfl) ?_
  obtain ⟨fs10, v9, h11, ev12, hw⟩ := hw
  refine z_get hx hb htb inw_Y hown hK hM h11 rfl 0 (by decide) (htb _ t_45) (fun _ h9 => h9) ev12 dY_add1_13 ?_
  refine lv_aload_n hx hb dY_add1_16 rfl (lv_at hl 0 rfl) ?_
  obtain ⟨fs14, v13, h15, ev16, hw⟩ := hw
  refine z_get hx hb htb inw_Y hown hK hM h15 rfl 1 (by decide) (htb _ t_46) (fun _ h9 => h9) ev16 dY_add1_17 ?_
  obtain ⟨⟨fs20, h21⟩, hw⟩ := hw
  obtain ⟨mc18, ms19, hbmc18, hbms19, hw⟩ := hw
  refine va_callv (va_runV (As := [.ref h1, .ref v9, .int v13]) (rest := []) ⟨hx, hb, hml, hown, htb⟩ (k_Y_add3 (l := l) (D := D) (tc := tc) (A := A) hw) (cw_Y_131 htb ⟨Nat.le_of_ble_eq_true rfl, Nat.le_of_ble_eq_true rfl⟩) (z_preV hG hA hS hM h21 rfl) rfl rfl hl.1 rfl (lv_room (Nat.le_of_ble_eq_true rfl)) dY_add1_20 ⟨show 0 + mc18 ≤ mc by omega, show 0 + ms19 ≤ ms by omega⟩) hS (fun _ _ h => h) (fun _ h => h) (fun M17 t H locs ht hvm hw hB _ _ hS => ?_)
  have hM : zP D vwCl tc A M17 H := by rw [← ht]; exact hB
  refine lv_iconst (v := 1) hx hb dY_add1_23 (by decide +kernel) ?_
  refine W.widen (k := mc) (n := ms) (by omega) (by omega) ?_
  exact W.zret hx hb hr rfl (fun t ht hW => ⟨⟨_, _, rfl, hw, zB_of ht hM⟩, hS.F ht⟩) hS.2.2 dY_add1_24
abbrev r_YP_checkIndex : Room := { frames := 0, cells := 0, slots := 0, locals := 0 }
abbrev J_YP_checkIndex_9 (p : Program) (l : Launch) (e : Env) (s : State) (m : MethodId) (args : Array Value) (below : List Frame) (meth : Method) (c : Code) (D : va_G) (tc : Nat → ClassId) (A : Nat → Prop) (Q : State → Prop) (K : zM → Prop) : Prop := ∀ (M : zM) (H : Heap) (locs : List Loc) (ls : Array Slot), zP D vwCl tc A M H → va_S A s.heap H locs → lv_has ls 3 [] → K M → W p l e (r_YP_checkIndex) s m args below meth c H locs 0 0 Q (F0 m 9 ls [])
def w_YP_checkIndex_j9 (e0 : Nat) (post : Int32 → zM → Prop) (M : zM) : Prop := False
set_option maxHeartbeats 4000000 in
set_option maxRecDepth 100000 in
theorem k_YP_checkIndex_j9 {p : Program} {l : Launch} {e : Env} {s : State} {m : MethodId} {args : Array Value} {below : List Frame} {meth : Method} {c : Code} {D : va_G} {tc : Nat → ClassId} {A : Nat → Prop} {post : Int32 → zM → Prop} (C0 : zC R_YP cYP_checkIndex 3 (some .int) "checkIndex" D tc A p l s m args meth c) : J_YP_checkIndex_9 p l e s m args below meth c D tc A (MQ below (va_Qi post (zB D tc A) A) args s 0 0 A) (w_YP_checkIndex_j9 (tc 9) post) := by
  obtain ⟨hx, hb, hml, hr, hown, htb, hlk, hA, hG, hin, hex⟩ := id C0
  have hK := hG.1
  intro M H locs ls hM hS hl hw
  exact hw.elim
def w_YP_checkIndex (e0 : Nat) (post : Int32 → zM → Prop) (M : zM) (x0 : Int32) (x1 : Int32) : Prop := ((x0 < 0) → w_YP_checkIndex_j9 e0 post M) ∧ (¬ (x0 < 0) → ((x0 < x1) → post x0 M) ∧ (¬ (x0 < x1) → w_YP_checkIndex_j9 e0 post M))
set_option maxHeartbeats 4000000 in
set_option maxRecDepth 100000 in
theorem k_YP_checkIndex {l : Launch} {D : va_G} {tc : Nat → ClassId} {A : Nat → Prop} {post : Int32 → zM → Prop} {M : zM} {x0 : Int32} {x1 : Int32} (hw : w_YP_checkIndex (tc 9) post M x0 x1) : Met l yYP_checkIndex (.code yYP_checkIndex cYP_checkIndex 3 (some .int) :: zTB) r_YP_checkIndex (va_Pc [.int x0, .int x1, .null] (zI D tc A M)) (va_Qi post (zB D tc A) A) 0 0 A := by
  refine Met.ofW (cc := cYP_checkIndex) (maxL := 3) (ret := (some .int)) (by decide +kernel) rfl ?_
  intro p e s m args below meth c s₁ B hml hv
  obtain ⟨rfl, hA, hM, hG⟩ := hv
  have C0 := zC_of (D := D) (tc := tc) (A := A) B hml (zC_ex B) hA hG
  obtain ⟨hx, hb, hml, hr, hown, htb, hlk, hA, hG, hin, hex⟩ := id C0
  have hK := hG.1
  have hS : va_S A s.heap s.heap [] := va_S.rf
  have hl := lv_entry ([.int x0, .int x1, .null]) (n := 3) (Nat.le_of_ble_eq_true rfl)
  rw [lg_entry_eq]
  generalize (lg_sl ([.int x0, .int x1, .null]) ++ List.replicate (3 - (lg_sl ([.int x0, .int x1, .null])).length) Slot.unset).toArray = ls at hl ⊢
  have hl : lv_has ls 3 [(0, .int x0), (1, .int x1), (2, .null)] := hl
  refine lv_iload_n hx hb dYP_checkIndex_0 rfl (lv_at hl 0 rfl) ?_
  refine lv_if_lt (tgt := 9) hx hb dYP_checkIndex_1 (by decide) (fun hq => ?_) (fun hq => ?_)
  · have hw := hw.1 hq
    exact k_YP_checkIndex_j9 C0  _  _ _ _ hM hS (lv_sub hl [] rfl) hw
  · have hw := hw.2 hq
    refine lv_iload_n hx hb dYP_checkIndex_4 rfl (lv_at hl 0 rfl) ?_
    refine lv_iload_n hx hb dYP_checkIndex_5 rfl (lv_at hl 1 rfl) ?_
    refine lv_icmp_lt (tgt := 16) hx hb dYP_checkIndex_6 (by decide) (fun hq => ?_) (fun hq => ?_)
    · have hw := hw.1 hq
      refine lv_iload_n hx hb dYP_checkIndex_16 rfl (lv_at hl 0 rfl) ?_
      exact W.iret hx hb hr (fun t ht hW => ⟨⟨_, _, rfl, hw, zB_of ht hM⟩, hS.F ht⟩) hS.2.2 dYP_checkIndex_17
    · have hw := hw.2 hq
      exact k_YP_checkIndex_j9 C0  _  _ _ _ hM hS (lv_sub hl [] rfl) hw
abbrev r_YO_checkIndex : Room := { frames := 1, cells := 0, slots := 0, locals := 22 }
def w_YO_checkIndex (e0 : Nat) (post : Int32 → zM → Prop) (M : zM) (x0 : Int32) (x1 : Int32) : Prop := w_YP_checkIndex e0 (fun r2 M1 => post r2 M1) M x0 x1
set_option maxHeartbeats 4000000 in
set_option maxRecDepth 100000 in
theorem k_YO_checkIndex {l : Launch} {D : va_G} {tc : Nat → ClassId} {A : Nat → Prop} {post : Int32 → zM → Prop} {M : zM} {x0 : Int32} {x1 : Int32} (hw : w_YO_checkIndex (tc 9) post M x0 x1) : Met l yYO_checkIndex (.code yYO_checkIndex cYO_checkIndex 2 (some .int) :: zTB) r_YO_checkIndex (va_Pc [.int x0, .int x1] (zI D tc A M)) (va_Qi post (zB D tc A) A) 0 0 A := by
  refine Met.ofW (cc := cYO_checkIndex) (maxL := 2) (ret := (some .int)) (by decide +kernel) rfl ?_
  intro p e s m args below meth c s₁ B hml hv
  obtain ⟨rfl, hA, hM, hG⟩ := hv
  have C0 := zC_of (D := D) (tc := tc) (A := A) B hml (zC_ex B) hA hG
  obtain ⟨hx, hb, hml, hr, hown, htb, hlk, hA, hG, hin, hex⟩ := id C0
  have hK := hG.1
  have hS : va_S A s.heap s.heap [] := va_S.rf
  have hl := lv_entry ([.int x0, .int x1]) (n := 2) (Nat.le_of_ble_eq_true rfl)
  rw [lg_entry_eq]
  generalize (lg_sl ([.int x0, .int x1]) ++ List.replicate (2 - (lg_sl ([.int x0, .int x1])).length) Slot.unset).toArray = ls at hl ⊢
  have hl : lv_has ls 2 [(0, .int x0), (1, .int x1)] := hl
  refine lv_iload_n hx hb dYO_checkIndex_0 rfl (lv_at hl 0 rfl) ?_
  refine lv_iload_n hx hb dYO_checkIndex_1 rfl (lv_at hl 1 rfl) ?_
  refine lv_null hx hb dYO_checkIndex_2 ?_
  refine va_calli (va_runS (As := [.int x0, .int x1, .null]) (rest := []) ⟨hx, hb, hml, hown, htb⟩ (k_YP_checkIndex (l := l) (D := D) (tc := tc) (A := A) hw) (cw_YO_105 htb ⟨Nat.le_of_ble_eq_true rfl, Nat.le_of_ble_eq_true rfl⟩) (z_preS hG hA hS hM) rfl rfl hl.1 rfl (lv_room (Nat.le_of_ble_eq_true rfl)) dYO_checkIndex_3 ⟨Nat.le_refl _, Nat.le_refl _⟩) hS (fun _ _ h => h) (fun _ h => h) (fun r2 M1 t H locs ht hvm hw hB _ _ hS => ?_)
  have hM : zP D vwCl tc A M1 H := by rw [← ht]; exact hB
  exact W.iret hx hb hr (fun t ht hW => ⟨⟨_, _, rfl, hw, zB_of ht hM⟩, hS.F ht⟩) hS.2.2 dYO_checkIndex_6
abbrev r_Y_elementData : Room := { frames := 0, cells := 0, slots := 0, locals := 0 }
def w_Y_elementData (e0 : Nat) (post : Option Nat → zM → Prop) (M : zM) (h0 : Nat) (x1 : Int32) : Prop := wGR M h0 5 0 (fun v1 => wLQ M v1 2 x1 (fun v7 => post v7 M))
set_option maxHeartbeats 4000000 in
set_option maxRecDepth 100000 in
theorem k_Y_elementData {l : Launch} {D : va_G} {tc : Nat → ClassId} {A : Nat → Prop} {post : Option Nat → zM → Prop} {M : zM} {h0 : Nat} {x1 : Int32} (hw : w_Y_elementData (tc 9) post M h0 x1) : Met l yY_elementData (.code yY_elementData cY_elementData 2 (some (.object "java/lang/Object")) :: zTB) r_Y_elementData (va_Pc [.ref h0, .int x1] (zI D tc A M)) (va_Qq post (zB D tc A) A) 0 0 A := by
  refine Met.ofW (cc := cY_elementData) (maxL := 2) (ret := (some (.object "java/lang/Object"))) (by decide +kernel) rfl ?_
  intro p e s m args below meth c s₁ B hml hv
  obtain ⟨rfl, hA, hM, hG⟩ := hv
  have C0 := zC_of (D := D) (tc := tc) (A := A) B hml (zC_ex B) hA hG
  obtain ⟨hx, hb, hml, hr, hown, htb, hlk, hA, hG, hin, hex⟩ := id C0
  have hK := hG.1
  have hS : va_S A s.heap s.heap [] := va_S.rf
  have hl := lv_entry ([.ref h0, .int x1]) (n := 2) (Nat.le_of_ble_eq_true rfl)
  rw [lg_entry_eq]
  generalize (lg_sl ([.ref h0, .int x1]) ++ List.replicate (2 - (lg_sl ([.ref h0, .int x1])).length) Slot.unset).toArray = ls at hl ⊢
  have hl : lv_has ls 2 [(0, .ref h0), (1, .int x1)] := hl
  refine lv_aload_n hx hb dY_elementData_0 rfl (lv_at hl 0 rfl) ?_
  obtain ⟨fs2, v1, h3, ev4, hw⟩ := hw
  refine z_get hx hb htb inw_Y hown hK hM h3 rfl 0 (by decide) (htb _ t_45) (fun _ h9 => h9) ev4 dY_elementData_1 ?_
  refine lv_iload_n hx hb dY_elementData_4 rfl (lv_at hl 1 rfl) ?_
  obtain ⟨n5, f6, v7, h8, hi9, ev10, hw⟩ := hw
  refine z_aldq hx hb hK hM 2 2 h8 rfl hi9 ev10 dY_elementData_5 ?_
  exact W.aret (v := va_rf v7) hx hb hr (by first | exact Or.inl ⟨_, rfl⟩ | exact Or.inr ⟨_, rfl⟩) (va_rf_or _) (fun t ht hW => ⟨⟨_, _, rfl, hw, zB_of ht hM⟩, hS.F ht⟩) hS.2.2 dY_elementData_6
abbrev r_Y_get : Room := { frames := 2, cells := 0, slots := 0, locals := 43 }
def w_Y_get (e0 : Nat) (post : Option Nat → zM → Prop) (M : zM) (h0 : Nat) (x1 : Int32) : Prop := wGI M h0 5 1 (fun v1 => w_YO_checkIndex e0 (fun r6 M5 => wIs M5 h0 5 ∧ w_Y_elementData e0 (fun r8 M7 => post r8 M7) M5 h0 x1) M x1 v1)
set_option maxHeartbeats 4000000 in
set_option maxRecDepth 100000 in
theorem k_Y_get {l : Launch} {D : va_G} {tc : Nat → ClassId} {A : Nat → Prop} {post : Option Nat → zM → Prop} {M : zM} {h0 : Nat} {x1 : Int32} (hw : w_Y_get (tc 9) post M h0 x1) : Met l yY_get (.code yY_get cY_get 2 (some (.object "java/lang/Object")) :: zTB) r_Y_get (va_Pc [.ref h0, .int x1] (zI D tc A M)) (va_Qq post (zB D tc A) A) 0 0 A := by
  refine Met.ofW (cc := cY_get) (maxL := 2) (ret := (some (.object "java/lang/Object"))) (by decide +kernel) rfl ?_
  intro p e s m args below meth c s₁ B hml hv
  obtain ⟨rfl, hA, hM, hG⟩ := hv
  have C0 := zC_of (D := D) (tc := tc) (A := A) B hml (zC_ex B) hA hG
  obtain ⟨hx, hb, hml, hr, hown, htb, hlk, hA, hG, hin, hex⟩ := id C0
  have hK := hG.1
  have hS : va_S A s.heap s.heap [] := va_S.rf
  have hl := lv_entry ([.ref h0, .int x1]) (n := 2) (Nat.le_of_ble_eq_true rfl)
  rw [lg_entry_eq]
  generalize (lg_sl ([.ref h0, .int x1]) ++ List.replicate (2 - (lg_sl ([.ref h0, .int x1])).length) Slot.unset).toArray = ls at hl ⊢
  have hl : lv_has ls 2 [(0, .ref h0), (1, .int x1)] := hl
  refine lv_iload_n hx hb dY_get_0 rfl (lv_at hl 1 rfl) ?_
  refine lv_aload_n hx hb dY_get_1 rfl (lv_at hl 0 rfl) ?_
  obtain ⟨fs2, v1, h3, ev4, hw⟩ := hw
  refine z_get hx hb htb inw_Y hown hK hM h3 rfl 1 (by decide) (htb _ t_46) (fun _ h9 => h9) ev4 dY_get_2 ?_
  refine va_calli (va_runS (As := [.int x1, .int v1]) (rest := []) ⟨hx, hb, hml, hown, htb⟩ (k_YO_checkIndex (l := l) (D := D) (tc := tc) (A := A) hw) (cw_Y_118 htb ⟨Nat.le_of_ble_eq_true rfl, Nat.le_of_ble_eq_true rfl⟩) (z_preS hG hA hS hM) rfl rfl hl.1 rfl (lv_room (Nat.le_of_ble_eq_true rfl)) dY_get_5 ⟨Nat.le_refl _, Nat.le_refl _⟩) hS (fun _ _ h => h) (fun _ h => h) (fun r6 M5 t H locs ht hvm hw hB _ _ hS => ?_)
  have hM : zP D vwCl tc A M5 H := by rw [← ht]; exact hB
  refine lv_pop hx hb dY_get_8 rfl ?_
  refine lv_aload_n hx hb dY_get_9 rfl (lv_at hl 0 rfl) ?_
  refine lv_iload_n hx hb dY_get_10 rfl (lv_at hl 1 rfl) ?_
  obtain ⟨⟨fs9, h10⟩, hw⟩ := hw
  refine va_callq (va_runV (As := [.int x1]) (rest := []) ⟨hx, hb, hml, hown, htb⟩ (k_Y_elementData (l := l) (D := D) (tc := tc) (A := A) hw) (cw_Y_123 htb ⟨Nat.le_of_ble_eq_true rfl, Nat.le_of_ble_eq_true rfl⟩) (z_preV hG hA hS hM h10 rfl) rfl rfl hl.1 rfl (lv_room (Nat.le_of_ble_eq_true rfl)) dY_get_11 ⟨Nat.le_refl _, Nat.le_refl _⟩) hS (fun _ _ h => h) (fun _ h => h) (fun r8 M7 t H locs ht hvm hw hB _ _ hS => ?_)
  have hM : zP D vwCl tc A M7 H := by rw [← ht]; exact hB
  exact W.aret (v := va_rf r8) hx hb hr (by first | exact Or.inl ⟨_, rfl⟩ | exact Or.inr ⟨_, rfl⟩) (va_rf_or _) (fun t ht hW => ⟨⟨_, _, rfl, hw, zB_of ht hM⟩, hS.F ht⟩) hS.2.2 dY_get_14
abbrev r_YA_fill : Room := { frames := 0, cells := 0, slots := 0, locals := 0 }
abbrev J_YA_fill_5 (p : Program) (l : Launch) (e : Env) (s : State) (m : MethodId) (args : Array Value) (below : List Frame) (meth : Method) (c : Code) (D : va_G) (tc : Nat → ClassId) (A : Nat → Prop) (Q : State → Prop) (K : zM → Nat → Int32 → Int32 → Int32 → Prop) : Prop := ∀ (M : zM) (l0 : Nat) (l1 : Int32) (l2 : Int32) (l3 : Int32) (H : Heap) (locs : List Loc) (ls : Array Slot), zP D vwCl tc A M H → va_S A s.heap H locs → lv_has ls 4 [(0, .ref l0), (1, .int l1), (2, .int l2), (3, .int l3)] → K M l0 l1 l2 l3 → W p l e (r_YA_fill) s m args below meth c H locs 0 0 Q (F0 m 5 ls [])
def w_YA_fill_j5 (e0 : Nat) (post : zM → Prop) : Nat → zM → Nat → Int32 → Int32 → Int32 → Prop
  | 0 => fun _ _ _ _ _ => False
  | n + 1 => fun M l0 l1 l2 l3 => ((l3 ≤ l2) → post M) ∧ (¬ (l3 ≤ l2) → wSI M l0 0 l2 l1 (fun M5 => w_YA_fill_j5 e0 post n M5 l0 l1 (l2 + 1) l3))
set_option maxHeartbeats 4000000 in
set_option maxRecDepth 100000 in
theorem k_YA_fill_j5 {p : Program} {l : Launch} {e : Env} {s : State} {m : MethodId} {args : Array Value} {below : List Frame} {meth : Method} {c : Code} {D : va_G} {tc : Nat → ClassId} {A : Nat → Prop} {post : zM → Prop} (C0 : zC R_YA cYA_fill 4 none "fill" D tc A p l s m args meth c) : ∀ n : Nat, J_YA_fill_5 p l e s m args below meth c D tc A (MQ below (va_Qv post (zB D tc A) A) args s 0 0 A) (w_YA_fill_j5 (tc 9) post n) := by
  obtain ⟨hx, hb, hml, hr, hown, htb, hlk, hA, hG, hin, hex⟩ := id C0
  have hK := hG.1
  intro n
  induction n with
  | zero => intro M l0 l1 l2 l3 H locs ls hM hS hl hw; exact hw.elim
  | succ n ih =>
    intro M l0 l1 l2 l3 H locs ls hM hS hl hw
    refine lv_iload_n hx hb dYA_fill_5 rfl (lv_at hl 2 rfl) ?_
    refine lv_iload_n hx hb dYA_fill_6 rfl (lv_at hl 3 rfl) ?_
    refine lv_icmp_ge (tgt := 20) hx hb dYA_fill_7 (by decide) (fun hq => ?_) (fun hq => ?_)
    · have hw := hw.1 hq
      exact W.vret hx hb hr (fun t ht hW => ⟨⟨_, rfl, hw, zB_of ht hM⟩, hS.F ht⟩) hS.2.2 dYA_fill_20
    · have hw := hw.2 hq
      refine lv_aload_n hx hb dYA_fill_10 rfl (lv_at hl 0 rfl) ?_
      refine lv_iload_n hx hb dYA_fill_11 rfl (lv_at hl 2 rfl) ?_
      refine lv_iload_n hx hb dYA_fill_12 rfl (lv_at hl 1 rfl) ?_
      obtain ⟨n1, f2, h3, hi4, hw⟩ := hw
      refine z_iast hx hb hK hM hS 0 0 h3 rfl hi4 dYA_fill_13 (fun H locs hM hS => ?_)
      refine lv_iinc (v := (l2 + 1)) (lv' := [(2, .int (l2 + 1)), (0, .ref l0), (1, .int l1), (3, .int l3)]) hx hb dYA_fill_14 hl (k := 2) rfl rfl (by decide) rfl (fun ls hl => ?_)
      refine lv_goto (tgt := 5) hx hb dYA_fill_17 (by decide) ?_
      exact ih _ _ _ _ _ _ _ _ hM hS (lv_sub hl [1, 2, 0, 3] rfl) hw
def w_YA_fill (e0 : Nat) (post : zM → Prop) (M : zM) (h0 : Nat) (x1 : Int32) : Prop := wAL M h0 0 (fun v2 => ∃ nn, w_YA_fill_j5 e0 post nn M h0 x1 0 v2)
set_option maxHeartbeats 4000000 in
set_option maxRecDepth 100000 in
theorem k_YA_fill {l : Launch} {D : va_G} {tc : Nat → ClassId} {A : Nat → Prop} {post : zM → Prop} {M : zM} {h0 : Nat} {x1 : Int32} (hw : w_YA_fill (tc 9) post M h0 x1) : Met l yYA_fill (.code yYA_fill cYA_fill 4 none :: zTB) r_YA_fill (va_Pc [.ref h0, .int x1] (zI D tc A M)) (va_Qv post (zB D tc A) A) 0 0 A := by
  refine Met.ofW (cc := cYA_fill) (maxL := 4) (ret := none) (by decide +kernel) rfl ?_
  intro p e s m args below meth c s₁ B hml hv
  obtain ⟨rfl, hA, hM, hG⟩ := hv
  have C0 := zC_of (D := D) (tc := tc) (A := A) B hml (zC_ex B) hA hG
  obtain ⟨hx, hb, hml, hr, hown, htb, hlk, hA, hG, hin, hex⟩ := id C0
  have hK := hG.1
  have hS : va_S A s.heap s.heap [] := va_S.rf
  have hl := lv_entry ([.ref h0, .int x1]) (n := 4) (Nat.le_of_ble_eq_true rfl)
  rw [lg_entry_eq]
  generalize (lg_sl ([.ref h0, .int x1]) ++ List.replicate (4 - (lg_sl ([.ref h0, .int x1])).length) Slot.unset).toArray = ls at hl ⊢
  have hl : lv_has ls 4 [(0, .ref h0), (1, .int x1)] := hl
  refine lv_iconst (v := 0) hx hb dYA_fill_0 (by decide +kernel) ?_
  refine lv_istore_n (lv' := [(2, .int 0), (0, .ref h0), (1, .int x1)]) hx hb dYA_fill_1 rfl hl (by decide) rfl (fun ls hl => ?_)
  refine lv_aload_n hx hb dYA_fill_2 rfl (lv_at hl 1 rfl) ?_
  obtain ⟨w1, v2, h3, ev4, hw⟩ := hw
  refine z_alen hx hb hK hM 0 0 h3 rfl ev4 dYA_fill_3 ?_
  refine lv_istore_n (lv' := [(3, .int v2), (2, .int 0), (0, .ref h0), (1, .int x1)]) hx hb dYA_fill_4 rfl hl (by decide) rfl (fun ls hl => ?_)
  obtain ⟨nfu, hw⟩ := hw
  exact k_YA_fill_j5 C0  nfu _ _ _ _ _ _ _ _ hM hS (lv_sub hl [2, 3, 1, 0] rfl) hw
