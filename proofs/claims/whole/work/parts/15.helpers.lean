abbrev r_W_group (mc ms : Nat) : Room := { frames := 8, cells := mc, slots := ms, locals := 213 }
def w_W_group (e0 : Nat) (post : Int32 → zM → Prop) (mc : Nat) (ms : Nat) (M : zM) (h0 : Nat) (x1 : Int32) (x2 : Int32) (h3 : Nat) : Prop := wIs M h0 0 ∧ ∃ mc2 ms3 : Nat, mc2 ≤ mc ∧ ms3 ≤ ms ∧ w_A_group e0 (fun r4 M1 => wSJ M1 h3 3 0 (r4.toInt64) (fun M9 => post 0 M9)) (fun E9 M9 => (E9 = "java/lang/IndexOutOfBoundsException" ∧ post 1 M9) ∨ (E9 = "java/lang/UnsupportedOperationException" ∧ post 2 M9)) mc2 ms3 M h0 x1 x2
set_option maxHeartbeats 4000000 in
set_option maxRecDepth 100000 in
theorem k_W_group {l : Launch} {D : va_G} {tc : Nat → ClassId} {A : Nat → Prop} {mc ms : Nat} {post : Int32 → zM → Prop} {M : zM} {h0 : Nat} {x1 : Int32} {x2 : Int32} {h3 : Nat} (hst : l.stackTraces = false) (hw : w_W_group (tc 9) post mc ms M h0 x1 x2 h3) : Met l yW_group (.codeWith yW_group cW_group 5 (some .int) [(0, 10, 13, 13), (0, 10, 17, 15)] :: zTB) (r_W_group mc ms) (va_Pc [.ref h0, .int x1, .int x2, .ref h3] (zIW D tc A M)) (va_Qi post (zB D tc A) A) mc ms A := by
  refine va_MetW (cc := cW_group) (maxL := 5) (ret := (some .int)) (hh := [(0, 10, 13, 13), (0, 10, 17, 15)]) (by decide +kernel) rfl ?_
  intro p e s m args below meth c s₁ B hml hv
  obtain ⟨rfl, ⟨hA, hM, hG⟩, hNc⟩ := hv
  have hpre := atoms_spec (ws := .codeWith yW_group cW_group 5 (some .int) [(0, 10, 13, 13), (0, 10, 17, 15)] :: zTB) B.pre
  have hex := vx_table (x := yW_group) B (hpre _ List.mem_cons_self)
  have hx := B.exec
  have hb := B.bytes
  have hr := B.returns
  have hown : s.vm.findClass R_W = some m.cls := findClass_of_methodNamed B.named
  have htb : ∀ w ∈ zTB, w.before _ s = true := fun w hw => hpre w (List.mem_cons_of_mem _ hw)
  have hlk := B.notSynchronized
  have hK := hG.1
  have hS : va_S A s.heap s.heap [] := va_S.rf
  have hl := lv_entry ([.ref h0, .int x1, .int x2, .ref h3]) (n := 5) (Nat.le_of_ble_eq_true rfl)
  rw [lg_entry_eq]
  generalize (lg_sl ([.ref h0, .int x1, .int x2, .ref h3]) ++ List.replicate (5 - (lg_sl ([.ref h0, .int x1, .int x2, .ref h3])).length) Slot.unset).toArray = ls at hl ⊢
  have hl : lv_has ls 5 [(0, .ref h0), (1, .int x1), (2, .int x2), (3, .ref h3)] := hl
  refine lv_aload_n hx hb dW_group_0 rfl (lv_at hl 3 rfl) ?_
  refine lv_iconst (v := 0) hx hb dW_group_1 (by decide +kernel) ?_
  refine lv_aload_n hx hb dW_group_2 rfl (lv_at hl 0 rfl) ?_
  refine lv_iload_n hx hb dW_group_3 rfl (lv_at hl 1 rfl) ?_
  refine lv_iload_n hx hb dW_group_4 rfl (lv_at hl 2 rfl) ?_
  obtain ⟨⟨fs10, h11⟩, hw⟩ := hw
  obtain ⟨mc2, ms3, hbmc2, hbms3, hw⟩ := hw
  refine vx_calli (vx_runV (As := [.int x1, .int x2]) (rest := [.int 0, .ref h3]) ⟨hx, hb, hml, hown, htb⟩ (k_A_group (l := l) (D := D) (tc := tc) (A := A) hst hw) (cw_W_7 htb ⟨Nat.le_of_ble_eq_true rfl, Nat.le_of_ble_eq_true rfl⟩) (z_preV hG hA hS hM h11 rfl) rfl rfl hl.1 rfl (lv_room (Nat.le_of_ble_eq_true rfl)) dW_group_5 ⟨show 0 + mc2 ≤ mc by omega, show 0 + ms3 ≤ ms by omega⟩) hS (fun _ _ h => h) (fun _ h => h) (fun _ _ h => h) (fun E9 ce9 q9 u9 t9 H locs ht hvm hw hB _ _ hS hce hcv hcl => ?_) (fun r4 M1 t H locs ht hvm hw hB _ _ hS => ?_)
  · obtain ⟨E9, M9⟩ := u9
    obtain ⟨hE, hMx⟩ := hB
    have hE : E9 = _ := hE
    subst hE
    have hM : zP D vwCl tc A M9 H := by rw [← ht]; exact hMx
    rcases hw with ⟨hE, hw⟩ | ⟨hE, hw⟩
    · have hE : E9 = _ := hE
      subst hE
      refine vx_catch (own := R_W) (name := "java/lang/IndexOutOfBoundsException") hown [] ⟨0, 10, 13, 13⟩ [⟨0, 10, 17, 15⟩] hex (fun z hz => nomatch hz) rfl (by decide) (htb _ t_82) (va_Nw.use rfl (hG.2.1 _ t_90)) hce hcv hcl ?_
      refine lv_astore (lv' := [(4, .ref q9), (0, .ref h0), (1, .int x1), (2, .int x2), (3, .ref h3)]) hx hb dW_group_13 hl (by decide) rfl (fun ls hl => ?_)
      refine lv_iconst (v := 1) hx hb dW_group_15 (by decide +kernel) ?_
      refine W.widen (k := mc) (n := ms) (by omega) (by omega) ?_
      exact W.iret hx hb hr (fun t ht hW => ⟨⟨_, _, rfl, hw, zB_of ht hM⟩, hS.F ht⟩) hS.2.2 dW_group_16
    · have hE : E9 = _ := hE
      subst hE
      refine vx_catch (own := R_W) (name := "java/lang/UnsupportedOperationException") hown [⟨0, 10, 13, 13⟩] ⟨0, 10, 17, 15⟩ [] hex (fun z hz => by obtain rfl := List.mem_singleton.mp hz; exact Or.inr ⟨by decide, "java/lang/IndexOutOfBoundsException", htb _ t_82, hNc ("java/lang/UnsupportedOperationException", "java/lang/IndexOutOfBoundsException") (by decide +kernel)⟩) rfl (by decide) (htb _ t_83) (va_Nw.use rfl (hG.2.1 _ t_165)) hce hcv hcl ?_
      refine lv_astore (lv' := [(4, .ref q9), (0, .ref h0), (1, .int x1), (2, .int x2), (3, .ref h3)]) hx hb dW_group_17 hl (by decide) rfl (fun ls hl => ?_)
      refine lv_iconst (v := 2) hx hb dW_group_19 (by decide +kernel) ?_
      refine W.widen (k := mc) (n := ms) (by omega) (by omega) ?_
      exact W.iret hx hb hr (fun t ht hW => ⟨⟨_, _, rfl, hw, zB_of ht hM⟩, hS.F ht⟩) hS.2.2 dW_group_20
  · have hM : zP D vwCl tc A M1 H := by rw [← ht]; exact hB
    refine lv_i2l (v := (r4.toInt64)) hx hb dW_group_8 rfl ?_
    obtain ⟨n5, f6, h7, hi8, hw⟩ := hw
    refine z_last hx hb hK hM hS 3 3 h7 rfl hi8 dW_group_9 (fun H locs hM hS => ?_)
    refine lv_goto (tgt := 21) hx hb dW_group_10 (by decide) ?_
    refine lv_iconst (v := 0) hx hb dW_group_21 (by decide +kernel) ?_
    refine W.widen (k := mc) (n := ms) (by omega) (by omega) ?_
    exact W.iret hx hb hr (fun t ht hW => ⟨⟨_, _, rfl, hw, zB_of ht hM⟩, hS.F ht⟩) hS.2.2 dW_group_22
abbrev r_W_next (mc ms : Nat) : Room := { frames := 9, cells := mc, slots := ms, locals := 155 }
def w_W_next (e0 : Nat) (post : Int32 → zM → Prop) (mc : Nat) (ms : Nat) (M : zM) (h0 : Nat) (x1 : Int32) (x2 : Int32) : Prop := wIs M h0 0 ∧ ∃ mc2 ms3 : Nat, mc2 ≤ mc ∧ ms3 ≤ ms ∧ w_A_next e0 (fun M1 => post 0 M1) (fun E9 M9 => (E9 = "java/lang/IllegalArgumentException" ∧ post 1 M9) ∨ (E9 = "java/lang/IllegalStateException" ∧ post 2 M9)) mc2 ms3 M h0 x1 x2
set_option maxHeartbeats 4000000 in
set_option maxRecDepth 100000 in
theorem k_W_next {l : Launch} {D : va_G} {tc : Nat → ClassId} {A : Nat → Prop} {mc ms : Nat} {post : Int32 → zM → Prop} {M : zM} {h0 : Nat} {x1 : Int32} {x2 : Int32} (hst : l.stackTraces = false) (hw : w_W_next (tc 9) post mc ms M h0 x1 x2) : Met l yW_next (.codeWith yW_next cW_next 4 (some .int) [(0, 6, 9, 21), (0, 6, 12, 23)] :: zTB) (r_W_next mc ms) (va_Pc [.ref h0, .int x1, .int x2] (zIW D tc A M)) (va_Qi post (zB D tc A) A) mc ms A := by
  refine va_MetW (cc := cW_next) (maxL := 4) (ret := (some .int)) (hh := [(0, 6, 9, 21), (0, 6, 12, 23)]) (by decide +kernel) rfl ?_
  intro p e s m args below meth c s₁ B hml hv
  obtain ⟨rfl, ⟨hA, hM, hG⟩, hNc⟩ := hv
  have hpre := atoms_spec (ws := .codeWith yW_next cW_next 4 (some .int) [(0, 6, 9, 21), (0, 6, 12, 23)] :: zTB) B.pre
  have hex := vx_table (x := yW_next) B (hpre _ List.mem_cons_self)
  have hx := B.exec
  have hb := B.bytes
  have hr := B.returns
  have hown : s.vm.findClass R_W = some m.cls := findClass_of_methodNamed B.named
  have htb : ∀ w ∈ zTB, w.before _ s = true := fun w hw => hpre w (List.mem_cons_of_mem _ hw)
  have hlk := B.notSynchronized
  have hK := hG.1
  have hS : va_S A s.heap s.heap [] := va_S.rf
  have hl := lv_entry ([.ref h0, .int x1, .int x2]) (n := 4) (Nat.le_of_ble_eq_true rfl)
  rw [lg_entry_eq]
  generalize (lg_sl ([.ref h0, .int x1, .int x2]) ++ List.replicate (4 - (lg_sl ([.ref h0, .int x1, .int x2])).length) Slot.unset).toArray = ls at hl ⊢
  have hl : lv_has ls 4 [(0, .ref h0), (1, .int x1), (2, .int x2)] := hl
  refine lv_aload_n hx hb dW_next_0 rfl (lv_at hl 0 rfl) ?_
  refine lv_iload_n hx hb dW_next_1 rfl (lv_at hl 1 rfl) ?_
  refine lv_iload_n hx hb dW_next_2 rfl (lv_at hl 2 rfl) ?_
  obtain ⟨⟨fs4, h5⟩, hw⟩ := hw
  obtain ⟨mc2, ms3, hbmc2, hbms3, hw⟩ := hw
  refine vx_callv (vx_runV (As := [.int x1, .int x2]) (rest := []) ⟨hx, hb, hml, hown, htb⟩ (k_A_next (l := l) (D := D) (tc := tc) (A := A) hst hw) (cw_W_17 htb ⟨Nat.le_of_ble_eq_true rfl, Nat.le_of_ble_eq_true rfl⟩) (z_preV hG hA hS hM h5 rfl) rfl rfl hl.1 rfl (lv_room (Nat.le_of_ble_eq_true rfl)) dW_next_3 ⟨show 0 + mc2 ≤ mc by omega, show 0 + ms3 ≤ ms by omega⟩) hS (fun _ _ h => h) (fun _ h => h) (fun _ _ h => h) (fun E9 ce9 q9 u9 t9 H locs ht hvm hw hB _ _ hS hce hcv hcl => ?_) (fun M1 t H locs ht hvm hw hB _ _ hS => ?_)
  · obtain ⟨E9, M9⟩ := u9
    obtain ⟨hE, hMx⟩ := hB
    have hE : E9 = _ := hE
    subst hE
    have hM : zP D vwCl tc A M9 H := by rw [← ht]; exact hMx
    rcases hw with ⟨hE, hw⟩ | ⟨hE, hw⟩
    · have hE : E9 = _ := hE
      subst hE
      refine vx_catch (own := R_W) (name := "java/lang/IllegalArgumentException") hown [] ⟨0, 6, 9, 21⟩ [⟨0, 6, 12, 23⟩] hex (fun z hz => nomatch hz) rfl (by decide) (htb _ t_265) (va_Nw.use rfl (hG.2.1 _ t_281)) hce hcv hcl ?_
      refine lv_astore_n (lv' := [(3, .ref q9), (0, .ref h0), (1, .int x1), (2, .int x2)]) hx hb dW_next_9 rfl hl (by decide) rfl (fun ls hl => ?_)
      refine lv_iconst (v := 1) hx hb dW_next_10 (by decide +kernel) ?_
      refine W.widen (k := mc) (n := ms) (by omega) (by omega) ?_
      exact W.iret hx hb hr (fun t ht hW => ⟨⟨_, _, rfl, hw, zB_of ht hM⟩, hS.F ht⟩) hS.2.2 dW_next_11
    · have hE : E9 = _ := hE
      subst hE
      refine vx_catch (own := R_W) (name := "java/lang/IllegalStateException") hown [⟨0, 6, 9, 21⟩] ⟨0, 6, 12, 23⟩ [] hex (fun z hz => by obtain rfl := List.mem_singleton.mp hz; exact Or.inr ⟨by decide, "java/lang/IllegalArgumentException", htb _ t_265, hNc ("java/lang/IllegalStateException", "java/lang/IllegalArgumentException") (by decide +kernel)⟩) rfl (by decide) (htb _ t_266) (va_Nw.use rfl (hG.2.1 _ t_311)) hce hcv hcl ?_
      refine lv_astore_n (lv' := [(3, .ref q9), (0, .ref h0), (1, .int x1), (2, .int x2)]) hx hb dW_next_12 rfl hl (by decide) rfl (fun ls hl => ?_)
      refine lv_iconst (v := 2) hx hb dW_next_13 (by decide +kernel) ?_
      refine W.widen (k := mc) (n := ms) (by omega) (by omega) ?_
      exact W.iret hx hb hr (fun t ht hW => ⟨⟨_, _, rfl, hw, zB_of ht hM⟩, hS.F ht⟩) hS.2.2 dW_next_14
  · have hM : zP D vwCl tc A M1 H := by rw [← ht]; exact hB
    refine lv_goto (tgt := 15) hx hb dW_next_6 (by decide) ?_
    refine lv_iconst (v := 0) hx hb dW_next_15 (by decide +kernel) ?_
    refine W.widen (k := mc) (n := ms) (by omega) (by omega) ?_
    exact W.iret hx hb hr (fun t ht hW => ⟨⟨_, _, rfl, hw, zB_of ht hM⟩, hS.F ht⟩) hS.2.2 dW_next_16
abbrev r_W_person (mc ms : Nat) : Room := { frames := 8, cells := mc, slots := ms, locals := 212 }
def w_W_person (e0 : Nat) (post : Int32 → zM → Prop) (mc : Nat) (ms : Nat) (M : zM) (h0 : Nat) (x1 : Int32) (h2 : Nat) : Prop := wIs M h0 0 ∧ ∃ mc2 ms3 : Nat, mc2 ≤ mc ∧ ms3 ≤ ms ∧ w_A_person e0 (fun r4 M1 => wSJ M1 h2 3 0 (r4.toInt64) (fun M9 => post 0 M9)) (fun E9 M9 => (E9 = "java/lang/IllegalArgumentException" ∧ post 1 M9) ∨ (E9 = "java/lang/UnsupportedOperationException" ∧ post 2 M9)) mc2 ms3 M h0 x1
set_option maxHeartbeats 4000000 in
set_option maxRecDepth 100000 in
theorem k_W_person {l : Launch} {D : va_G} {tc : Nat → ClassId} {A : Nat → Prop} {mc ms : Nat} {post : Int32 → zM → Prop} {M : zM} {h0 : Nat} {x1 : Int32} {h2 : Nat} (hst : l.stackTraces = false) (hw : w_W_person (tc 9) post mc ms M h0 x1 h2) : Met l yW_person (.codeWith yW_person cW_person 4 (some .int) [(0, 9, 12, 21), (0, 9, 15, 15)] :: zTB) (r_W_person mc ms) (va_Pc [.ref h0, .int x1, .ref h2] (zIW D tc A M)) (va_Qi post (zB D tc A) A) mc ms A := by
  refine va_MetW (cc := cW_person) (maxL := 4) (ret := (some .int)) (hh := [(0, 9, 12, 21), (0, 9, 15, 15)]) (by decide +kernel) rfl ?_
  intro p e s m args below meth c s₁ B hml hv
  obtain ⟨rfl, ⟨hA, hM, hG⟩, hNc⟩ := hv
  have hpre := atoms_spec (ws := .codeWith yW_person cW_person 4 (some .int) [(0, 9, 12, 21), (0, 9, 15, 15)] :: zTB) B.pre
  have hex := vx_table (x := yW_person) B (hpre _ List.mem_cons_self)
  have hx := B.exec
  have hb := B.bytes
  have hr := B.returns
  have hown : s.vm.findClass R_W = some m.cls := findClass_of_methodNamed B.named
  have htb : ∀ w ∈ zTB, w.before _ s = true := fun w hw => hpre w (List.mem_cons_of_mem _ hw)
  have hlk := B.notSynchronized
  have hK := hG.1
  have hS : va_S A s.heap s.heap [] := va_S.rf
  have hl := lv_entry ([.ref h0, .int x1, .ref h2]) (n := 4) (Nat.le_of_ble_eq_true rfl)
  rw [lg_entry_eq]
  generalize (lg_sl ([.ref h0, .int x1, .ref h2]) ++ List.replicate (4 - (lg_sl ([.ref h0, .int x1, .ref h2])).length) Slot.unset).toArray = ls at hl ⊢
  have hl : lv_has ls 4 [(0, .ref h0), (1, .int x1), (2, .ref h2)] := hl
  refine lv_aload_n hx hb dW_person_0 rfl (lv_at hl 2 rfl) ?_
  refine lv_iconst (v := 0) hx hb dW_person_1 (by decide +kernel) ?_
  refine lv_aload_n hx hb dW_person_2 rfl (lv_at hl 0 rfl) ?_
  refine lv_iload_n hx hb dW_person_3 rfl (lv_at hl 1 rfl) ?_
  obtain ⟨⟨fs10, h11⟩, hw⟩ := hw
  obtain ⟨mc2, ms3, hbmc2, hbms3, hw⟩ := hw
  refine vx_calli (vx_runV (As := [.int x1]) (rest := [.int 0, .ref h2]) ⟨hx, hb, hml, hown, htb⟩ (k_A_person (l := l) (D := D) (tc := tc) (A := A) hst hw) (cw_W_25 htb ⟨Nat.le_of_ble_eq_true rfl, Nat.le_of_ble_eq_true rfl⟩) (z_preV hG hA hS hM h11 rfl) rfl rfl hl.1 rfl (lv_room (Nat.le_of_ble_eq_true rfl)) dW_person_4 ⟨show 0 + mc2 ≤ mc by omega, show 0 + ms3 ≤ ms by omega⟩) hS (fun _ _ h => h) (fun _ h => h) (fun _ _ h => h) (fun E9 ce9 q9 u9 t9 H locs ht hvm hw hB _ _ hS hce hcv hcl => ?_) (fun r4 M1 t H locs ht hvm hw hB _ _ hS => ?_)
  · obtain ⟨E9, M9⟩ := u9
    obtain ⟨hE, hMx⟩ := hB
    have hE : E9 = _ := hE
    subst hE
    have hM : zP D vwCl tc A M9 H := by rw [← ht]; exact hMx
    rcases hw with ⟨hE, hw⟩ | ⟨hE, hw⟩
    · have hE : E9 = _ := hE
      subst hE
      refine vx_catch (own := R_W) (name := "java/lang/IllegalArgumentException") hown [] ⟨0, 9, 12, 21⟩ [⟨0, 9, 15, 15⟩] hex (fun z hz => nomatch hz) rfl (by decide) (htb _ t_265) (va_Nw.use rfl (hG.2.1 _ t_281)) hce hcv hcl ?_
      refine lv_astore_n (lv' := [(3, .ref q9), (0, .ref h0), (1, .int x1), (2, .ref h2)]) hx hb dW_person_12 rfl hl (by decide) rfl (fun ls hl => ?_)
      refine lv_iconst (v := 1) hx hb dW_person_13 (by decide +kernel) ?_
      refine W.widen (k := mc) (n := ms) (by omega) (by omega) ?_
      exact W.iret hx hb hr (fun t ht hW => ⟨⟨_, _, rfl, hw, zB_of ht hM⟩, hS.F ht⟩) hS.2.2 dW_person_14
    · have hE : E9 = _ := hE
      subst hE
      refine vx_catch (own := R_W) (name := "java/lang/UnsupportedOperationException") hown [⟨0, 9, 12, 21⟩] ⟨0, 9, 15, 15⟩ [] hex (fun z hz => by obtain rfl := List.mem_singleton.mp hz; exact Or.inr ⟨by decide, "java/lang/IllegalArgumentException", htb _ t_265, hNc ("java/lang/UnsupportedOperationException", "java/lang/IllegalArgumentException") (by decide +kernel)⟩) rfl (by decide) (htb _ t_83) (va_Nw.use rfl (hG.2.1 _ t_165)) hce hcv hcl ?_
      refine lv_astore_n (lv' := [(3, .ref q9), (0, .ref h0), (1, .int x1), (2, .ref h2)]) hx hb dW_person_15 rfl hl (by decide) rfl (fun ls hl => ?_)
      refine lv_iconst (v := 2) hx hb dW_person_16 (by decide +kernel) ?_
      refine W.widen (k := mc) (n := ms) (by omega) (by omega) ?_
      exact W.iret hx hb hr (fun t ht hW => ⟨⟨_, _, rfl, hw, zB_of ht hM⟩, hS.F ht⟩) hS.2.2 dW_person_17
  · have hM : zP D vwCl tc A M1 H := by rw [← ht]; exact hB
    refine lv_i2l (v := (r4.toInt64)) hx hb dW_person_7 rfl ?_
    obtain ⟨n5, f6, h7, hi8, hw⟩ := hw
    refine z_last hx hb hK hM hS 3 3 h7 rfl hi8 dW_person_8 (fun H locs hM hS => ?_)
    refine lv_goto (tgt := 18) hx hb dW_person_9 (by decide) ?_
    refine lv_iconst (v := 0) hx hb dW_person_18 (by decide +kernel) ?_
    refine W.widen (k := mc) (n := ms) (by omega) (by omega) ?_
    exact W.iret hx hb hr (fun t ht hW => ⟨⟨_, _, rfl, hw, zB_of ht hM⟩, hS.F ht⟩) hS.2.2 dW_person_19
abbrev r_W_way (mc ms : Nat) : Room := { frames := 9, cells := mc, slots := ms, locals := 156 }
def w_W_way (e0 : Nat) (post : Int32 → zM → Prop) (mc : Nat) (ms : Nat) (M : zM) (h0 : Nat) (x1 : Int32) (x2 : Int32) (x3 : Int32) (h4 : Nat) : Prop := wIs M h0 0 ∧ ∃ mc2 ms3 : Nat, mc2 ≤ mc ∧ ms3 ≤ ms ∧ w_A_way e0 (fun r4 M1 => wSJ M1 h4 3 0 (r4.toInt64) (fun M9 => post 0 M9)) (fun E9 M9 => (E9 = "java/lang/IllegalArgumentException" ∧ post 1 M9) ∨ (E9 = "java/lang/IndexOutOfBoundsException" ∧ post 2 M9)) mc2 ms3 M h0 x1 x2 x3
set_option maxHeartbeats 4000000 in
set_option maxRecDepth 100000 in
theorem k_W_way {l : Launch} {D : va_G} {tc : Nat → ClassId} {A : Nat → Prop} {mc ms : Nat} {post : Int32 → zM → Prop} {M : zM} {h0 : Nat} {x1 : Int32} {x2 : Int32} {x3 : Int32} {h4 : Nat} (hst : l.stackTraces = false) (hw : w_W_way (tc 9) post mc ms M h0 x1 x2 x3 h4) : Met l yW_way (.codeWith yW_way cW_way 6 (some .int) [(0, 12, 15, 21), (0, 12, 19, 13)] :: zTB) (r_W_way mc ms) (va_Pc [.ref h0, .int x1, .int x2, .int x3, .ref h4] (zIW D tc A M)) (va_Qi post (zB D tc A) A) mc ms A := by
  refine va_MetW (cc := cW_way) (maxL := 6) (ret := (some .int)) (hh := [(0, 12, 15, 21), (0, 12, 19, 13)]) (by decide +kernel) rfl ?_
  intro p e s m args below meth c s₁ B hml hv
  obtain ⟨rfl, ⟨hA, hM, hG⟩, hNc⟩ := hv
  have hpre := atoms_spec (ws := .codeWith yW_way cW_way 6 (some .int) [(0, 12, 15, 21), (0, 12, 19, 13)] :: zTB) B.pre
  have hex := vx_table (x := yW_way) B (hpre _ List.mem_cons_self)
  have hx := B.exec
  have hb := B.bytes
  have hr := B.returns
  have hown : s.vm.findClass R_W = some m.cls := findClass_of_methodNamed B.named
  have htb : ∀ w ∈ zTB, w.before _ s = true := fun w hw => hpre w (List.mem_cons_of_mem _ hw)
  have hlk := B.notSynchronized
  have hK := hG.1
  have hS : va_S A s.heap s.heap [] := va_S.rf
  have hl := lv_entry ([.ref h0, .int x1, .int x2, .int x3, .ref h4]) (n := 6) (Nat.le_of_ble_eq_true rfl)
  rw [lg_entry_eq]
  generalize (lg_sl ([.ref h0, .int x1, .int x2, .int x3, .ref h4]) ++ List.replicate (6 - (lg_sl ([.ref h0, .int x1, .int x2, .int x3, .ref h4])).length) Slot.unset).toArray = ls at hl ⊢
  have hl : lv_has ls 6 [(0, .ref h0), (1, .int x1), (2, .int x2), (3, .int x3), (4, .ref h4)] := hl
  refine lv_aload hx hb dW_way_0 (lv_at hl 4 rfl) ?_
  refine lv_iconst (v := 0) hx hb dW_way_2 (by decide +kernel) ?_
  refine lv_aload_n hx hb dW_way_3 rfl (lv_at hl 0 rfl) ?_
  refine lv_iload_n hx hb dW_way_4 rfl (lv_at hl 1 rfl) ?_
  refine lv_iload_n hx hb dW_way_5 rfl (lv_at hl 2 rfl) ?_
  refine lv_iload_n hx hb dW_way_6 rfl (lv_at hl 3 rfl) ?_
  obtain ⟨⟨fs10, h11⟩, hw⟩ := hw
  obtain ⟨mc2, ms3, hbmc2, hbms3, hw⟩ := hw
  refine vx_calli (vx_runV (As := [.int x1, .int x2, .int x3]) (rest := [.int 0, .ref h4]) ⟨hx, hb, hml, hown, htb⟩ (k_A_way (l := l) (D := D) (tc := tc) (A := A) hst hw) (cw_W_29 htb ⟨Nat.le_of_ble_eq_true rfl, Nat.le_of_ble_eq_true rfl⟩) (z_preV hG hA hS hM h11 rfl) rfl rfl hl.1 rfl (lv_room (Nat.le_of_ble_eq_true rfl)) dW_way_7 ⟨show 0 + mc2 ≤ mc by omega, show 0 + ms3 ≤ ms by omega⟩) hS (fun _ _ h => h) (fun _ h => h) (fun _ _ h => h) (fun E9 ce9 q9 u9 t9 H locs ht hvm hw hB _ _ hS hce hcv hcl => ?_) (fun r4 M1 t H locs ht hvm hw hB _ _ hS => ?_)
  · obtain ⟨E9, M9⟩ := u9
    obtain ⟨hE, hMx⟩ := hB
    have hE : E9 = _ := hE
    subst hE
    have hM : zP D vwCl tc A M9 H := by rw [← ht]; exact hMx
    rcases hw with ⟨hE, hw⟩ | ⟨hE, hw⟩
    · have hE : E9 = _ := hE
      subst hE
      refine vx_catch (own := R_W) (name := "java/lang/IllegalArgumentException") hown [] ⟨0, 12, 15, 21⟩ [⟨0, 12, 19, 13⟩] hex (fun z hz => nomatch hz) rfl (by decide) (htb _ t_265) (va_Nw.use rfl (hG.2.1 _ t_281)) hce hcv hcl ?_
      refine lv_astore (lv' := [(5, .ref q9), (0, .ref h0), (1, .int x1), (2, .int x2), (3, .int x3), (4, .ref h4)]) hx hb dW_way_15 hl (by decide) rfl (fun ls hl => ?_)
      refine lv_iconst (v := 1) hx hb dW_way_17 (by decide +kernel) ?_
      refine W.widen (k := mc) (n := ms) (by omega) (by omega) ?_
      exact W.iret hx hb hr (fun t ht hW => ⟨⟨_, _, rfl, hw, zB_of ht hM⟩, hS.F ht⟩) hS.2.2 dW_way_18
    · have hE : E9 = _ := hE
      subst hE
      refine vx_catch (own := R_W) (name := "java/lang/IndexOutOfBoundsException") hown [⟨0, 12, 15, 21⟩] ⟨0, 12, 19, 13⟩ [] hex (fun z hz => by obtain rfl := List.mem_singleton.mp hz; exact Or.inr ⟨by decide, "java/lang/IllegalArgumentException", htb _ t_265, hNc ("java/lang/IndexOutOfBoundsException", "java/lang/IllegalArgumentException") (by decide +kernel)⟩) rfl (by decide) (htb _ t_82) (va_Nw.use rfl (hG.2.1 _ t_90)) hce hcv hcl ?_
      refine lv_astore (lv' := [(5, .ref q9), (0, .ref h0), (1, .int x1), (2, .int x2), (3, .int x3), (4, .ref h4)]) hx hb dW_way_19 hl (by decide) rfl (fun ls hl => ?_)
      refine lv_iconst (v := 2) hx hb dW_way_21 (by decide +kernel) ?_
      refine W.widen (k := mc) (n := ms) (by omega) (by omega) ?_
      exact W.iret hx hb hr (fun t ht hW => ⟨⟨_, _, rfl, hw, zB_of ht hM⟩, hS.F ht⟩) hS.2.2 dW_way_22
  · have hM : zP D vwCl tc A M1 H := by rw [← ht]; exact hB
    refine lv_i2l (v := (r4.toInt64)) hx hb dW_way_10 rfl ?_
    obtain ⟨n5, f6, h7, hi8, hw⟩ := hw
    refine z_last hx hb hK hM hS 3 3 h7 rfl hi8 dW_way_11 (fun H locs hM hS => ?_)
    refine lv_goto (tgt := 23) hx hb dW_way_12 (by decide) ?_
    refine lv_iconst (v := 0) hx hb dW_way_23 (by decide +kernel) ?_
    refine W.widen (k := mc) (n := ms) (by omega) (by omega) ?_
    exact W.iret hx hb hr (fun t ht hW => ⟨⟨_, _, rfl, hw, zB_of ht hM⟩, hS.F ht⟩) hS.2.2 dW_way_24
abbrev r_W_is (mc ms : Nat) : Room := { frames := 9, cells := mc, slots := ms, locals := 155 }
def w_W_is (e0 : Nat) (post : Int32 → zM → Prop) (mc : Nat) (ms : Nat) (M : zM) (h0 : Nat) (x1 : Int32) (x2 : Int32) : Prop := wIs M h0 0 ∧ ∃ mc2 ms3 : Nat, mc2 ≤ mc ∧ ms3 ≤ ms ∧ w_A_is e0 (fun M1 => post 0 M1) (fun E9 M9 => (E9 = "java/lang/IllegalArgumentException" ∧ post 1 M9) ∨ (E9 = "java/lang/IndexOutOfBoundsException" ∧ post 2 M9)) mc2 ms3 M h0 x1 x2
set_option maxHeartbeats 4000000 in
set_option maxRecDepth 100000 in
theorem k_W_is {l : Launch} {D : va_G} {tc : Nat → ClassId} {A : Nat → Prop} {mc ms : Nat} {post : Int32 → zM → Prop} {M : zM} {h0 : Nat} {x1 : Int32} {x2 : Int32} (hst : l.stackTraces = false) (hw : w_W_is (tc 9) post mc ms M h0 x1 x2) : Met l yW_is (.codeWith yW_is cW_is 4 (some .int) [(0, 6, 9, 21), (0, 6, 12, 13)] :: zTB) (r_W_is mc ms) (va_Pc [.ref h0, .int x1, .int x2] (zIW D tc A M)) (va_Qi post (zB D tc A) A) mc ms A := by
  refine va_MetW (cc := cW_is) (maxL := 4) (ret := (some .int)) (hh := [(0, 6, 9, 21), (0, 6, 12, 13)]) (by decide +kernel) rfl ?_
  intro p e s m args below meth c s₁ B hml hv
  obtain ⟨rfl, ⟨hA, hM, hG⟩, hNc⟩ := hv
  have hpre := atoms_spec (ws := .codeWith yW_is cW_is 4 (some .int) [(0, 6, 9, 21), (0, 6, 12, 13)] :: zTB) B.pre
  have hex := vx_table (x := yW_is) B (hpre _ List.mem_cons_self)
  have hx := B.exec
  have hb := B.bytes
  have hr := B.returns
  have hown : s.vm.findClass R_W = some m.cls := findClass_of_methodNamed B.named
  have htb : ∀ w ∈ zTB, w.before _ s = true := fun w hw => hpre w (List.mem_cons_of_mem _ hw)
  have hlk := B.notSynchronized
  have hK := hG.1
  have hS : va_S A s.heap s.heap [] := va_S.rf
  have hl := lv_entry ([.ref h0, .int x1, .int x2]) (n := 4) (Nat.le_of_ble_eq_true rfl)
  rw [lg_entry_eq]
  generalize (lg_sl ([.ref h0, .int x1, .int x2]) ++ List.replicate (4 - (lg_sl ([.ref h0, .int x1, .int x2])).length) Slot.unset).toArray = ls at hl ⊢
  have hl : lv_has ls 4 [(0, .ref h0), (1, .int x1), (2, .int x2)] := hl
  refine lv_aload_n hx hb dW_is_0 rfl (lv_at hl 0 rfl) ?_
  refine lv_iload_n hx hb dW_is_1 rfl (lv_at hl 1 rfl) ?_
  refine lv_iload_n hx hb dW_is_2 rfl (lv_at hl 2 rfl) ?_
  obtain ⟨⟨fs4, h5⟩, hw⟩ := hw
  obtain ⟨mc2, ms3, hbmc2, hbms3, hw⟩ := hw
  refine vx_callv (vx_runV (As := [.int x1, .int x2]) (rest := []) ⟨hx, hb, hml, hown, htb⟩ (k_A_is (l := l) (D := D) (tc := tc) (A := A) hst hw) (cw_W_33 htb ⟨Nat.le_of_ble_eq_true rfl, Nat.le_of_ble_eq_true rfl⟩) (z_preV hG hA hS hM h5 rfl) rfl rfl hl.1 rfl (lv_room (Nat.le_of_ble_eq_true rfl)) dW_is_3 ⟨show 0 + mc2 ≤ mc by omega, show 0 + ms3 ≤ ms by omega⟩) hS (fun _ _ h => h) (fun _ h => h) (fun _ _ h => h) (fun E9 ce9 q9 u9 t9 H locs ht hvm hw hB _ _ hS hce hcv hcl => ?_) (fun M1 t H locs ht hvm hw hB _ _ hS => ?_)
  · obtain ⟨E9, M9⟩ := u9
    obtain ⟨hE, hMx⟩ := hB
    have hE : E9 = _ := hE
    subst hE
    have hM : zP D vwCl tc A M9 H := by rw [← ht]; exact hMx
    rcases hw with ⟨hE, hw⟩ | ⟨hE, hw⟩
    · have hE : E9 = _ := hE
      subst hE
      refine vx_catch (own := R_W) (name := "java/lang/IllegalArgumentException") hown [] ⟨0, 6, 9, 21⟩ [⟨0, 6, 12, 13⟩] hex (fun z hz => nomatch hz) rfl (by decide) (htb _ t_265) (va_Nw.use rfl (hG.2.1 _ t_281)) hce hcv hcl ?_
      refine lv_astore_n (lv' := [(3, .ref q9), (0, .ref h0), (1, .int x1), (2, .int x2)]) hx hb dW_is_9 rfl hl (by decide) rfl (fun ls hl => ?_)
      refine lv_iconst (v := 1) hx hb dW_is_10 (by decide +kernel) ?_
      refine W.widen (k := mc) (n := ms) (by omega) (by omega) ?_
      exact W.iret hx hb hr (fun t ht hW => ⟨⟨_, _, rfl, hw, zB_of ht hM⟩, hS.F ht⟩) hS.2.2 dW_is_11
    · have hE : E9 = _ := hE
      subst hE
      refine vx_catch (own := R_W) (name := "java/lang/IndexOutOfBoundsException") hown [⟨0, 6, 9, 21⟩] ⟨0, 6, 12, 13⟩ [] hex (fun z hz => by obtain rfl := List.mem_singleton.mp hz; exact Or.inr ⟨by decide, "java/lang/IllegalArgumentException", htb _ t_265, hNc ("java/lang/IndexOutOfBoundsException", "java/lang/IllegalArgumentException") (by decide +kernel)⟩) rfl (by decide) (htb _ t_82) (va_Nw.use rfl (hG.2.1 _ t_90)) hce hcv hcl ?_
      refine lv_astore_n (lv' := [(3, .ref q9), (0, .ref h0), (1, .int x1), (2, .int x2)]) hx hb dW_is_12 rfl hl (by decide) rfl (fun ls hl => ?_)
      refine lv_iconst (v := 2) hx hb dW_is_13 (by decide +kernel) ?_
      refine W.widen (k := mc) (n := ms) (by omega) (by omega) ?_
      exact W.iret hx hb hr (fun t ht hW => ⟨⟨_, _, rfl, hw, zB_of ht hM⟩, hS.F ht⟩) hS.2.2 dW_is_14
  · have hM : zP D vwCl tc A M1 H := by rw [← ht]; exact hB
    refine lv_goto (tgt := 15) hx hb dW_is_6 (by decide) ?_
    refine lv_iconst (v := 0) hx hb dW_is_15 (by decide +kernel) ?_
    refine W.widen (k := mc) (n := ms) (by omega) (by omega) ?_
    exact W.iret hx hb hr (fun t ht hW => ⟨⟨_, _, rfl, hw, zB_of ht hM⟩, hS.F ht⟩) hS.2.2 dW_is_16
abbrev r_W_alarm (mc ms : Nat) : Room := { frames := 10, cells := mc, slots := ms, locals := 239 }
def w_W_alarm (e0 : Nat) (post : Int32 → zM → Prop) (mc : Nat) (ms : Nat) (M : zM) (h0 : Nat) (x1 : Int32) (x2 : Int32) (h3 : Nat) : Prop := wIs M h0 0 ∧ ∃ mc2 ms3 : Nat, mc2 ≤ mc ∧ ms3 ≤ ms ∧ w_A_alarm e0 (fun r4 M1 => wSJ M1 h3 3 0 (r4.toInt64) (fun M9 => post 0 M9)) (fun E9 M9 => (E9 = "java/lang/IllegalArgumentException" ∧ post 1 M9) ∨ (E9 = "java/lang/IllegalStateException" ∧ post 2 M9) ∨ (E9 = "java/lang/UnsupportedOperationException" ∧ post 3 M9)) mc2 ms3 M h0 x1 x2
set_option maxHeartbeats 4000000 in
set_option maxRecDepth 100000 in
theorem k_W_alarm {l : Launch} {D : va_G} {tc : Nat → ClassId} {A : Nat → Prop} {mc ms : Nat} {post : Int32 → zM → Prop} {M : zM} {h0 : Nat} {x1 : Int32} {x2 : Int32} {h3 : Nat} (hst : l.stackTraces = false) (hw : w_W_alarm (tc 9) post mc ms M h0 x1 x2 h3) : Met l yW_alarm (.codeWith yW_alarm cW_alarm 5 (some .int) [(0, 10, 13, 21), (0, 10, 17, 23), (0, 10, 21, 15)] :: zTB) (r_W_alarm mc ms) (va_Pc [.ref h0, .int x1, .int x2, .ref h3] (zIW D tc A M)) (va_Qi post (zB D tc A) A) mc ms A := by
  refine va_MetW (cc := cW_alarm) (maxL := 5) (ret := (some .int)) (hh := [(0, 10, 13, 21), (0, 10, 17, 23), (0, 10, 21, 15)]) (by decide +kernel) rfl ?_
  intro p e s m args below meth c s₁ B hml hv
  obtain ⟨rfl, ⟨hA, hM, hG⟩, hNc⟩ := hv
  have hpre := atoms_spec (ws := .codeWith yW_alarm cW_alarm 5 (some .int) [(0, 10, 13, 21), (0, 10, 17, 23), (0, 10, 21, 15)] :: zTB) B.pre
  have hex := vx_table (x := yW_alarm) B (hpre _ List.mem_cons_self)
  have hx := B.exec
  have hb := B.bytes
  have hr := B.returns
  have hown : s.vm.findClass R_W = some m.cls := findClass_of_methodNamed B.named
  have htb : ∀ w ∈ zTB, w.before _ s = true := fun w hw => hpre w (List.mem_cons_of_mem _ hw)
  have hlk := B.notSynchronized
  have hK := hG.1
  have hS : va_S A s.heap s.heap [] := va_S.rf
  have hl := lv_entry ([.ref h0, .int x1, .int x2, .ref h3]) (n := 5) (Nat.le_of_ble_eq_true rfl)
  rw [lg_entry_eq]
  generalize (lg_sl ([.ref h0, .int x1, .int x2, .ref h3]) ++ List.replicate (5 - (lg_sl ([.ref h0, .int x1, .int x2, .ref h3])).length) Slot.unset).toArray = ls at hl ⊢
  have hl : lv_has ls 5 [(0, .ref h0), (1, .int x1), (2, .int x2), (3, .ref h3)] := hl
  refine lv_aload_n hx hb dW_alarm_0 rfl (lv_at hl 3 rfl) ?_
  refine lv_iconst (v := 0) hx hb dW_alarm_1 (by decide +kernel) ?_
  refine lv_aload_n hx hb dW_alarm_2 rfl (lv_at hl 0 rfl) ?_
  refine lv_iload_n hx hb dW_alarm_3 rfl (lv_at hl 1 rfl) ?_
  refine lv_iload_n hx hb dW_alarm_4 rfl (lv_at hl 2 rfl) ?_
  obtain ⟨⟨fs10, h11⟩, hw⟩ := hw
  obtain ⟨mc2, ms3, hbmc2, hbms3, hw⟩ := hw
  refine vx_calli (vx_runV (As := [.int x1, .int x2]) (rest := [.int 0, .ref h3]) ⟨hx, hb, hml, hown, htb⟩ (k_A_alarm (l := l) (D := D) (tc := tc) (A := A) hst hw) (cw_W_36 htb ⟨Nat.le_of_ble_eq_true rfl, Nat.le_of_ble_eq_true rfl⟩) (z_preV hG hA hS hM h11 rfl) rfl rfl hl.1 rfl (lv_room (Nat.le_of_ble_eq_true rfl)) dW_alarm_5 ⟨show 0 + mc2 ≤ mc by omega, show 0 + ms3 ≤ ms by omega⟩) hS (fun _ _ h => h) (fun _ h => h) (fun _ _ h => h) (fun E9 ce9 q9 u9 t9 H locs ht hvm hw hB _ _ hS hce hcv hcl => ?_) (fun r4 M1 t H locs ht hvm hw hB _ _ hS => ?_)
  · obtain ⟨E9, M9⟩ := u9
    obtain ⟨hE, hMx⟩ := hB
    have hE : E9 = _ := hE
    subst hE
    have hM : zP D vwCl tc A M9 H := by rw [← ht]; exact hMx
    rcases hw with ⟨hE, hw⟩ | ⟨hE, hw⟩ | ⟨hE, hw⟩
    · have hE : E9 = _ := hE
      subst hE
      refine vx_catch (own := R_W) (name := "java/lang/IllegalArgumentException") hown [] ⟨0, 10, 13, 21⟩ [⟨0, 10, 17, 23⟩, ⟨0, 10, 21, 15⟩] hex (fun z hz => nomatch hz) rfl (by decide) (htb _ t_265) (va_Nw.use rfl (hG.2.1 _ t_281)) hce hcv hcl ?_
      refine lv_astore (lv' := [(4, .ref q9), (0, .ref h0), (1, .int x1), (2, .int x2), (3, .ref h3)]) hx hb dW_alarm_13 hl (by decide) rfl (fun ls hl => ?_)
      refine lv_iconst (v := 1) hx hb dW_alarm_15 (by decide +kernel) ?_
      refine W.widen (k := mc) (n := ms) (by omega) (by omega) ?_
      exact W.iret hx hb hr (fun t ht hW => ⟨⟨_, _, rfl, hw, zB_of ht hM⟩, hS.F ht⟩) hS.2.2 dW_alarm_16
    · have hE : E9 = _ := hE
      subst hE
      refine vx_catch (own := R_W) (name := "java/lang/IllegalStateException") hown [⟨0, 10, 13, 21⟩] ⟨0, 10, 17, 23⟩ [⟨0, 10, 21, 15⟩] hex (fun z hz => by obtain rfl := List.mem_singleton.mp hz; exact Or.inr ⟨by decide, "java/lang/IllegalArgumentException", htb _ t_265, hNc ("java/lang/IllegalStateException", "java/lang/IllegalArgumentException") (by decide +kernel)⟩) rfl (by decide) (htb _ t_266) (va_Nw.use rfl (hG.2.1 _ t_311)) hce hcv hcl ?_
      refine lv_astore (lv' := [(4, .ref q9), (0, .ref h0), (1, .int x1), (2, .int x2), (3, .ref h3)]) hx hb dW_alarm_17 hl (by decide) rfl (fun ls hl => ?_)
      refine lv_iconst (v := 2) hx hb dW_alarm_19 (by decide +kernel) ?_
      refine W.widen (k := mc) (n := ms) (by omega) (by omega) ?_
      exact W.iret hx hb hr (fun t ht hW => ⟨⟨_, _, rfl, hw, zB_of ht hM⟩, hS.F ht⟩) hS.2.2 dW_alarm_20
    · have hE : E9 = _ := hE
      subst hE
      refine vx_catch (own := R_W) (name := "java/lang/UnsupportedOperationException") hown [⟨0, 10, 13, 21⟩, ⟨0, 10, 17, 23⟩] ⟨0, 10, 21, 15⟩ [] hex (fun z hz => by rcases List.mem_cons.mp hz with rfl | hz; exact Or.inr ⟨by decide, "java/lang/IllegalArgumentException", htb _ t_265, hNc ("java/lang/UnsupportedOperationException", "java/lang/IllegalArgumentException") (by decide +kernel)⟩; obtain rfl := List.mem_singleton.mp hz; exact Or.inr ⟨by decide, "java/lang/IllegalStateException", htb _ t_266, hNc ("java/lang/UnsupportedOperationException", "java/lang/IllegalStateException") (by decide +kernel)⟩) rfl (by decide) (htb _ t_83) (va_Nw.use rfl (hG.2.1 _ t_165)) hce hcv hcl ?_
      refine lv_astore (lv' := [(4, .ref q9), (0, .ref h0), (1, .int x1), (2, .int x2), (3, .ref h3)]) hx hb dW_alarm_21 hl (by decide) rfl (fun ls hl => ?_)
      refine lv_iconst (v := 3) hx hb dW_alarm_23 (by decide +kernel) ?_
      refine W.widen (k := mc) (n := ms) (by omega) (by omega) ?_
      exact W.iret hx hb hr (fun t ht hW => ⟨⟨_, _, rfl, hw, zB_of ht hM⟩, hS.F ht⟩) hS.2.2 dW_alarm_24
  · have hM : zP D vwCl tc A M1 H := by rw [← ht]; exact hB
    refine lv_i2l (v := (r4.toInt64)) hx hb dW_alarm_8 rfl ?_
    obtain ⟨n5, f6, h7, hi8, hw⟩ := hw
    refine z_last hx hb hK hM hS 3 3 h7 rfl hi8 dW_alarm_9 (fun H locs hM hS => ?_)
    refine lv_goto (tgt := 25) hx hb dW_alarm_10 (by decide) ?_
    refine lv_iconst (v := 0) hx hb dW_alarm_25 (by decide +kernel) ?_
    refine W.widen (k := mc) (n := ms) (by omega) (by omega) ?_
    exact W.iret hx hb hr (fun t ht hW => ⟨⟨_, _, rfl, hw, zB_of ht hM⟩, hS.F ht⟩) hS.2.2 dW_alarm_26
abbrev r_W_answer (mc ms : Nat) : Room := { frames := 9, cells := mc, slots := ms, locals := 156 }
def w_W_answer (e0 : Nat) (post : Int32 → zM → Prop) (mc : Nat) (ms : Nat) (M : zM) (h0 : Nat) (x1 : Int32) (x2 : Int32) (x3 : Int32) (h4 : Nat) : Prop := wIs M h0 0 ∧ ∃ mc2 ms3 : Nat, mc2 ≤ mc ∧ ms3 ≤ ms ∧ w_A_answer e0 (fun r4 M1 => wSJ M1 h4 3 0 (r4.toInt64) (fun M9 => post 0 M9)) (fun E9 M9 => (E9 = "java/lang/IllegalArgumentException" ∧ post 1 M9) ∨ (E9 = "java/lang/IndexOutOfBoundsException" ∧ post 2 M9) ∨ (E9 = "java/lang/IllegalStateException" ∧ post 3 M9)) mc2 ms3 M h0 x1 x2 x3
set_option maxHeartbeats 4000000 in
set_option maxRecDepth 100000 in
theorem k_W_answer {l : Launch} {D : va_G} {tc : Nat → ClassId} {A : Nat → Prop} {mc ms : Nat} {post : Int32 → zM → Prop} {M : zM} {h0 : Nat} {x1 : Int32} {x2 : Int32} {x3 : Int32} {h4 : Nat} (hst : l.stackTraces = false) (hw : w_W_answer (tc 9) post mc ms M h0 x1 x2 x3 h4) : Met l yW_answer (.codeWith yW_answer cW_answer 6 (some .int) [(0, 12, 15, 21), (0, 12, 19, 13), (0, 12, 23, 23)] :: zTB) (r_W_answer mc ms) (va_Pc [.ref h0, .int x1, .int x2, .int x3, .ref h4] (zIW D tc A M)) (va_Qi post (zB D tc A) A) mc ms A := by
  refine va_MetW (cc := cW_answer) (maxL := 6) (ret := (some .int)) (hh := [(0, 12, 15, 21), (0, 12, 19, 13), (0, 12, 23, 23)]) (by decide +kernel) rfl ?_
  intro p e s m args below meth c s₁ B hml hv
  obtain ⟨rfl, ⟨hA, hM, hG⟩, hNc⟩ := hv
  have hpre := atoms_spec (ws := .codeWith yW_answer cW_answer 6 (some .int) [(0, 12, 15, 21), (0, 12, 19, 13), (0, 12, 23, 23)] :: zTB) B.pre
  have hex := vx_table (x := yW_answer) B (hpre _ List.mem_cons_self)
  have hx := B.exec
  have hb := B.bytes
  have hr := B.returns
  have hown : s.vm.findClass R_W = some m.cls := findClass_of_methodNamed B.named
  have htb : ∀ w ∈ zTB, w.before _ s = true := fun w hw => hpre w (List.mem_cons_of_mem _ hw)
  have hlk := B.notSynchronized
  have hK := hG.1
  have hS : va_S A s.heap s.heap [] := va_S.rf
  have hl := lv_entry ([.ref h0, .int x1, .int x2, .int x3, .ref h4]) (n := 6) (Nat.le_of_ble_eq_true rfl)
  rw [lg_entry_eq]
  generalize (lg_sl ([.ref h0, .int x1, .int x2, .int x3, .ref h4]) ++ List.replicate (6 - (lg_sl ([.ref h0, .int x1, .int x2, .int x3, .ref h4])).length) Slot.unset).toArray = ls at hl ⊢
  have hl : lv_has ls 6 [(0, .ref h0), (1, .int x1), (2, .int x2), (3, .int x3), (4, .ref h4)] := hl
  refine lv_aload hx hb dW_answer_0 (lv_at hl 4 rfl) ?_
  refine lv_iconst (v := 0) hx hb dW_answer_2 (by decide +kernel) ?_
  refine lv_aload_n hx hb dW_answer_3 rfl (lv_at hl 0 rfl) ?_
  refine lv_iload_n hx hb dW_answer_4 rfl (lv_at hl 1 rfl) ?_
  refine lv_iload_n hx hb dW_answer_5 rfl (lv_at hl 2 rfl) ?_
  refine lv_iload_n hx hb dW_answer_6 rfl (lv_at hl 3 rfl) ?_
  obtain ⟨⟨fs10, h11⟩, hw⟩ := hw
  obtain ⟨mc2, ms3, hbmc2, hbms3, hw⟩ := hw
  refine vx_calli (vx_runV (As := [.int x1, .int x2, .int x3]) (rest := [.int 0, .ref h4]) ⟨hx, hb, hml, hown, htb⟩ (k_A_answer (l := l) (D := D) (tc := tc) (A := A) hst hw) (cw_W_40 htb ⟨Nat.le_of_ble_eq_true rfl, Nat.le_of_ble_eq_true rfl⟩) (z_preV hG hA hS hM h11 rfl) rfl rfl hl.1 rfl (lv_room (Nat.le_of_ble_eq_true rfl)) dW_answer_7 ⟨show 0 + mc2 ≤ mc by omega, show 0 + ms3 ≤ ms by omega⟩) hS (fun _ _ h => h) (fun _ h => h) (fun _ _ h => h) (fun E9 ce9 q9 u9 t9 H locs ht hvm hw hB _ _ hS hce hcv hcl => ?_) (fun r4 M1 t H locs ht hvm hw hB _ _ hS => ?_)
  · obtain ⟨E9, M9⟩ := u9
    obtain ⟨hE, hMx⟩ := hB
    have hE : E9 = _ := hE
    subst hE
    have hM : zP D vwCl tc A M9 H := by rw [← ht]; exact hMx
    rcases hw with ⟨hE, hw⟩ | ⟨hE, hw⟩ | ⟨hE, hw⟩
    · have hE : E9 = _ := hE
      subst hE
      refine vx_catch (own := R_W) (name := "java/lang/IllegalArgumentException") hown [] ⟨0, 12, 15, 21⟩ [⟨0, 12, 19, 13⟩, ⟨0, 12, 23, 23⟩] hex (fun z hz => nomatch hz) rfl (by decide) (htb _ t_265) (va_Nw.use rfl (hG.2.1 _ t_281)) hce hcv hcl ?_
      refine lv_astore (lv' := [(5, .ref q9), (0, .ref h0), (1, .int x1), (2, .int x2), (3, .int x3), (4, .ref h4)]) hx hb dW_answer_15 hl (by decide) rfl (fun ls hl => ?_)
      refine lv_iconst (v := 1) hx hb dW_answer_17 (by decide +kernel) ?_
      refine W.widen (k := mc) (n := ms) (by omega) (by omega) ?_
      exact W.iret hx hb hr (fun t ht hW => ⟨⟨_, _, rfl, hw, zB_of ht hM⟩, hS.F ht⟩) hS.2.2 dW_answer_18
    · have hE : E9 = _ := hE
      subst hE
      refine vx_catch (own := R_W) (name := "java/lang/IndexOutOfBoundsException") hown [⟨0, 12, 15, 21⟩] ⟨0, 12, 19, 13⟩ [⟨0, 12, 23, 23⟩] hex (fun z hz => by obtain rfl := List.mem_singleton.mp hz; exact Or.inr ⟨by decide, "java/lang/IllegalArgumentException", htb _ t_265, hNc ("java/lang/IndexOutOfBoundsException", "java/lang/IllegalArgumentException") (by decide +kernel)⟩) rfl (by decide) (htb _ t_82) (va_Nw.use rfl (hG.2.1 _ t_90)) hce hcv hcl ?_
      refine lv_astore (lv' := [(5, .ref q9), (0, .ref h0), (1, .int x1), (2, .int x2), (3, .int x3), (4, .ref h4)]) hx hb dW_answer_19 hl (by decide) rfl (fun ls hl => ?_)
      refine lv_iconst (v := 2) hx hb dW_answer_21 (by decide +kernel) ?_
      refine W.widen (k := mc) (n := ms) (by omega) (by omega) ?_
      exact W.iret hx hb hr (fun t ht hW => ⟨⟨_, _, rfl, hw, zB_of ht hM⟩, hS.F ht⟩) hS.2.2 dW_answer_22
    · have hE : E9 = _ := hE
      subst hE
      refine vx_catch (own := R_W) (name := "java/lang/IllegalStateException") hown [⟨0, 12, 15, 21⟩, ⟨0, 12, 19, 13⟩] ⟨0, 12, 23, 23⟩ [] hex (fun z hz => by rcases List.mem_cons.mp hz with rfl | hz; exact Or.inr ⟨by decide, "java/lang/IllegalArgumentException", htb _ t_265, hNc ("java/lang/IllegalStateException", "java/lang/IllegalArgumentException") (by decide +kernel)⟩; obtain rfl := List.mem_singleton.mp hz; exact Or.inr ⟨by decide, "java/lang/IndexOutOfBoundsException", htb _ t_82, hNc ("java/lang/IllegalStateException", "java/lang/IndexOutOfBoundsException") (by decide +kernel)⟩) rfl (by decide) (htb _ t_266) (va_Nw.use rfl (hG.2.1 _ t_311)) hce hcv hcl ?_
      refine lv_astore (lv' := [(5, .ref q9), (0, .ref h0), (1, .int x1), (2, .int x2), (3, .int x3), (4, .ref h4)]) hx hb dW_answer_23 hl (by decide) rfl (fun ls hl => ?_)
      refine lv_iconst (v := 3) hx hb dW_answer_25 (by decide +kernel) ?_
      refine W.widen (k := mc) (n := ms) (by omega) (by omega) ?_
      exact W.iret hx hb hr (fun t ht hW => ⟨⟨_, _, rfl, hw, zB_of ht hM⟩, hS.F ht⟩) hS.2.2 dW_answer_26
  · have hM : zP D vwCl tc A M1 H := by rw [← ht]; exact hB
    refine lv_i2l (v := (r4.toInt64)) hx hb dW_answer_10 rfl ?_
    obtain ⟨n5, f6, h7, hi8, hw⟩ := hw
    refine z_last hx hb hK hM hS 3 3 h7 rfl hi8 dW_answer_11 (fun H locs hM hS => ?_)
    refine lv_goto (tgt := 27) hx hb dW_answer_12 (by decide) ?_
    refine lv_iconst (v := 0) hx hb dW_answer_27 (by decide +kernel) ?_
    refine W.widen (k := mc) (n := ms) (by omega) (by omega) ?_
    exact W.iret hx hb hr (fun t ht hW => ⟨⟨_, _, rfl, hw, zB_of ht hM⟩, hS.F ht⟩) hS.2.2 dW_answer_28
abbrev r_W_tick (mc ms : Nat) : Room := { frames := 12, cells := mc, slots := ms, locals := 287 }
def w_W_tick (e0 : Nat) (post : Int32 → zM → Prop) (mc : Nat) (ms : Nat) (M : zM) (h0 : Nat) (x1 : Int32) (h2 : Nat) : Prop := wIs M h0 0 ∧ ∃ mc2 ms3 : Nat, mc2 ≤ mc ∧ ms3 ≤ ms ∧ w_A_tick e0 (fun r4 M1 => wSJ M1 h2 3 0 (r4.toInt64) (fun M9 => post 0 M9)) (fun E9 M9 => (E9 = "java/lang/IndexOutOfBoundsException" ∧ post 1 M9)) mc2 ms3 M h0 x1
set_option maxHeartbeats 4000000 in
set_option maxRecDepth 100000 in
theorem k_W_tick {l : Launch} {D : va_G} {tc : Nat → ClassId} {A : Nat → Prop} {mc ms : Nat} {post : Int32 → zM → Prop} {M : zM} {h0 : Nat} {x1 : Int32} {h2 : Nat} (hst : l.stackTraces = false) (hw : w_W_tick (tc 9) post mc ms M h0 x1 h2) : Met l yW_tick (.codeWith yW_tick cW_tick 4 (some .int) [(0, 9, 12, 13)] :: zTB) (r_W_tick mc ms) (va_Pc [.ref h0, .int x1, .ref h2] (zIW D tc A M)) (va_Qi post (zB D tc A) A) mc ms A := by
  refine va_MetW (cc := cW_tick) (maxL := 4) (ret := (some .int)) (hh := [(0, 9, 12, 13)]) (by decide +kernel) rfl ?_
  intro p e s m args below meth c s₁ B hml hv
  obtain ⟨rfl, ⟨hA, hM, hG⟩, hNc⟩ := hv
  have hpre := atoms_spec (ws := .codeWith yW_tick cW_tick 4 (some .int) [(0, 9, 12, 13)] :: zTB) B.pre
  have hex := vx_table (x := yW_tick) B (hpre _ List.mem_cons_self)
  have hx := B.exec
  have hb := B.bytes
  have hr := B.returns
  have hown : s.vm.findClass R_W = some m.cls := findClass_of_methodNamed B.named
  have htb : ∀ w ∈ zTB, w.before _ s = true := fun w hw => hpre w (List.mem_cons_of_mem _ hw)
  have hlk := B.notSynchronized
  have hK := hG.1
  have hS : va_S A s.heap s.heap [] := va_S.rf
  have hl := lv_entry ([.ref h0, .int x1, .ref h2]) (n := 4) (Nat.le_of_ble_eq_true rfl)
  rw [lg_entry_eq]
  generalize (lg_sl ([.ref h0, .int x1, .ref h2]) ++ List.replicate (4 - (lg_sl ([.ref h0, .int x1, .ref h2])).length) Slot.unset).toArray = ls at hl ⊢
  have hl : lv_has ls 4 [(0, .ref h0), (1, .int x1), (2, .ref h2)] := hl
  refine lv_aload_n hx hb dW_tick_0 rfl (lv_at hl 2 rfl) ?_
  refine lv_iconst (v := 0) hx hb dW_tick_1 (by decide +kernel) ?_
  refine lv_aload_n hx hb dW_tick_2 rfl (lv_at hl 0 rfl) ?_
  refine lv_iload_n hx hb dW_tick_3 rfl (lv_at hl 1 rfl) ?_
  obtain ⟨⟨fs10, h11⟩, hw⟩ := hw
  obtain ⟨mc2, ms3, hbmc2, hbms3, hw⟩ := hw
  refine vx_calli (vx_runV (As := [.int x1]) (rest := [.int 0, .ref h2]) ⟨hx, hb, hml, hown, htb⟩ (k_A_tick (l := l) (D := D) (tc := tc) (A := A) hst hw) (cw_W_44 htb ⟨Nat.le_of_ble_eq_true rfl, Nat.le_of_ble_eq_true rfl⟩) (z_preV hG hA hS hM h11 rfl) rfl rfl hl.1 rfl (lv_room (Nat.le_of_ble_eq_true rfl)) dW_tick_4 ⟨show 0 + mc2 ≤ mc by omega, show 0 + ms3 ≤ ms by omega⟩) hS (fun _ _ h => h) (fun _ h => h) (fun _ _ h => h) (fun E9 ce9 q9 u9 t9 H locs ht hvm hw hB _ _ hS hce hcv hcl => ?_) (fun r4 M1 t H locs ht hvm hw hB _ _ hS => ?_)
  · obtain ⟨E9, M9⟩ := u9
    obtain ⟨hE, hMx⟩ := hB
    have hE : E9 = _ := hE
    subst hE
    have hM : zP D vwCl tc A M9 H := by rw [← ht]; exact hMx
    obtain ⟨hE, hw⟩ := hw
    have hE : E9 = _ := hE
    subst hE
    refine vx_catch (own := R_W) (name := "java/lang/IndexOutOfBoundsException") hown [] ⟨0, 9, 12, 13⟩ [] hex (fun z hz => nomatch hz) rfl (by decide) (htb _ t_82) (va_Nw.use rfl (hG.2.1 _ t_90)) hce hcv hcl ?_
    refine lv_astore_n (lv' := [(3, .ref q9), (0, .ref h0), (1, .int x1), (2, .ref h2)]) hx hb dW_tick_12 rfl hl (by decide) rfl (fun ls hl => ?_)
    refine lv_iconst (v := 1) hx hb dW_tick_13 (by decide +kernel) ?_
    refine W.widen (k := mc) (n := ms) (by omega) (by omega) ?_
    exact W.iret hx hb hr (fun t ht hW => ⟨⟨_, _, rfl, hw, zB_of ht hM⟩, hS.F ht⟩) hS.2.2 dW_tick_14
  · have hM : zP D vwCl tc A M1 H := by rw [← ht]; exact hB
    refine lv_i2l (v := (r4.toInt64)) hx hb dW_tick_7 rfl ?_
    obtain ⟨n5, f6, h7, hi8, hw⟩ := hw
    refine z_last hx hb hK hM hS 3 3 h7 rfl hi8 dW_tick_8 (fun H locs hM hS => ?_)
    refine lv_goto (tgt := 15) hx hb dW_tick_9 (by decide) ?_
    refine lv_iconst (v := 0) hx hb dW_tick_15 (by decide +kernel) ?_
    refine W.widen (k := mc) (n := ms) (by omega) (by omega) ?_
    exact W.iret hx hb hr (fun t ht hW => ⟨⟨_, _, rfl, hw, zB_of ht hM⟩, hS.F ht⟩) hS.2.2 dW_tick_16
abbrev r_W_alarmAt (mc ms : Nat) : Room := { frames := 9, cells := mc, slots := ms, locals := 155 }
def w_W_alarmAt (e0 : Nat) (post : Int32 → zM → Prop) (mc : Nat) (ms : Nat) (M : zM) (h0 : Nat) (x1 : Int32) (x2 : Int32) (h3 : Nat) : Prop := wIs M h0 0 ∧ ∃ mc2 ms3 : Nat, mc2 ≤ mc ∧ ms3 ≤ ms ∧ w_A_alarmAt e0 (fun r4 M1 => wSJ M1 h3 3 0 (r4.toInt64) (fun M9 => post 0 M9)) (fun E9 M9 => (E9 = "java/lang/IllegalArgumentException" ∧ post 1 M9)) mc2 ms3 M h0 x1 x2
set_option maxHeartbeats 4000000 in
set_option maxRecDepth 100000 in
theorem k_W_alarmAt {l : Launch} {D : va_G} {tc : Nat → ClassId} {A : Nat → Prop} {mc ms : Nat} {post : Int32 → zM → Prop} {M : zM} {h0 : Nat} {x1 : Int32} {x2 : Int32} {h3 : Nat} (hst : l.stackTraces = false) (hw : w_W_alarmAt (tc 9) post mc ms M h0 x1 x2 h3) : Met l yW_alarmAt (.codeWith yW_alarmAt cW_alarmAt 5 (some .int) [(0, 10, 13, 21)] :: zTB) (r_W_alarmAt mc ms) (va_Pc [.ref h0, .int x1, .int x2, .ref h3] (zIW D tc A M)) (va_Qi post (zB D tc A) A) mc ms A := by
  refine va_MetW (cc := cW_alarmAt) (maxL := 5) (ret := (some .int)) (hh := [(0, 10, 13, 21)]) (by decide +kernel) rfl ?_
  intro p e s m args below meth c s₁ B hml hv
  obtain ⟨rfl, ⟨hA, hM, hG⟩, hNc⟩ := hv
  have hpre := atoms_spec (ws := .codeWith yW_alarmAt cW_alarmAt 5 (some .int) [(0, 10, 13, 21)] :: zTB) B.pre
  have hex := vx_table (x := yW_alarmAt) B (hpre _ List.mem_cons_self)
  have hx := B.exec
  have hb := B.bytes
  have hr := B.returns
  have hown : s.vm.findClass R_W = some m.cls := findClass_of_methodNamed B.named
  have htb : ∀ w ∈ zTB, w.before _ s = true := fun w hw => hpre w (List.mem_cons_of_mem _ hw)
  have hlk := B.notSynchronized
  have hK := hG.1
  have hS : va_S A s.heap s.heap [] := va_S.rf
  have hl := lv_entry ([.ref h0, .int x1, .int x2, .ref h3]) (n := 5) (Nat.le_of_ble_eq_true rfl)
  rw [lg_entry_eq]
  generalize (lg_sl ([.ref h0, .int x1, .int x2, .ref h3]) ++ List.replicate (5 - (lg_sl ([.ref h0, .int x1, .int x2, .ref h3])).length) Slot.unset).toArray = ls at hl ⊢
  have hl : lv_has ls 5 [(0, .ref h0), (1, .int x1), (2, .int x2), (3, .ref h3)] := hl
  refine lv_aload_n hx hb dW_alarmAt_0 rfl (lv_at hl 3 rfl) ?_
  refine lv_iconst (v := 0) hx hb dW_alarmAt_1 (by decide +kernel) ?_
  refine lv_aload_n hx hb dW_alarmAt_2 rfl (lv_at hl 0 rfl) ?_
  refine lv_iload_n hx hb dW_alarmAt_3 rfl (lv_at hl 1 rfl) ?_
  refine lv_iload_n hx hb dW_alarmAt_4 rfl (lv_at hl 2 rfl) ?_
  obtain ⟨⟨fs10, h11⟩, hw⟩ := hw
  obtain ⟨mc2, ms3, hbmc2, hbms3, hw⟩ := hw
  refine vx_calli (vx_runV (As := [.int x1, .int x2]) (rest := [.int 0, .ref h3]) ⟨hx, hb, hml, hown, htb⟩ (k_A_alarmAt (l := l) (D := D) (tc := tc) (A := A) hst hw) (cw_W_47 htb ⟨Nat.le_of_ble_eq_true rfl, Nat.le_of_ble_eq_true rfl⟩) (z_preV hG hA hS hM h11 rfl) rfl rfl hl.1 rfl (lv_room (Nat.le_of_ble_eq_true rfl)) dW_alarmAt_5 ⟨show 0 + mc2 ≤ mc by omega, show 0 + ms3 ≤ ms by omega⟩) hS (fun _ _ h => h) (fun _ h => h) (fun _ _ h => h) (fun E9 ce9 q9 u9 t9 H locs ht hvm hw hB _ _ hS hce hcv hcl => ?_) (fun r4 M1 t H locs ht hvm hw hB _ _ hS => ?_)
  · obtain ⟨E9, M9⟩ := u9
    obtain ⟨hE, hMx⟩ := hB
    have hE : E9 = _ := hE
    subst hE
    have hM : zP D vwCl tc A M9 H := by rw [← ht]; exact hMx
    obtain ⟨hE, hw⟩ := hw
    have hE : E9 = _ := hE
    subst hE
    refine vx_catch (own := R_W) (name := "java/lang/IllegalArgumentException") hown [] ⟨0, 10, 13, 21⟩ [] hex (fun z hz => nomatch hz) rfl (by decide) (htb _ t_265) (va_Nw.use rfl (hG.2.1 _ t_281)) hce hcv hcl ?_
    refine lv_astore (lv' := [(4, .ref q9), (0, .ref h0), (1, .int x1), (2, .int x2), (3, .ref h3)]) hx hb dW_alarmAt_13 hl (by decide) rfl (fun ls hl => ?_)
    refine lv_iconst (v := 1) hx hb dW_alarmAt_15 (by decide +kernel) ?_
    refine W.widen (k := mc) (n := ms) (by omega) (by omega) ?_
    exact W.iret hx hb hr (fun t ht hW => ⟨⟨_, _, rfl, hw, zB_of ht hM⟩, hS.F ht⟩) hS.2.2 dW_alarmAt_16
  · have hM : zP D vwCl tc A M1 H := by rw [← ht]; exact hB
    refine lv_i2l (v := (r4.toInt64)) hx hb dW_alarmAt_8 rfl ?_
    obtain ⟨n5, f6, h7, hi8, hw⟩ := hw
    refine z_last hx hb hK hM hS 3 3 h7 rfl hi8 dW_alarmAt_9 (fun H locs hM hS => ?_)
    refine lv_goto (tgt := 17) hx hb dW_alarmAt_10 (by decide) ?_
    refine lv_iconst (v := 0) hx hb dW_alarmAt_17 (by decide +kernel) ?_
    refine W.widen (k := mc) (n := ms) (by omega) (by omega) ?_
    exact W.iret hx hb hr (fun t ht hW => ⟨⟨_, _, rfl, hw, zB_of ht hM⟩, hS.F ht⟩) hS.2.2 dW_alarmAt_18
abbrev r_W_comes (mc ms : Nat) : Room := { frames := 9, cells := mc, slots := ms, locals := 155 }
def w_W_comes (e0 : Nat) (post : Int32 → zM → Prop) (mc : Nat) (ms : Nat) (M : zM) (h0 : Nat) (x1 : Int32) (x2 : Int32) (h3 : Nat) : Prop := wIs M h0 0 ∧ ∃ mc2 ms3 : Nat, mc2 ≤ mc ∧ ms3 ≤ ms ∧ w_A_comes e0 (fun r4 M1 => wSJ M1 h3 3 0 (r4.toInt64) (fun M9 => post 0 M9)) (fun E9 M9 => (E9 = "java/lang/IllegalArgumentException" ∧ post 1 M9) ∨ (E9 = "java/lang/IndexOutOfBoundsException" ∧ post 2 M9)) mc2 ms3 M h0 x1 x2
set_option maxHeartbeats 4000000 in
set_option maxRecDepth 100000 in
theorem k_W_comes {l : Launch} {D : va_G} {tc : Nat → ClassId} {A : Nat → Prop} {mc ms : Nat} {post : Int32 → zM → Prop} {M : zM} {h0 : Nat} {x1 : Int32} {x2 : Int32} {h3 : Nat} (hst : l.stackTraces = false) (hw : w_W_comes (tc 9) post mc ms M h0 x1 x2 h3) : Met l yW_comes (.codeWith yW_comes cW_comes 5 (some .int) [(0, 10, 13, 21), (0, 10, 17, 13)] :: zTB) (r_W_comes mc ms) (va_Pc [.ref h0, .int x1, .int x2, .ref h3] (zIW D tc A M)) (va_Qi post (zB D tc A) A) mc ms A := by
  refine va_MetW (cc := cW_comes) (maxL := 5) (ret := (some .int)) (hh := [(0, 10, 13, 21), (0, 10, 17, 13)]) (by decide +kernel) rfl ?_
  intro p e s m args below meth c s₁ B hml hv
  obtain ⟨rfl, ⟨hA, hM, hG⟩, hNc⟩ := hv
  have hpre := atoms_spec (ws := .codeWith yW_comes cW_comes 5 (some .int) [(0, 10, 13, 21), (0, 10, 17, 13)] :: zTB) B.pre
  have hex := vx_table (x := yW_comes) B (hpre _ List.mem_cons_self)
  have hx := B.exec
  have hb := B.bytes
  have hr := B.returns
  have hown : s.vm.findClass R_W = some m.cls := findClass_of_methodNamed B.named
  have htb : ∀ w ∈ zTB, w.before _ s = true := fun w hw => hpre w (List.mem_cons_of_mem _ hw)
  have hlk := B.notSynchronized
  have hK := hG.1
  have hS : va_S A s.heap s.heap [] := va_S.rf
  have hl := lv_entry ([.ref h0, .int x1, .int x2, .ref h3]) (n := 5) (Nat.le_of_ble_eq_true rfl)
  rw [lg_entry_eq]
  generalize (lg_sl ([.ref h0, .int x1, .int x2, .ref h3]) ++ List.replicate (5 - (lg_sl ([.ref h0, .int x1, .int x2, .ref h3])).length) Slot.unset).toArray = ls at hl ⊢
  have hl : lv_has ls 5 [(0, .ref h0), (1, .int x1), (2, .int x2), (3, .ref h3)] := hl
  refine lv_aload_n hx hb dW_comes_0 rfl (lv_at hl 3 rfl) ?_
  refine lv_iconst (v := 0) hx hb dW_comes_1 (by decide +kernel) ?_
  refine lv_aload_n hx hb dW_comes_2 rfl (lv_at hl 0 rfl) ?_
  refine lv_iload_n hx hb dW_comes_3 rfl (lv_at hl 1 rfl) ?_
  refine lv_iload_n hx hb dW_comes_4 rfl (lv_at hl 2 rfl) ?_
  obtain ⟨⟨fs10, h11⟩, hw⟩ := hw
  obtain ⟨mc2, ms3, hbmc2, hbms3, hw⟩ := hw
  refine vx_calli (vx_runV (As := [.int x1, .int x2]) (rest := [.int 0, .ref h3]) ⟨hx, hb, hml, hown, htb⟩ (k_A_comes (l := l) (D := D) (tc := tc) (A := A) hst hw) (cw_W_50 htb ⟨Nat.le_of_ble_eq_true rfl, Nat.le_of_ble_eq_true rfl⟩) (z_preV hG hA hS hM h11 rfl) rfl rfl hl.1 rfl (lv_room (Nat.le_of_ble_eq_true rfl)) dW_comes_5 ⟨show 0 + mc2 ≤ mc by omega, show 0 + ms3 ≤ ms by omega⟩) hS (fun _ _ h => h) (fun _ h => h) (fun _ _ h => h) (fun E9 ce9 q9 u9 t9 H locs ht hvm hw hB _ _ hS hce hcv hcl => ?_) (fun r4 M1 t H locs ht hvm hw hB _ _ hS => ?_)
  · obtain ⟨E9, M9⟩ := u9
    obtain ⟨hE, hMx⟩ := hB
    have hE : E9 = _ := hE
    subst hE
    have hM : zP D vwCl tc A M9 H := by rw [← ht]; exact hMx
    rcases hw with ⟨hE, hw⟩ | ⟨hE, hw⟩
    · have hE : E9 = _ := hE
      subst hE
      refine vx_catch (own := R_W) (name := "java/lang/IllegalArgumentException") hown [] ⟨0, 10, 13, 21⟩ [⟨0, 10, 17, 13⟩] hex (fun z hz => nomatch hz) rfl (by decide) (htb _ t_265) (va_Nw.use rfl (hG.2.1 _ t_281)) hce hcv hcl ?_
      refine lv_astore (lv' := [(4, .ref q9), (0, .ref h0), (1, .int x1), (2, .int x2), (3, .ref h3)]) hx hb dW_comes_13 hl (by decide) rfl (fun ls hl => ?_)
      refine lv_iconst (v := 1) hx hb dW_comes_15 (by decide +kernel) ?_
      refine W.widen (k := mc) (n := ms) (by omega) (by omega) ?_
      exact W.iret hx hb hr (fun t ht hW => ⟨⟨_, _, rfl, hw, zB_of ht hM⟩, hS.F ht⟩) hS.2.2 dW_comes_16
    · have hE : E9 = _ := hE
      subst hE
      refine vx_catch (own := R_W) (name := "java/lang/IndexOutOfBoundsException") hown [⟨0, 10, 13, 21⟩] ⟨0, 10, 17, 13⟩ [] hex (fun z hz => by obtain rfl := List.mem_singleton.mp hz; exact Or.inr ⟨by decide, "java/lang/IllegalArgumentException", htb _ t_265, hNc ("java/lang/IndexOutOfBoundsException", "java/lang/IllegalArgumentException") (by decide +kernel)⟩) rfl (by decide) (htb _ t_82) (va_Nw.use rfl (hG.2.1 _ t_90)) hce hcv hcl ?_
      refine lv_astore (lv' := [(4, .ref q9), (0, .ref h0), (1, .int x1), (2, .int x2), (3, .ref h3)]) hx hb dW_comes_17 hl (by decide) rfl (fun ls hl => ?_)
      refine lv_iconst (v := 2) hx hb dW_comes_19 (by decide +kernel) ?_
      refine W.widen (k := mc) (n := ms) (by omega) (by omega) ?_
      exact W.iret hx hb hr (fun t ht hW => ⟨⟨_, _, rfl, hw, zB_of ht hM⟩, hS.F ht⟩) hS.2.2 dW_comes_20
  · have hM : zP D vwCl tc A M1 H := by rw [← ht]; exact hB
    refine lv_i2l (v := (r4.toInt64)) hx hb dW_comes_8 rfl ?_
    obtain ⟨n5, f6, h7, hi8, hw⟩ := hw
    refine z_last hx hb hK hM hS 3 3 h7 rfl hi8 dW_comes_9 (fun H locs hM hS => ?_)
    refine lv_goto (tgt := 21) hx hb dW_comes_10 (by decide) ?_
    refine lv_iconst (v := 0) hx hb dW_comes_21 (by decide +kernel) ?_
    refine W.widen (k := mc) (n := ms) (by omega) (by omega) ?_
    exact W.iret hx hb hr (fun t ht hW => ⟨⟨_, _, rfl, hw, zB_of ht hM⟩, hS.F ht⟩) hS.2.2 dW_comes_22
abbrev r_W_reached (mc ms : Nat) : Room := { frames := 9, cells := mc, slots := ms, locals := 155 }
def w_W_reached (e0 : Nat) (post : Int32 → zM → Prop) (mc : Nat) (ms : Nat) (M : zM) (h0 : Nat) (x1 : Int32) (x2 : Int32) (h3 : Nat) : Prop := wIs M h0 0 ∧ ∃ mc2 ms3 : Nat, mc2 ≤ mc ∧ ms3 ≤ ms ∧ w_A_reached e0 (fun r4 M1 => wSJ M1 h3 3 0 (r4.toInt64) (fun M9 => post 0 M9)) (fun E9 M9 => (E9 = "java/lang/IllegalArgumentException" ∧ post 1 M9)) mc2 ms3 M h0 x1 x2
set_option maxHeartbeats 4000000 in
set_option maxRecDepth 100000 in
theorem k_W_reached {l : Launch} {D : va_G} {tc : Nat → ClassId} {A : Nat → Prop} {mc ms : Nat} {post : Int32 → zM → Prop} {M : zM} {h0 : Nat} {x1 : Int32} {x2 : Int32} {h3 : Nat} (hst : l.stackTraces = false) (hw : w_W_reached (tc 9) post mc ms M h0 x1 x2 h3) : Met l yW_reached (.codeWith yW_reached cW_reached 5 (some .int) [(0, 10, 13, 21)] :: zTB) (r_W_reached mc ms) (va_Pc [.ref h0, .int x1, .int x2, .ref h3] (zIW D tc A M)) (va_Qi post (zB D tc A) A) mc ms A := by
  refine va_MetW (cc := cW_reached) (maxL := 5) (ret := (some .int)) (hh := [(0, 10, 13, 21)]) (by decide +kernel) rfl ?_
  intro p e s m args below meth c s₁ B hml hv
  obtain ⟨rfl, ⟨hA, hM, hG⟩, hNc⟩ := hv
  have hpre := atoms_spec (ws := .codeWith yW_reached cW_reached 5 (some .int) [(0, 10, 13, 21)] :: zTB) B.pre
  have hex := vx_table (x := yW_reached) B (hpre _ List.mem_cons_self)
  have hx := B.exec
  have hb := B.bytes
  have hr := B.returns
  have hown : s.vm.findClass R_W = some m.cls := findClass_of_methodNamed B.named
  have htb : ∀ w ∈ zTB, w.before _ s = true := fun w hw => hpre w (List.mem_cons_of_mem _ hw)
  have hlk := B.notSynchronized
  have hK := hG.1
  have hS : va_S A s.heap s.heap [] := va_S.rf
  have hl := lv_entry ([.ref h0, .int x1, .int x2, .ref h3]) (n := 5) (Nat.le_of_ble_eq_true rfl)
  rw [lg_entry_eq]
  generalize (lg_sl ([.ref h0, .int x1, .int x2, .ref h3]) ++ List.replicate (5 - (lg_sl ([.ref h0, .int x1, .int x2, .ref h3])).length) Slot.unset).toArray = ls at hl ⊢
  have hl : lv_has ls 5 [(0, .ref h0), (1, .int x1), (2, .int x2), (3, .ref h3)] := hl
  refine lv_aload_n hx hb dW_reached_0 rfl (lv_at hl 3 rfl) ?_
  refine lv_iconst (v := 0) hx hb dW_reached_1 (by decide +kernel) ?_
  refine lv_aload_n hx hb dW_reached_2 rfl (lv_at hl 0 rfl) ?_
  refine lv_iload_n hx hb dW_reached_3 rfl (lv_at hl 1 rfl) ?_
  refine lv_iload_n hx hb dW_reached_4 rfl (lv_at hl 2 rfl) ?_
  obtain ⟨⟨fs10, h11⟩, hw⟩ := hw
  obtain ⟨mc2, ms3, hbmc2, hbms3, hw⟩ := hw
  refine vx_calli (vx_runV (As := [.int x1, .int x2]) (rest := [.int 0, .ref h3]) ⟨hx, hb, hml, hown, htb⟩ (k_A_reached (l := l) (D := D) (tc := tc) (A := A) hst hw) (cw_W_53 htb ⟨Nat.le_of_ble_eq_true rfl, Nat.le_of_ble_eq_true rfl⟩) (z_preV hG hA hS hM h11 rfl) rfl rfl hl.1 rfl (lv_room (Nat.le_of_ble_eq_true rfl)) dW_reached_5 ⟨show 0 + mc2 ≤ mc by omega, show 0 + ms3 ≤ ms by omega⟩) hS (fun _ _ h => h) (fun _ h => h) (fun _ _ h => h) (fun E9 ce9 q9 u9 t9 H locs ht hvm hw hB _ _ hS hce hcv hcl => ?_) (fun r4 M1 t H locs ht hvm hw hB _ _ hS => ?_)
  · obtain ⟨E9, M9⟩ := u9
    obtain ⟨hE, hMx⟩ := hB
    have hE : E9 = _ := hE
    subst hE
    have hM : zP D vwCl tc A M9 H := by rw [← ht]; exact hMx
    obtain ⟨hE, hw⟩ := hw
    have hE : E9 = _ := hE
    subst hE
    refine vx_catch (own := R_W) (name := "java/lang/IllegalArgumentException") hown [] ⟨0, 10, 13, 21⟩ [] hex (fun z hz => nomatch hz) rfl (by decide) (htb _ t_265) (va_Nw.use rfl (hG.2.1 _ t_281)) hce hcv hcl ?_
    refine lv_astore (lv' := [(4, .ref q9), (0, .ref h0), (1, .int x1), (2, .int x2), (3, .ref h3)]) hx hb dW_reached_13 hl (by decide) rfl (fun ls hl => ?_)
    refine lv_iconst (v := 1) hx hb dW_reached_15 (by decide +kernel) ?_
    refine W.widen (k := mc) (n := ms) (by omega) (by omega) ?_
    exact W.iret hx hb hr (fun t ht hW => ⟨⟨_, _, rfl, hw, zB_of ht hM⟩, hS.F ht⟩) hS.2.2 dW_reached_16
  · have hM : zP D vwCl tc A M1 H := by rw [← ht]; exact hB
    refine lv_i2l (v := (r4.toInt64)) hx hb dW_reached_8 rfl ?_
    obtain ⟨n5, f6, h7, hi8, hw⟩ := hw
    refine z_last hx hb hK hM hS 3 3 h7 rfl hi8 dW_reached_9 (fun H locs hM hS => ?_)
    refine lv_goto (tgt := 17) hx hb dW_reached_10 (by decide) ?_
    refine lv_iconst (v := 0) hx hb dW_reached_17 (by decide +kernel) ?_
    refine W.widen (k := mc) (n := ms) (by omega) (by omega) ?_
    exact W.iret hx hb hr (fun t ht hW => ⟨⟨_, _, rfl, hw, zB_of ht hM⟩, hS.F ht⟩) hS.2.2 dW_reached_18
abbrev r_W_share (mc ms : Nat) : Room := { frames := 9, cells := mc, slots := ms, locals := 156 }
def w_W_share (e0 : Nat) (post : Int32 → zM → Prop) (mc : Nat) (ms : Nat) (M : zM) (h0 : Nat) (x1 : Int32) (x2 : Int32) (h3 : Nat) : Prop := wIs M h0 0 ∧ ∃ mc2 ms3 : Nat, mc2 ≤ mc ∧ ms3 ≤ ms ∧ w_A_share e0 (fun r4 M1 => wSJ M1 h3 3 0 (r4.toInt64) (fun M9 => post 0 M9)) (fun E9 M9 => (E9 = "java/lang/IllegalArgumentException" ∧ post 1 M9) ∨ (E9 = "java/lang/ArithmeticException" ∧ post 2 M9)) mc2 ms3 M h0 x1 x2
set_option maxHeartbeats 4000000 in
set_option maxRecDepth 100000 in
theorem k_W_share {l : Launch} {D : va_G} {tc : Nat → ClassId} {A : Nat → Prop} {mc ms : Nat} {post : Int32 → zM → Prop} {M : zM} {h0 : Nat} {x1 : Int32} {x2 : Int32} {h3 : Nat} (hst : l.stackTraces = false) (hw : w_W_share (tc 9) post mc ms M h0 x1 x2 h3) : Met l yW_share (.codeWith yW_share cW_share 5 (some .int) [(0, 10, 13, 21), (0, 10, 17, 59)] :: zTB) (r_W_share mc ms) (va_Pc [.ref h0, .int x1, .int x2, .ref h3] (zIW D tc A M)) (va_Qi post (zB D tc A) A) mc ms A := by
  refine va_MetW (cc := cW_share) (maxL := 5) (ret := (some .int)) (hh := [(0, 10, 13, 21), (0, 10, 17, 59)]) (by decide +kernel) rfl ?_
  intro p e s m args below meth c s₁ B hml hv
  obtain ⟨rfl, ⟨hA, hM, hG⟩, hNc⟩ := hv
  have hpre := atoms_spec (ws := .codeWith yW_share cW_share 5 (some .int) [(0, 10, 13, 21), (0, 10, 17, 59)] :: zTB) B.pre
  have hex := vx_table (x := yW_share) B (hpre _ List.mem_cons_self)
  have hx := B.exec
  have hb := B.bytes
  have hr := B.returns
  have hown : s.vm.findClass R_W = some m.cls := findClass_of_methodNamed B.named
  have htb : ∀ w ∈ zTB, w.before _ s = true := fun w hw => hpre w (List.mem_cons_of_mem _ hw)
  have hlk := B.notSynchronized
  have hK := hG.1
  have hS : va_S A s.heap s.heap [] := va_S.rf
  have hl := lv_entry ([.ref h0, .int x1, .int x2, .ref h3]) (n := 5) (Nat.le_of_ble_eq_true rfl)
  rw [lg_entry_eq]
  generalize (lg_sl ([.ref h0, .int x1, .int x2, .ref h3]) ++ List.replicate (5 - (lg_sl ([.ref h0, .int x1, .int x2, .ref h3])).length) Slot.unset).toArray = ls at hl ⊢
  have hl : lv_has ls 5 [(0, .ref h0), (1, .int x1), (2, .int x2), (3, .ref h3)] := hl
  refine lv_aload_n hx hb dW_share_0 rfl (lv_at hl 3 rfl) ?_
  refine lv_iconst (v := 0) hx hb dW_share_1 (by decide +kernel) ?_
  refine lv_aload_n hx hb dW_share_2 rfl (lv_at hl 0 rfl) ?_
  refine lv_iload_n hx hb dW_share_3 rfl (lv_at hl 1 rfl) ?_
  refine lv_iload_n hx hb dW_share_4 rfl (lv_at hl 2 rfl) ?_
  obtain ⟨⟨fs10, h11⟩, hw⟩ := hw
  obtain ⟨mc2, ms3, hbmc2, hbms3, hw⟩ := hw
  refine vx_calli (vx_runV (As := [.int x1, .int x2]) (rest := [.int 0, .ref h3]) ⟨hx, hb, hml, hown, htb⟩ (k_A_share (l := l) (D := D) (tc := tc) (A := A) hst hw) (cw_W_56 htb ⟨Nat.le_of_ble_eq_true rfl, Nat.le_of_ble_eq_true rfl⟩) (z_preV hG hA hS hM h11 rfl) rfl rfl hl.1 rfl (lv_room (Nat.le_of_ble_eq_true rfl)) dW_share_5 ⟨show 0 + mc2 ≤ mc by omega, show 0 + ms3 ≤ ms by omega⟩) hS (fun _ _ h => h) (fun _ h => h) (fun _ _ h => h) (fun E9 ce9 q9 u9 t9 H locs ht hvm hw hB _ _ hS hce hcv hcl => ?_) (fun r4 M1 t H locs ht hvm hw hB _ _ hS => ?_)
  · obtain ⟨E9, M9⟩ := u9
    obtain ⟨hE, hMx⟩ := hB
    have hE : E9 = _ := hE
    subst hE
    have hM : zP D vwCl tc A M9 H := by rw [← ht]; exact hMx
    rcases hw with ⟨hE, hw⟩ | ⟨hE, hw⟩
    · have hE : E9 = _ := hE
      subst hE
      refine vx_catch (own := R_W) (name := "java/lang/IllegalArgumentException") hown [] ⟨0, 10, 13, 21⟩ [⟨0, 10, 17, 59⟩] hex (fun z hz => nomatch hz) rfl (by decide) (htb _ t_265) (va_Nw.use rfl (hG.2.1 _ t_281)) hce hcv hcl ?_
      refine lv_astore (lv' := [(4, .ref q9), (0, .ref h0), (1, .int x1), (2, .int x2), (3, .ref h3)]) hx hb dW_share_13 hl (by decide) rfl (fun ls hl => ?_)
      refine lv_iconst (v := 1) hx hb dW_share_15 (by decide +kernel) ?_
      refine W.widen (k := mc) (n := ms) (by omega) (by omega) ?_
      exact W.iret hx hb hr (fun t ht hW => ⟨⟨_, _, rfl, hw, zB_of ht hM⟩, hS.F ht⟩) hS.2.2 dW_share_16
    · have hE : E9 = _ := hE
      subst hE
      refine vx_catch (own := R_W) (name := "java/lang/ArithmeticException") hown [⟨0, 10, 13, 21⟩] ⟨0, 10, 17, 59⟩ [] hex (fun z hz => by obtain rfl := List.mem_singleton.mp hz; exact Or.inr ⟨by decide, "java/lang/IllegalArgumentException", htb _ t_265, hNc ("java/lang/ArithmeticException", "java/lang/IllegalArgumentException") (by decide +kernel)⟩) rfl (by decide) (htb _ t_597) (va_Nw.use rfl (hG.2.1 _ t_608)) hce hcv hcl ?_
      refine lv_astore (lv' := [(4, .ref q9), (0, .ref h0), (1, .int x1), (2, .int x2), (3, .ref h3)]) hx hb dW_share_17 hl (by decide) rfl (fun ls hl => ?_)
      refine lv_iconst (v := 2) hx hb dW_share_19 (by decide +kernel) ?_
      refine W.widen (k := mc) (n := ms) (by omega) (by omega) ?_
      exact W.iret hx hb hr (fun t ht hW => ⟨⟨_, _, rfl, hw, zB_of ht hM⟩, hS.F ht⟩) hS.2.2 dW_share_20
  · have hM : zP D vwCl tc A M1 H := by rw [← ht]; exact hB
    refine lv_i2l (v := (r4.toInt64)) hx hb dW_share_8 rfl ?_
    obtain ⟨n5, f6, h7, hi8, hw⟩ := hw
    refine z_last hx hb hK hM hS 3 3 h7 rfl hi8 dW_share_9 (fun H locs hM hS => ?_)
    refine lv_goto (tgt := 21) hx hb dW_share_10 (by decide) ?_
    refine lv_iconst (v := 0) hx hb dW_share_21 (by decide +kernel) ?_
    refine W.widen (k := mc) (n := ms) (by omega) (by omega) ?_
    exact W.iret hx hb hr (fun t ht hW => ⟨⟨_, _, rfl, hw, zB_of ht hM⟩, hS.F ht⟩) hS.2.2 dW_share_22
abbrev r_W_never (mc ms : Nat) : Room := { frames := 8, cells := mc, slots := ms, locals := 133 }
def w_W_never (e0 : Nat) (post : Int32 → zM → Prop) (mc : Nat) (ms : Nat) (M : zM) (h0 : Nat) (x1 : Int32) (h2 : Nat) : Prop := wIs M h0 0 ∧ ∃ mc2 ms3 : Nat, mc2 ≤ mc ∧ ms3 ≤ ms ∧ w_A_never e0 (fun r4 M1 => wSJ M1 h2 3 0 (r4.toInt64) (fun M9 => post 0 M9)) (fun E9 M9 => (E9 = "java/lang/IndexOutOfBoundsException" ∧ post 1 M9)) mc2 ms3 M h0 x1
set_option maxHeartbeats 4000000 in
set_option maxRecDepth 100000 in
theorem k_W_never {l : Launch} {D : va_G} {tc : Nat → ClassId} {A : Nat → Prop} {mc ms : Nat} {post : Int32 → zM → Prop} {M : zM} {h0 : Nat} {x1 : Int32} {h2 : Nat} (hst : l.stackTraces = false) (hw : w_W_never (tc 9) post mc ms M h0 x1 h2) : Met l yW_never (.codeWith yW_never cW_never 4 (some .int) [(0, 9, 12, 13)] :: zTB) (r_W_never mc ms) (va_Pc [.ref h0, .int x1, .ref h2] (zIW D tc A M)) (va_Qi post (zB D tc A) A) mc ms A := by
  refine va_MetW (cc := cW_never) (maxL := 4) (ret := (some .int)) (hh := [(0, 9, 12, 13)]) (by decide +kernel) rfl ?_
  intro p e s m args below meth c s₁ B hml hv
  obtain ⟨rfl, ⟨hA, hM, hG⟩, hNc⟩ := hv
  have hpre := atoms_spec (ws := .codeWith yW_never cW_never 4 (some .int) [(0, 9, 12, 13)] :: zTB) B.pre
  have hex := vx_table (x := yW_never) B (hpre _ List.mem_cons_self)
  have hx := B.exec
  have hb := B.bytes
  have hr := B.returns
  have hown : s.vm.findClass R_W = some m.cls := findClass_of_methodNamed B.named
  have htb : ∀ w ∈ zTB, w.before _ s = true := fun w hw => hpre w (List.mem_cons_of_mem _ hw)
  have hlk := B.notSynchronized
  have hK := hG.1
  have hS : va_S A s.heap s.heap [] := va_S.rf
  have hl := lv_entry ([.ref h0, .int x1, .ref h2]) (n := 4) (Nat.le_of_ble_eq_true rfl)
  rw [lg_entry_eq]
  generalize (lg_sl ([.ref h0, .int x1, .ref h2]) ++ List.replicate (4 - (lg_sl ([.ref h0, .int x1, .ref h2])).length) Slot.unset).toArray = ls at hl ⊢
  have hl : lv_has ls 4 [(0, .ref h0), (1, .int x1), (2, .ref h2)] := hl
  refine lv_aload_n hx hb dW_never_0 rfl (lv_at hl 2 rfl) ?_
  refine lv_iconst (v := 0) hx hb dW_never_1 (by decide +kernel) ?_
  refine lv_aload_n hx hb dW_never_2 rfl (lv_at hl 0 rfl) ?_
  refine lv_iload_n hx hb dW_never_3 rfl (lv_at hl 1 rfl) ?_
  obtain ⟨⟨fs10, h11⟩, hw⟩ := hw
  obtain ⟨mc2, ms3, hbmc2, hbms3, hw⟩ := hw
  refine vx_calli (vx_runV (As := [.int x1]) (rest := [.int 0, .ref h2]) ⟨hx, hb, hml, hown, htb⟩ (k_A_never (l := l) (D := D) (tc := tc) (A := A) hst hw) (cw_W_61 htb ⟨Nat.le_of_ble_eq_true rfl, Nat.le_of_ble_eq_true rfl⟩) (z_preV hG hA hS hM h11 rfl) rfl rfl hl.1 rfl (lv_room (Nat.le_of_ble_eq_true rfl)) dW_never_4 ⟨show 0 + mc2 ≤ mc by omega, show 0 + ms3 ≤ ms by omega⟩) hS (fun _ _ h => h) (fun _ h => h) (fun _ _ h => h) (fun E9 ce9 q9 u9 t9 H locs ht hvm hw hB _ _ hS hce hcv hcl => ?_) (fun r4 M1 t H locs ht hvm hw hB _ _ hS => ?_)
  · obtain ⟨E9, M9⟩ := u9
    obtain ⟨hE, hMx⟩ := hB
    have hE : E9 = _ := hE
    subst hE
    have hM : zP D vwCl tc A M9 H := by rw [← ht]; exact hMx
    obtain ⟨hE, hw⟩ := hw
    have hE : E9 = _ := hE
    subst hE
    refine vx_catch (own := R_W) (name := "java/lang/IndexOutOfBoundsException") hown [] ⟨0, 9, 12, 13⟩ [] hex (fun z hz => nomatch hz) rfl (by decide) (htb _ t_82) (va_Nw.use rfl (hG.2.1 _ t_90)) hce hcv hcl ?_
    refine lv_astore_n (lv' := [(3, .ref q9), (0, .ref h0), (1, .int x1), (2, .ref h2)]) hx hb dW_never_12 rfl hl (by decide) rfl (fun ls hl => ?_)
    refine lv_iconst (v := 1) hx hb dW_never_13 (by decide +kernel) ?_
    refine W.widen (k := mc) (n := ms) (by omega) (by omega) ?_
    exact W.iret hx hb hr (fun t ht hW => ⟨⟨_, _, rfl, hw, zB_of ht hM⟩, hS.F ht⟩) hS.2.2 dW_never_14
  · have hM : zP D vwCl tc A M1 H := by rw [← ht]; exact hB
    refine lv_i2l (v := (r4.toInt64)) hx hb dW_never_7 rfl ?_
    obtain ⟨n5, f6, h7, hi8, hw⟩ := hw
    refine z_last hx hb hK hM hS 3 3 h7 rfl hi8 dW_never_8 (fun H locs hM hS => ?_)
    refine lv_goto (tgt := 15) hx hb dW_never_9 (by decide) ?_
    refine lv_iconst (v := 0) hx hb dW_never_15 (by decide +kernel) ?_
    refine W.widen (k := mc) (n := ms) (by omega) (by omega) ?_
    exact W.iret hx hb hr (fun t ht hW => ⟨⟨_, _, rfl, hw, zB_of ht hM⟩, hS.F ht⟩) hS.2.2 dW_never_16
abbrev r_W_count (mc ms : Nat) : Room := { frames := 7, cells := mc, slots := ms, locals := 111 }
def w_W_count (e0 : Nat) (post : Int32 → zM → Prop) (mc : Nat) (ms : Nat) (M : zM) (h0 : Nat) (x1 : Int32) (h2 : Nat) : Prop := wIs M h0 0 ∧ ∃ mc2 ms3 : Nat, mc2 ≤ mc ∧ ms3 ≤ ms ∧ w_A_count e0 (fun r4 M1 => wSJ M1 h2 3 0 (r4.toInt64) (fun M9 => post 0 M9)) (fun E9 M9 => (E9 = "java/lang/IllegalArgumentException" ∧ post 1 M9)) mc2 ms3 M h0 x1
set_option maxHeartbeats 4000000 in
set_option maxRecDepth 100000 in
theorem k_W_count {l : Launch} {D : va_G} {tc : Nat → ClassId} {A : Nat → Prop} {mc ms : Nat} {post : Int32 → zM → Prop} {M : zM} {h0 : Nat} {x1 : Int32} {h2 : Nat} (hst : l.stackTraces = false) (hw : w_W_count (tc 9) post mc ms M h0 x1 h2) : Met l yW_count (.codeWith yW_count cW_count 4 (some .int) [(0, 9, 12, 21)] :: zTB) (r_W_count mc ms) (va_Pc [.ref h0, .int x1, .ref h2] (zIW D tc A M)) (va_Qi post (zB D tc A) A) mc ms A := by
  refine va_MetW (cc := cW_count) (maxL := 4) (ret := (some .int)) (hh := [(0, 9, 12, 21)]) (by decide +kernel) rfl ?_
  intro p e s m args below meth c s₁ B hml hv
  obtain ⟨rfl, ⟨hA, hM, hG⟩, hNc⟩ := hv
  have hpre := atoms_spec (ws := .codeWith yW_count cW_count 4 (some .int) [(0, 9, 12, 21)] :: zTB) B.pre
  have hex := vx_table (x := yW_count) B (hpre _ List.mem_cons_self)
  have hx := B.exec
  have hb := B.bytes
  have hr := B.returns
  have hown : s.vm.findClass R_W = some m.cls := findClass_of_methodNamed B.named
  have htb : ∀ w ∈ zTB, w.before _ s = true := fun w hw => hpre w (List.mem_cons_of_mem _ hw)
  have hlk := B.notSynchronized
  have hK := hG.1
  have hS : va_S A s.heap s.heap [] := va_S.rf
  have hl := lv_entry ([.ref h0, .int x1, .ref h2]) (n := 4) (Nat.le_of_ble_eq_true rfl)
  rw [lg_entry_eq]
  generalize (lg_sl ([.ref h0, .int x1, .ref h2]) ++ List.replicate (4 - (lg_sl ([.ref h0, .int x1, .ref h2])).length) Slot.unset).toArray = ls at hl ⊢
  have hl : lv_has ls 4 [(0, .ref h0), (1, .int x1), (2, .ref h2)] := hl
  refine lv_aload_n hx hb dW_count_0 rfl (lv_at hl 2 rfl) ?_
  refine lv_iconst (v := 0) hx hb dW_count_1 (by decide +kernel) ?_
  refine lv_aload_n hx hb dW_count_2 rfl (lv_at hl 0 rfl) ?_
  refine lv_iload_n hx hb dW_count_3 rfl (lv_at hl 1 rfl) ?_
  obtain ⟨⟨fs10, h11⟩, hw⟩ := hw
  obtain ⟨mc2, ms3, hbmc2, hbms3, hw⟩ := hw
  refine vx_calli (vx_runV (As := [.int x1]) (rest := [.int 0, .ref h2]) ⟨hx, hb, hml, hown, htb⟩ (k_A_count (l := l) (D := D) (tc := tc) (A := A) hst hw) (cw_W_64 htb ⟨Nat.le_of_ble_eq_true rfl, Nat.le_of_ble_eq_true rfl⟩) (z_preV hG hA hS hM h11 rfl) rfl rfl hl.1 rfl (lv_room (Nat.le_of_ble_eq_true rfl)) dW_count_4 ⟨show 0 + mc2 ≤ mc by omega, show 0 + ms3 ≤ ms by omega⟩) hS (fun _ _ h => h) (fun _ h => h) (fun _ _ h => h) (fun E9 ce9 q9 u9 t9 H locs ht hvm hw hB _ _ hS hce hcv hcl => ?_) (fun r4 M1 t H locs ht hvm hw hB _ _ hS => ?_)
  · obtain ⟨E9, M9⟩ := u9
    obtain ⟨hE, hMx⟩ := hB
    have hE : E9 = _ := hE
    subst hE
    have hM : zP D vwCl tc A M9 H := by rw [← ht]; exact hMx
    obtain ⟨hE, hw⟩ := hw
    have hE : E9 = _ := hE
    subst hE
    refine vx_catch (own := R_W) (name := "java/lang/IllegalArgumentException") hown [] ⟨0, 9, 12, 21⟩ [] hex (fun z hz => nomatch hz) rfl (by decide) (htb _ t_265) (va_Nw.use rfl (hG.2.1 _ t_281)) hce hcv hcl ?_
    refine lv_astore_n (lv' := [(3, .ref q9), (0, .ref h0), (1, .int x1), (2, .ref h2)]) hx hb dW_count_12 rfl hl (by decide) rfl (fun ls hl => ?_)
    refine lv_iconst (v := 1) hx hb dW_count_13 (by decide +kernel) ?_
    refine W.widen (k := mc) (n := ms) (by omega) (by omega) ?_
    exact W.iret hx hb hr (fun t ht hW => ⟨⟨_, _, rfl, hw, zB_of ht hM⟩, hS.F ht⟩) hS.2.2 dW_count_14
  · have hM : zP D vwCl tc A M1 H := by rw [← ht]; exact hB
    refine lv_i2l (v := (r4.toInt64)) hx hb dW_count_7 rfl ?_
    obtain ⟨n5, f6, h7, hi8, hw⟩ := hw
    refine z_last hx hb hK hM hS 3 3 h7 rfl hi8 dW_count_8 (fun H locs hM hS => ?_)
    refine lv_goto (tgt := 15) hx hb dW_count_9 (by decide) ?_
    refine lv_iconst (v := 0) hx hb dW_count_15 (by decide +kernel) ?_
    refine W.widen (k := mc) (n := ms) (by omega) (by omega) ?_
    exact W.iret hx hb hr (fun t ht hW => ⟨⟨_, _, rfl, hw, zB_of ht hM⟩, hS.F ht⟩) hS.2.2 dW_count_16
