abbrev r_M_init (mc ms : Nat) : Room := { frames := 1, cells := mc, slots := ms, locals := 40 }
def w_M_init (e0 : Nat) (post : zM → Prop) (mc : Nat) (ms : Nat) (M : zM) (h0 : Nat) : Prop := wNA M 0 12 12 4 mc ms (fun q1 M7 => wPF M7 h0 4 3 (.ref q1) (fun M11 => wNA M11 0 12 12 4 (mc - 1) (ms - 12) (fun q12 M18 => wPF M18 h0 4 4 (.ref q12) (fun M22 => wNA M22 0 12 12 4 ((mc - 1) - 1) ((ms - 12) - 12) (fun q23 M29 => wPF M29 h0 4 5 (.ref q23) (fun M33 => wNA M33 0 60 60 4 (((mc - 1) - 1) - 1) (((ms - 12) - 12) - 12) (fun q34 M40 => wPF M40 h0 4 7 (.ref q34) (fun M44 => wNA M44 0 60 60 4 ((((mc - 1) - 1) - 1) - 1) ((((ms - 12) - 12) - 12) - 60) (fun q45 M51 => wPF M51 h0 4 8 (.ref q45) (fun M55 => wNA M55 0 180 180 4 (((((mc - 1) - 1) - 1) - 1) - 1) (((((ms - 12) - 12) - 12) - 60) - 60) (fun q56 M62 => wPF M62 h0 4 9 (.ref q56) (fun M66 => wNA M66 1 180 180 1 ((((((mc - 1) - 1) - 1) - 1) - 1) - 1) ((((((ms - 12) - 12) - 12) - 60) - 60) - 180) (fun q67 M73 => wPF M73 h0 4 10 (.ref q67) (fun M77 => wNA M77 0 60 60 4 (((((((mc - 1) - 1) - 1) - 1) - 1) - 1) - 1) (((((((ms - 12) - 12) - 12) - 60) - 60) - 180) - 180) (fun q78 M84 => wPF M84 h0 4 11 (.ref q78) (fun M88 => wNA M88 0 60 60 4 ((((((((mc - 1) - 1) - 1) - 1) - 1) - 1) - 1) - 1) ((((((((ms - 12) - 12) - 12) - 60) - 60) - 180) - 180) - 60) (fun q89 M95 => wPF M95 h0 4 13 (.ref q89) (fun M99 => wNA M99 1 60 60 1 (((((((((mc - 1) - 1) - 1) - 1) - 1) - 1) - 1) - 1) - 1) (((((((((ms - 12) - 12) - 12) - 60) - 60) - 180) - 180) - 60) - 60) (fun q100 M106 => wPF M106 h0 4 14 (.ref q100) (fun M110 => wNA M110 0 60 60 4 ((((((((((mc - 1) - 1) - 1) - 1) - 1) - 1) - 1) - 1) - 1) - 1) ((((((((((ms - 12) - 12) - 12) - 60) - 60) - 180) - 180) - 60) - 60) - 60) (fun q111 M117 => wPF M117 h0 4 15 (.ref q111) (fun M121 => wNA M121 0 60 60 4 (((((((((((mc - 1) - 1) - 1) - 1) - 1) - 1) - 1) - 1) - 1) - 1) - 1) (((((((((((ms - 12) - 12) - 12) - 60) - 60) - 180) - 180) - 60) - 60) - 60) - 60) (fun q122 M128 => wPF M128 h0 4 16 (.ref q122) (fun M132 => wNA M132 0 60 60 4 ((((((((((((mc - 1) - 1) - 1) - 1) - 1) - 1) - 1) - 1) - 1) - 1) - 1) - 1) ((((((((((((ms - 12) - 12) - 12) - 60) - 60) - 180) - 180) - 60) - 60) - 60) - 60) - 60) (fun q133 M139 => wPF M139 h0 4 17 (.ref q133) (fun M143 => wNA M143 1 3600 3600 1 (((((((((((((mc - 1) - 1) - 1) - 1) - 1) - 1) - 1) - 1) - 1) - 1) - 1) - 1) - 1) (((((((((((((ms - 12) - 12) - 12) - 60) - 60) - 180) - 180) - 60) - 60) - 60) - 60) - 60) - 60) (fun q144 M150 => wPF M150 h0 4 18 (.ref q144) (fun M154 => wNA M154 0 3600 3600 4 ((((((((((((((mc - 1) - 1) - 1) - 1) - 1) - 1) - 1) - 1) - 1) - 1) - 1) - 1) - 1) - 1) ((((((((((((((ms - 12) - 12) - 12) - 60) - 60) - 180) - 180) - 60) - 60) - 60) - 60) - 60) - 60) - 3600) (fun q155 M161 => wPF M161 h0 4 19 (.ref q155) (fun M165 => wNA M165 0 3600 3600 4 (((((((((((((((mc - 1) - 1) - 1) - 1) - 1) - 1) - 1) - 1) - 1) - 1) - 1) - 1) - 1) - 1) - 1) (((((((((((((((ms - 12) - 12) - 12) - 60) - 60) - 180) - 180) - 60) - 60) - 60) - 60) - 60) - 60) - 3600) - 3600) (fun q166 M172 => wPF M172 h0 4 20 (.ref q166) (fun M176 => wNA M176 0 3600 3600 4 ((((((((((((((((mc - 1) - 1) - 1) - 1) - 1) - 1) - 1) - 1) - 1) - 1) - 1) - 1) - 1) - 1) - 1) - 1) ((((((((((((((((ms - 12) - 12) - 12) - 60) - 60) - 180) - 180) - 60) - 60) - 60) - 60) - 60) - 60) - 3600) - 3600) - 3600) (fun q177 M183 => wPF M183 h0 4 21 (.ref q177) (fun M187 => post M187))))))))))))))))))))))))))))))))))
set_option maxHeartbeats 4000000 in
set_option maxRecDepth 100000 in
theorem k_M_init {l : Launch} {D : va_G} {tc : Nat → ClassId} {A : Nat → Prop} {mc ms : Nat} {post : zM → Prop} {M : zM} {h0 : Nat} (hw : w_M_init (tc 9) post mc ms M h0) : Met l yM_init (.code yM_init cM_init 1 none :: zTB) (r_M_init mc ms) (va_Pc [.ref h0] (zI D tc A M)) (va_Qv post (zB D tc A) A) mc ms A := by
  refine Met.ofW (cc := cM_init) (maxL := 1) (ret := none) (by decide +kernel) rfl ?_
  intro p e s m args below meth c s₁ B hml hv
  obtain ⟨rfl, hA, hM, hG⟩ := hv
  have C0 := zC_of (D := D) (tc := tc) (A := A) B hml (zC_ex B) hA hG
  obtain ⟨hx, hb, hml, hr, hown, htb, hlk, hA, hG, hin, hex⟩ := id C0
  have hK := hG.1
  have hS : va_S A s.heap s.heap [] := va_S.rf
  have hl := lv_entry ([.ref h0]) (n := 1) (Nat.le_of_ble_eq_true rfl)
  rw [lg_entry_eq]
  generalize (lg_sl ([.ref h0]) ++ List.replicate (1 - (lg_sl ([.ref h0])).length) Slot.unset).toArray = ls at hl ⊢
  have hl : lv_has ls 1 [(0, .ref h0)] := hl
  refine lv_aload_n hx hb dM_init_0 rfl (lv_at hl 0 rfl) ?_
  refine W.objInit hx hb hown (htb _ t_650) (htb _ t_29) (htb _ t_30) rfl (by rw [hml]; exact hl.1) rfl dM_init_1 (Nat.le_of_ble_eq_true rfl) (Nat.le_of_ble_eq_true rfl) ?_
  refine lv_aload_n hx hb dM_init_4 rfl (lv_at hl 0 rfl) ?_
  refine lv_bipush (v := 12) hx hb dM_init_5 (by decide +kernel) ?_
  obtain ⟨h2, h3, h4, h5, hN9, hw⟩ := hw
  refine z_newa (atype := .int) (a0 := (12, .inl (fun _ => 0))) hx hb (htb _ t_363) rfl hK hM hS hA 0 0 rfl (fun _ h => h) (fun _ => rfl) h2 hN9 h3 (show 0 + 1 ≤ mc by omega) (show 0 + 12 ≤ ms by omega) dM_init_7 (fun q1 H hn6 hM hS => ?_)
  have hw := hw q1 hn6
  obtain ⟨fs8, h9, hl10, hw⟩ := hw
  refine z_putF (ty := (.array .int)) hx hb htb inw_M ty_M tyok_M nmok_M hown hK hM hS h9 rfl 3 (by decide) (htb _ t_654) (fun _ h9 => h9) rfl hin rfl (by decide +kernel) rfl rfl hl10 dM_init_9 (fun H locs hM hS => ?_)
  refine lv_aload_n hx hb dM_init_12 rfl (lv_at hl 0 rfl) ?_
  refine lv_bipush (v := 12) hx hb dM_init_13 (by decide +kernel) ?_
  obtain ⟨h13, h14, h15, h16, hN9, hw⟩ := hw
  refine z_newa (atype := .int) (a0 := (12, .inl (fun _ => 0))) hx hb (htb _ t_363) rfl hK hM hS hA 0 0 rfl (fun _ h => h) (fun _ => rfl) h13 hN9 h14 (show (0 + 1) + 1 ≤ mc by omega) (show (0 + 12) + 12 ≤ ms by omega) dM_init_15 (fun q12 H hn17 hM hS => ?_)
  have hw := hw q12 hn17
  obtain ⟨fs19, h20, hl21, hw⟩ := hw
  refine z_putF (ty := (.array .int)) hx hb htb inw_M ty_M tyok_M nmok_M hown hK hM hS h20 rfl 4 (by decide) (htb _ t_655) (fun _ h9 => h9) rfl hin rfl (by decide +kernel) rfl rfl hl21 dM_init_17 (fun H locs hM hS => ?_)
  refine lv_aload_n hx hb dM_init_20 rfl (lv_at hl 0 rfl) ?_
  refine lv_bipush (v := 12) hx hb dM_init_21 (by decide +kernel) ?_
  obtain ⟨h24, h25, h26, h27, hN9, hw⟩ := hw
  refine z_newa (atype := .int) (a0 := (12, .inl (fun _ => 0))) hx hb (htb _ t_363) rfl hK hM hS hA 0 0 rfl (fun _ h => h) (fun _ => rfl) h24 hN9 h25 (show ((0 + 1) + 1) + 1 ≤ mc by omega) (show ((0 + 12) + 12) + 12 ≤ ms by omega) dM_init_23 (fun q23 H hn28 hM hS => ?_)
  have hw := hw q23 hn28
  obtain ⟨fs30, h31, hl32, hw⟩ := hw
  refine z_putF (ty := (.array .int)) hx hb htb inw_M ty_M tyok_M nmok_M hown hK hM hS h31 rfl 5 (by decide) (htb _ t_656) (fun _ h9 => h9) rfl hin rfl (by decide +kernel) rfl rfl hl32 dM_init_25 (fun H locs hM hS => ?_)
  refine lv_aload_n hx hb dM_init_28 rfl (lv_at hl 0 rfl) ?_
  refine lv_bipush (v := 60) hx hb dM_init_29 (by decide +kernel) ?_
  obtain ⟨h35, h36, h37, h38, hN9, hw⟩ := hw
  refine z_newa (atype := .int) (a0 := (60, .inl (fun _ => 0))) hx hb (htb _ t_363) rfl hK hM hS hA 0 0 rfl (fun _ h => h) (fun _ => rfl) h35 hN9 h36 (show (((0 + 1) + 1) + 1) + 1 ≤ mc by omega) (show (((0 + 12) + 12) + 12) + 60 ≤ ms by omega) dM_init_31 (fun q34 H hn39 hM hS => ?_)
  have hw := hw q34 hn39
  obtain ⟨fs41, h42, hl43, hw⟩ := hw
  refine z_putF (ty := (.array .int)) hx hb htb inw_M ty_M tyok_M nmok_M hown hK hM hS h42 rfl 7 (by decide) (htb _ t_658) (fun _ h9 => h9) rfl hin rfl (by decide +kernel) rfl rfl hl43 dM_init_33 (fun H locs hM hS => ?_)
  refine lv_aload_n hx hb dM_init_36 rfl (lv_at hl 0 rfl) ?_
  refine lv_bipush (v := 60) hx hb dM_init_37 (by decide +kernel) ?_
  obtain ⟨h46, h47, h48, h49, hN9, hw⟩ := hw
  refine z_newa (atype := .int) (a0 := (60, .inl (fun _ => 0))) hx hb (htb _ t_363) rfl hK hM hS hA 0 0 rfl (fun _ h => h) (fun _ => rfl) h46 hN9 h47 (show ((((0 + 1) + 1) + 1) + 1) + 1 ≤ mc by omega) (show ((((0 + 12) + 12) + 12) + 60) + 60 ≤ ms by omega) dM_init_39 (fun q45 H hn50 hM hS => ?_)
  have hw := hw q45 hn50
  obtain ⟨fs52, h53, hl54, hw⟩ := hw
  refine z_putF (ty := (.array .int)) hx hb htb inw_M ty_M tyok_M nmok_M hown hK hM hS h53 rfl 8 (by decide) (htb _ t_659) (fun _ h9 => h9) rfl hin rfl (by decide +kernel) rfl rfl hl54 dM_init_41 (fun H locs hM hS => ?_)
  refine lv_aload_n hx hb dM_init_44 rfl (lv_at hl 0 rfl) ?_
  refine lv_sipush (v := 180) hx hb dM_init_45 (by decide +kernel) ?_
  obtain ⟨h57, h58, h59, h60, hN9, hw⟩ := hw
  refine z_newa (atype := .int) (a0 := (180, .inl (fun _ => 0))) hx hb (htb _ t_363) rfl hK hM hS hA 0 0 rfl (fun _ h => h) (fun _ => rfl) h57 hN9 h58 (show (((((0 + 1) + 1) + 1) + 1) + 1) + 1 ≤ mc by omega) (show (((((0 + 12) + 12) + 12) + 60) + 60) + 180 ≤ ms by omega) dM_init_48 (fun q56 H hn61 hM hS => ?_)
  have hw := hw q56 hn61
  obtain ⟨fs63, h64, hl65, hw⟩ := hw
  refine z_putF (ty := (.array .int)) hx hb htb inw_M ty_M tyok_M nmok_M hown hK hM hS h64 rfl 9 (by decide) (htb _ t_660) (fun _ h9 => h9) rfl hin rfl (by decide +kernel) rfl rfl hl65 dM_init_50 (fun H locs hM hS => ?_)
  refine lv_aload_n hx hb dM_init_53 rfl (lv_at hl 0 rfl) ?_
  refine lv_sipush (v := 180) hx hb dM_init_54 (by decide +kernel) ?_
  obtain ⟨h68, h69, h70, h71, hN9, hw⟩ := hw
  refine z_newa (atype := .boolean) (a0 := (180, .inl (fun _ => 0))) hx hb (htb _ t_364) rfl hK hM hS hA 1 1 rfl (fun _ h => h) (fun _ => rfl) h68 hN9 h69 (show ((((((0 + 1) + 1) + 1) + 1) + 1) + 1) + 1 ≤ mc by omega) (show ((((((0 + 12) + 12) + 12) + 60) + 60) + 180) + 180 ≤ ms by omega) dM_init_57 (fun q67 H hn72 hM hS => ?_)
  have hw := hw q67 hn72
  obtain ⟨fs74, h75, hl76, hw⟩ := hw
  refine z_putF (ty := (.array .boolean)) hx hb htb inw_M ty_M tyok_M nmok_M hown hK hM hS h75 rfl 10 (by decide) (htb _ t_661) (fun _ h9 => h9) rfl hin rfl (by decide +kernel) rfl rfl hl76 dM_init_59 (fun H locs hM hS => ?_)
  refine lv_aload_n hx hb dM_init_62 rfl (lv_at hl 0 rfl) ?_
  refine lv_bipush (v := 60) hx hb dM_init_63 (by decide +kernel) ?_
  obtain ⟨h79, h80, h81, h82, hN9, hw⟩ := hw
  refine z_newa (atype := .int) (a0 := (60, .inl (fun _ => 0))) hx hb (htb _ t_363) rfl hK hM hS hA 0 0 rfl (fun _ h => h) (fun _ => rfl) h79 hN9 h80 (show (((((((0 + 1) + 1) + 1) + 1) + 1) + 1) + 1) + 1 ≤ mc by omega) (show (((((((0 + 12) + 12) + 12) + 60) + 60) + 180) + 180) + 60 ≤ ms by omega) dM_init_65 (fun q78 H hn83 hM hS => ?_)
  have hw := hw q78 hn83
  obtain ⟨fs85, h86, hl87, hw⟩ := hw
  refine z_putF (ty := (.array .int)) hx hb htb inw_M ty_M tyok_M nmok_M hown hK hM hS h86 rfl 11 (by decide) (htb _ t_662) (fun _ h9 => h9) rfl hin rfl (by decide +kernel) rfl rfl hl87 dM_init_67 (fun H locs hM hS => ?_)
  refine lv_aload_n hx hb dM_init_70 rfl (lv_at hl 0 rfl) ?_
  refine lv_bipush (v := 60) hx hb dM_init_71 (by decide +kernel) ?_
  obtain ⟨h90, h91, h92, h93, hN9, hw⟩ := hw
  refine z_newa (atype := .int) (a0 := (60, .inl (fun _ => 0))) hx hb (htb _ t_363) rfl hK hM hS hA 0 0 rfl (fun _ h => h) (fun _ => rfl) h90 hN9 h91 (show ((((((((0 + 1) + 1) + 1) + 1) + 1) + 1) + 1) + 1) + 1 ≤ mc by omega) (show ((((((((0 + 12) + 12) + 12) + 60) + 60) + 180) + 180) + 60) + 60 ≤ ms by omega) dM_init_73 (fun q89 H hn94 hM hS => ?_)
  have hw := hw q89 hn94
  obtain ⟨fs96, h97, hl98, hw⟩ := hw
  refine z_putF (ty := (.array .int)) hx hb htb inw_M ty_M tyok_M nmok_M hown hK hM hS h97 rfl 13 (by decide) (htb _ t_664) (fun _ h9 => h9) rfl hin rfl (by decide +kernel) rfl rfl hl98 dM_init_75 (fun H locs hM hS => ?_)
  refine lv_aload_n hx hb dM_init_78 rfl (lv_at hl 0 rfl) ?_
  refine lv_bipush (v := 60) hx hb dM_init_79 (by decide +kernel) ?_
  obtain ⟨h101, h102, h103, h104, hN9, hw⟩ := hw
  refine z_newa (atype := .boolean) (a0 := (60, .inl (fun _ => 0))) hx hb (htb _ t_364) rfl hK hM hS hA 1 1 rfl (fun _ h => h) (fun _ => rfl) h101 hN9 h102 (show (((((((((0 + 1) + 1) + 1) + 1) + 1) + 1) + 1) + 1) + 1) + 1 ≤ mc by omega) (show (((((((((0 + 12) + 12) + 12) + 60) + 60) + 180) + 180) + 60) + 60) + 60 ≤ ms by omega) dM_init_81 (fun q100 H hn105 hM hS => ?_)
  have hw := hw q100 hn105
  obtain ⟨fs107, h108, hl109, hw⟩ := hw
  refine z_putF (ty := (.array .boolean)) hx hb htb inw_M ty_M tyok_M nmok_M hown hK hM hS h108 rfl 14 (by decide) (htb _ t_665) (fun _ h9 => h9) rfl hin rfl (by decide +kernel) rfl rfl hl109 dM_init_83 (fun H locs hM hS => ?_)
  refine lv_aload_n hx hb dM_init_86 rfl (lv_at hl 0 rfl) ?_
  refine lv_bipush (v := 60) hx hb dM_init_87 (by decide +kernel) ?_
  obtain ⟨h112, h113, h114, h115, hN9, hw⟩ := hw
  refine z_newa (atype := .int) (a0 := (60, .inl (fun _ => 0))) hx hb (htb _ t_363) rfl hK hM hS hA 0 0 rfl (fun _ h => h) (fun _ => rfl) h112 hN9 h113 (show ((((((((((0 + 1) + 1) + 1) + 1) + 1) + 1) + 1) + 1) + 1) + 1) + 1 ≤ mc by omega) (show ((((((((((0 + 12) + 12) + 12) + 60) + 60) + 180) + 180) + 60) + 60) + 60) + 60 ≤ ms by omega) dM_init_89 (fun q111 H hn116 hM hS => ?_)
  have hw := hw q111 hn116
  obtain ⟨fs118, h119, hl120, hw⟩ := hw
  refine z_putF (ty := (.array .int)) hx hb htb inw_M ty_M tyok_M nmok_M hown hK hM hS h119 rfl 15 (by decide) (htb _ t_666) (fun _ h9 => h9) rfl hin rfl (by decide +kernel) rfl rfl hl120 dM_init_91 (fun H locs hM hS => ?_)
  refine lv_aload_n hx hb dM_init_94 rfl (lv_at hl 0 rfl) ?_
  refine lv_bipush (v := 60) hx hb dM_init_95 (by decide +kernel) ?_
  obtain ⟨h123, h124, h125, h126, hN9, hw⟩ := hw
  refine z_newa (atype := .int) (a0 := (60, .inl (fun _ => 0))) hx hb (htb _ t_363) rfl hK hM hS hA 0 0 rfl (fun _ h => h) (fun _ => rfl) h123 hN9 h124 (show (((((((((((0 + 1) + 1) + 1) + 1) + 1) + 1) + 1) + 1) + 1) + 1) + 1) + 1 ≤ mc by omega) (show (((((((((((0 + 12) + 12) + 12) + 60) + 60) + 180) + 180) + 60) + 60) + 60) + 60) + 60 ≤ ms by omega) dM_init_97 (fun q122 H hn127 hM hS => ?_)
  have hw := hw q122 hn127
  obtain ⟨fs129, h130, hl131, hw⟩ := hw
  refine z_putF (ty := (.array .int)) hx hb htb inw_M ty_M tyok_M nmok_M hown hK hM hS h130 rfl 16 (by decide) (htb _ t_667) (fun _ h9 => h9) rfl hin rfl (by decide +kernel) rfl rfl hl131 dM_init_99 (fun H locs hM hS => ?_)
  refine lv_aload_n hx hb dM_init_102 rfl (lv_at hl 0 rfl) ?_
  refine lv_bipush (v := 60) hx hb dM_init_103 (by decide +kernel) ?_
  obtain ⟨h134, h135, h136, h137, hN9, hw⟩ := hw
  refine z_newa (atype := .int) (a0 := (60, .inl (fun _ => 0))) hx hb (htb _ t_363) rfl hK hM hS hA 0 0 rfl (fun _ h => h) (fun _ => rfl) h134 hN9 h135 (show ((((((((((((0 + 1) + 1) + 1) + 1) + 1) + 1) + 1) + 1) + 1) + 1) + 1) + 1) + 1 ≤ mc by omega) (show ((((((((((((0 + 12) + 12) + 12) + 60) + 60) + 180) + 180) + 60) + 60) + 60) + 60) + 60) + 60 ≤ ms by omega) dM_init_105 (fun q133 H hn138 hM hS => ?_)
  have hw := hw q133 hn138
  obtain ⟨fs140, h141, hl142, hw⟩ := hw
  refine z_putF (ty := (.array .int)) hx hb htb inw_M ty_M tyok_M nmok_M hown hK hM hS h141 rfl 17 (by decide) (htb _ t_668) (fun _ h9 => h9) rfl hin rfl (by decide +kernel) rfl rfl hl142 dM_init_107 (fun H locs hM hS => ?_)
  refine lv_aload_n hx hb dM_init_110 rfl (lv_at hl 0 rfl) ?_
  refine lv_sipush (v := 3600) hx hb dM_init_111 (by decide +kernel) ?_
  obtain ⟨h145, h146, h147, h148, hN9, hw⟩ := hw
  refine z_newa (atype := .boolean) (a0 := (3600, .inl (fun _ => 0))) hx hb (htb _ t_364) rfl hK hM hS hA 1 1 rfl (fun _ h => h) (fun _ => rfl) h145 hN9 h146 (show (((((((((((((0 + 1) + 1) + 1) + 1) + 1) + 1) + 1) + 1) + 1) + 1) + 1) + 1) + 1) + 1 ≤ mc by omega) (show (((((((((((((0 + 12) + 12) + 12) + 60) + 60) + 180) + 180) + 60) + 60) + 60) + 60) + 60) + 60) + 3600 ≤ ms by omega) dM_init_114 (fun q144 H hn149 hM hS => ?_)
  have hw := hw q144 hn149
  obtain ⟨fs151, h152, hl153, hw⟩ := hw
  refine z_putF (ty := (.array .boolean)) hx hb htb inw_M ty_M tyok_M nmok_M hown hK hM hS h152 rfl 18 (by decide) (htb _ t_669) (fun _ h9 => h9) rfl hin rfl (by decide +kernel) rfl rfl hl153 dM_init_116 (fun H locs hM hS => ?_)
  refine lv_aload_n hx hb dM_init_119 rfl (lv_at hl 0 rfl) ?_
  refine lv_sipush (v := 3600) hx hb dM_init_120 (by decide +kernel) ?_
  obtain ⟨h156, h157, h158, h159, hN9, hw⟩ := hw
  refine z_newa (atype := .int) (a0 := (3600, .inl (fun _ => 0))) hx hb (htb _ t_363) rfl hK hM hS hA 0 0 rfl (fun _ h => h) (fun _ => rfl) h156 hN9 h157 (show ((((((((((((((0 + 1) + 1) + 1) + 1) + 1) + 1) + 1) + 1) + 1) + 1) + 1) + 1) + 1) + 1) + 1 ≤ mc by omega) (show ((((((((((((((0 + 12) + 12) + 12) + 60) + 60) + 180) + 180) + 60) + 60) + 60) + 60) + 60) + 60) + 3600) + 3600 ≤ ms by omega) dM_init_123 (fun q155 H hn160 hM hS => ?_)
  have hw := hw q155 hn160
  obtain ⟨fs162, h163, hl164, hw⟩ := hw
  refine z_putF (ty := (.array .int)) hx hb htb inw_M ty_M tyok_M nmok_M hown hK hM hS h163 rfl 19 (by decide) (htb _ t_670) (fun _ h9 => h9) rfl hin rfl (by decide +kernel) rfl rfl hl164 dM_init_125 (fun H locs hM hS => ?_)
  refine lv_aload_n hx hb dM_init_128 rfl (lv_at hl 0 rfl) ?_
  refine lv_sipush (v := 3600) hx hb dM_init_129 (by decide +kernel) ?_
  obtain ⟨h167, h168, h169, h170, hN9, hw⟩ := hw
  refine z_newa (atype := .int) (a0 := (3600, .inl (fun _ => 0))) hx hb (htb _ t_363) rfl hK hM hS hA 0 0 rfl (fun _ h => h) (fun _ => rfl) h167 hN9 h168 (show (((((((((((((((0 + 1) + 1) + 1) + 1) + 1) + 1) + 1) + 1) + 1) + 1) + 1) + 1) + 1) + 1) + 1) + 1 ≤ mc by omega) (show (((((((((((((((0 + 12) + 12) + 12) + 60) + 60) + 180) + 180) + 60) + 60) + 60) + 60) + 60) + 60) + 3600) + 3600) + 3600 ≤ ms by omega) dM_init_132 (fun q166 H hn171 hM hS => ?_)
  have hw := hw q166 hn171
  obtain ⟨fs173, h174, hl175, hw⟩ := hw
  refine z_putF (ty := (.array .int)) hx hb htb inw_M ty_M tyok_M nmok_M hown hK hM hS h174 rfl 20 (by decide) (htb _ t_671) (fun _ h9 => h9) rfl hin rfl (by decide +kernel) rfl rfl hl175 dM_init_134 (fun H locs hM hS => ?_)
  refine lv_aload_n hx hb dM_init_137 rfl (lv_at hl 0 rfl) ?_
  refine lv_sipush (v := 3600) hx hb dM_init_138 (by decide +kernel) ?_
  obtain ⟨h178, h179, h180, h181, hN9, hw⟩ := hw
  refine z_newa (atype := .int) (a0 := (3600, .inl (fun _ => 0))) hx hb (htb _ t_363) rfl hK hM hS hA 0 0 rfl (fun _ h => h) (fun _ => rfl) h178 hN9 h179 (show ((((((((((((((((0 + 1) + 1) + 1) + 1) + 1) + 1) + 1) + 1) + 1) + 1) + 1) + 1) + 1) + 1) + 1) + 1) + 1 ≤ mc by omega) (show ((((((((((((((((0 + 12) + 12) + 12) + 60) + 60) + 180) + 180) + 60) + 60) + 60) + 60) + 60) + 60) + 3600) + 3600) + 3600) + 3600 ≤ ms by omega) dM_init_141 (fun q177 H hn182 hM hS => ?_)
  have hw := hw q177 hn182
  obtain ⟨fs184, h185, hl186, hw⟩ := hw
  refine z_putF (ty := (.array .int)) hx hb htb inw_M ty_M tyok_M nmok_M hown hK hM hS h185 rfl 21 (by decide) (htb _ t_672) (fun _ h9 => h9) rfl hin rfl (by decide +kernel) rfl rfl hl186 dM_init_143 (fun H locs hM hS => ?_)
  refine W.widen (k := mc) (n := ms) (by omega) (by omega) ?_
  exact W.vret hx hb hr (fun t ht hW => ⟨⟨_, rfl, hw, zB_of ht hM⟩, hS.F ht⟩) hS.2.2 dM_init_146
abbrev r_M_thrown : Room := { frames := 0, cells := 0, slots := 0, locals := 0 }
def w_M_thrown (e0 : Nat) (post : Int32 → zM → Prop) (M : zM) (h0 : Nat) : Prop := wGI M h0 4 0 (fun v1 => post v1 M)
set_option maxHeartbeats 4000000 in
set_option maxRecDepth 100000 in
theorem k_M_thrown {l : Launch} {D : va_G} {tc : Nat → ClassId} {A : Nat → Prop} {post : Int32 → zM → Prop} {M : zM} {h0 : Nat} (hw : w_M_thrown (tc 9) post M h0) : Met l yM_thrown (.code yM_thrown cM_thrown 1 (some .int) :: zTB) r_M_thrown (va_Pc [.ref h0] (zI D tc A M)) (va_Qi post (zB D tc A) A) 0 0 A := by
  refine Met.ofW (cc := cM_thrown) (maxL := 1) (ret := (some .int)) (by decide +kernel) rfl ?_
  intro p e s m args below meth c s₁ B hml hv
  obtain ⟨rfl, hA, hM, hG⟩ := hv
  have C0 := zC_of (D := D) (tc := tc) (A := A) B hml (zC_ex B) hA hG
  obtain ⟨hx, hb, hml, hr, hown, htb, hlk, hA, hG, hin, hex⟩ := id C0
  have hK := hG.1
  have hS : va_S A s.heap s.heap [] := va_S.rf
  have hl := lv_entry ([.ref h0]) (n := 1) (Nat.le_of_ble_eq_true rfl)
  rw [lg_entry_eq]
  generalize (lg_sl ([.ref h0]) ++ List.replicate (1 - (lg_sl ([.ref h0])).length) Slot.unset).toArray = ls at hl ⊢
  have hl : lv_has ls 1 [(0, .ref h0)] := hl
  refine lv_aload_n hx hb dM_thrown_0 rfl (lv_at hl 0 rfl) ?_
  obtain ⟨fs2, v1, h3, ev4, hw⟩ := hw
  refine z_get hx hb htb inw_M hown hK hM h3 rfl 0 (by decide) (htb _ t_651) (fun _ h9 => h9) ev4 dM_thrown_1 ?_
  exact W.iret hx hb hr (fun t ht hW => ⟨⟨_, _, rfl, hw, zB_of ht hM⟩, hS.F ht⟩) hS.2.2 dM_thrown_4
abbrev r_M_in : Room := { frames := 0, cells := 0, slots := 0, locals := 0 }
abbrev J_M_in_14 (p : Program) (l : Launch) (e : Env) (s : State) (m : MethodId) (args : Array Value) (below : List Frame) (meth : Method) (c : Code) (D : va_G) (tc : Nat → ClassId) (A : Nat → Prop) (Q : State → Prop) (K : zM → Prop) : Prop := ∀ (M : zM) (H : Heap) (locs : List Loc) (ls : Array Slot), zP D vwCl tc A M H → va_S A s.heap H locs → lv_has ls 3 [] → K M → W p l e (r_M_in) s m args below meth c H locs 0 0 Q (F0 m 14 ls [])
def w_M_in_j14 (e0 : Nat) (post : Int32 → zM → Prop) (M : zM) : Prop := post 0 M
set_option maxHeartbeats 4000000 in
set_option maxRecDepth 100000 in
theorem k_M_in_j14 {p : Program} {l : Launch} {e : Env} {s : State} {m : MethodId} {args : Array Value} {below : List Frame} {meth : Method} {c : Code} {D : va_G} {tc : Nat → ClassId} {A : Nat → Prop} {post : Int32 → zM → Prop} (C0 : zC R_M cM_in 3 (some .boolean) "in" D tc A p l s m args meth c) : J_M_in_14 p l e s m args below meth c D tc A (MQ below (va_Qi post (zB D tc A) A) args s 0 0 A) (w_M_in_j14 (tc 9) post) := by
  obtain ⟨hx, hb, hml, hr, hown, htb, hlk, hA, hG, hin, hex⟩ := id C0
  have hK := hG.1
  intro M H locs ls hM hS hl hw
  refine lv_iconst (v := 0) hx hb dM_in_14 (by decide +kernel) ?_
  exact W.zret hx hb hr rfl (fun t ht hW => ⟨⟨_, _, rfl, hw, zB_of ht hM⟩, hS.F ht⟩) hS.2.2 dM_in_15
def w_M_in (e0 : Nat) (post : Int32 → zM → Prop) (M : zM) (x0 : Int32) (x1 : Int32) (x2 : Int32) : Prop := ((x0 < x1) → w_M_in_j14 e0 post M) ∧ (¬ (x0 < x1) → ((x2 < x0) → w_M_in_j14 e0 post M) ∧ (¬ (x2 < x0) → post 1 M))
set_option maxHeartbeats 4000000 in
set_option maxRecDepth 100000 in
theorem k_M_in {l : Launch} {D : va_G} {tc : Nat → ClassId} {A : Nat → Prop} {post : Int32 → zM → Prop} {M : zM} {x0 : Int32} {x1 : Int32} {x2 : Int32} (hw : w_M_in (tc 9) post M x0 x1 x2) : Met l yM_in (.code yM_in cM_in 3 (some .boolean) :: zTB) r_M_in (va_Pc [.int x0, .int x1, .int x2] (zI D tc A M)) (va_Qi post (zB D tc A) A) 0 0 A := by
  refine Met.ofW (cc := cM_in) (maxL := 3) (ret := (some .boolean)) (by decide +kernel) rfl ?_
  intro p e s m args below meth c s₁ B hml hv
  obtain ⟨rfl, hA, hM, hG⟩ := hv
  have C0 := zC_of (D := D) (tc := tc) (A := A) B hml (zC_ex B) hA hG
  obtain ⟨hx, hb, hml, hr, hown, htb, hlk, hA, hG, hin, hex⟩ := id C0
  have hK := hG.1
  have hS : va_S A s.heap s.heap [] := va_S.rf
  have hl := lv_entry ([.int x0, .int x1, .int x2]) (n := 3) (Nat.le_of_ble_eq_true rfl)
  rw [lg_entry_eq]
  generalize (lg_sl ([.int x0, .int x1, .int x2]) ++ List.replicate (3 - (lg_sl ([.int x0, .int x1, .int x2])).length) Slot.unset).toArray = ls at hl ⊢
  have hl : lv_has ls 3 [(0, .int x0), (1, .int x1), (2, .int x2)] := hl
  refine lv_iload_n hx hb dM_in_0 rfl (lv_at hl 0 rfl) ?_
  refine lv_iload_n hx hb dM_in_1 rfl (lv_at hl 1 rfl) ?_
  refine lv_icmp_lt (tgt := 14) hx hb dM_in_2 (by decide) (fun hq => ?_) (fun hq => ?_)
  · have hw := hw.1 hq
    exact k_M_in_j14 C0  _  _ _ _ hM hS (lv_sub hl [] rfl) hw
  · have hw := hw.2 hq
    refine lv_iload_n hx hb dM_in_5 rfl (lv_at hl 0 rfl) ?_
    refine lv_iload_n hx hb dM_in_6 rfl (lv_at hl 2 rfl) ?_
    refine lv_icmp_gt (tgt := 14) hx hb dM_in_7 (by decide) (fun hq => ?_) (fun hq => ?_)
    · have hw := hw.1 hq
      exact k_M_in_j14 C0  _  _ _ _ hM hS (lv_sub hl [] rfl) hw
    · have hw := hw.2 hq
      refine lv_iconst (v := 1) hx hb dM_in_10 (by decide +kernel) ?_
      refine lv_goto (tgt := 15) hx hb dM_in_11 (by decide) ?_
      exact W.zret hx hb hr rfl (fun t ht hW => ⟨⟨_, _, rfl, hw, zB_of ht hM⟩, hS.F ht⟩) hS.2.2 dM_in_15
abbrev r_M_goes : Room := { frames := 0, cells := 0, slots := 0, locals := 0 }
abbrev J_M_goes_26 (p : Program) (l : Launch) (e : Env) (s : State) (m : MethodId) (args : Array Value) (below : List Frame) (meth : Method) (c : Code) (D : va_G) (tc : Nat → ClassId) (A : Nat → Prop) (Q : State → Prop) (K : zM → Nat → Int32 → Nat → Prop) : Prop := ∀ (M : zM) (l0 : Nat) (s0 : Int32) (s1 : Nat) (H : Heap) (locs : List Loc) (ls : Array Slot), zP D vwCl tc A M H → va_S A s.heap H locs → lv_has ls 4 [(0, .ref l0)] → K M l0 s0 s1 → W p l e (r_M_goes) s m args below meth c H locs 0 0 Q (F0 m 26 ls [.int s0, .ref s1])
def w_M_goes_j26 (e0 : Nat) (post : Int32 → zM → Prop) (M : zM) (l0 : Nat) (s0 : Int32) (s1 : Nat) : Prop := wPF M s1 4 0 (.int s0) (fun M4 => wGI M4 l0 4 0 (fun v5 => ((v5 = 0) → post 1 M4) ∧ (¬ (v5 = 0) → post 0 M4)))
set_option maxHeartbeats 4000000 in
set_option maxRecDepth 100000 in
theorem k_M_goes_j26 {p : Program} {l : Launch} {e : Env} {s : State} {m : MethodId} {args : Array Value} {below : List Frame} {meth : Method} {c : Code} {D : va_G} {tc : Nat → ClassId} {A : Nat → Prop} {post : Int32 → zM → Prop} (C0 : zC R_M cM_goes 4 (some .boolean) "goes" D tc A p l s m args meth c) : J_M_goes_26 p l e s m args below meth c D tc A (MQ below (va_Qi post (zB D tc A) A) args s 0 0 A) (w_M_goes_j26 (tc 9) post) := by
  obtain ⟨hx, hb, hml, hr, hown, htb, hlk, hA, hG, hin, hex⟩ := id C0
  have hK := hG.1
  intro M l0 s0 s1 H locs ls hM hS hl hw
  obtain ⟨fs1, h2, hl3, hw⟩ := hw
  refine z_put (ty := .int) hx hb htb inw_M ty_M tyok_M nmok_M hown hK hM hS h2 rfl 0 (by decide) (htb _ t_651) (fun _ h9 => h9) rfl (by decide +kernel) rfl rfl hl3 dM_goes_26 (fun H locs hM hS => ?_)
  refine lv_aload_n hx hb dM_goes_29 rfl (lv_at hl 0 rfl) ?_
  obtain ⟨fs6, v5, h7, ev8, hw⟩ := hw
  refine z_get hx hb htb inw_M hown hK hM h7 rfl 0 (by decide) (htb _ t_651) (fun _ h9 => h9) ev8 dM_goes_30 ?_
  refine lv_if_ne (tgt := 40) hx hb dM_goes_33 (by decide) (fun hq => ?_) (fun hq => ?_)
  · have hw := hw.2 hq
    refine lv_iconst (v := 0) hx hb dM_goes_40 (by decide +kernel) ?_
    exact W.zret hx hb hr rfl (fun t ht hW => ⟨⟨_, _, rfl, hw, zB_of ht hM⟩, hS.F ht⟩) hS.2.2 dM_goes_41
  · have hw := hw.1 hq
    refine lv_iconst (v := 1) hx hb dM_goes_36 (by decide +kernel) ?_
    refine lv_goto (tgt := 41) hx hb dM_goes_37 (by decide) ?_
    exact W.zret hx hb hr rfl (fun t ht hW => ⟨⟨_, _, rfl, hw, zB_of ht hM⟩, hS.F ht⟩) hS.2.2 dM_goes_41
def w_M_goes (e0 : Nat) (post : Int32 → zM → Prop) (M : zM) (h0 : Nat) (x1 : Int32) (x2 : Int32) (x3 : Int32) : Prop := ((x1 = 0) → w_M_goes_j26 e0 post M h0 1 h0) ∧ (¬ (x1 = 0) → ((x2 = 0) → w_M_goes_j26 e0 post M h0 2 h0) ∧ (¬ (x2 = 0) → ((x3 = 0) → w_M_goes_j26 e0 post M h0 3 h0) ∧ (¬ (x3 = 0) → w_M_goes_j26 e0 post M h0 0 h0)))
set_option maxHeartbeats 4000000 in
set_option maxRecDepth 100000 in
theorem k_M_goes {l : Launch} {D : va_G} {tc : Nat → ClassId} {A : Nat → Prop} {post : Int32 → zM → Prop} {M : zM} {h0 : Nat} {x1 : Int32} {x2 : Int32} {x3 : Int32} (hw : w_M_goes (tc 9) post M h0 x1 x2 x3) : Met l yM_goes (.code yM_goes cM_goes 4 (some .boolean) :: zTB) r_M_goes (va_Pc [.ref h0, .int x1, .int x2, .int x3] (zI D tc A M)) (va_Qi post (zB D tc A) A) 0 0 A := by
  refine Met.ofW (cc := cM_goes) (maxL := 4) (ret := (some .boolean)) (by decide +kernel) rfl ?_
  intro p e s m args below meth c s₁ B hml hv
  obtain ⟨rfl, hA, hM, hG⟩ := hv
  have C0 := zC_of (D := D) (tc := tc) (A := A) B hml (zC_ex B) hA hG
  obtain ⟨hx, hb, hml, hr, hown, htb, hlk, hA, hG, hin, hex⟩ := id C0
  have hK := hG.1
  have hS : va_S A s.heap s.heap [] := va_S.rf
  have hl := lv_entry ([.ref h0, .int x1, .int x2, .int x3]) (n := 4) (Nat.le_of_ble_eq_true rfl)
  rw [lg_entry_eq]
  generalize (lg_sl ([.ref h0, .int x1, .int x2, .int x3]) ++ List.replicate (4 - (lg_sl ([.ref h0, .int x1, .int x2, .int x3])).length) Slot.unset).toArray = ls at hl ⊢
  have hl : lv_has ls 4 [(0, .ref h0), (1, .int x1), (2, .int x2), (3, .int x3)] := hl
  refine lv_aload_n hx hb dM_goes_0 rfl (lv_at hl 0 rfl) ?_
  refine lv_iload_n hx hb dM_goes_1 rfl (lv_at hl 1 rfl) ?_
  refine lv_if_ne (tgt := 9) hx hb dM_goes_2 (by decide) (fun hq => ?_) (fun hq => ?_)
  · have hw := hw.2 hq
    refine lv_iload_n hx hb dM_goes_9 rfl (lv_at hl 2 rfl) ?_
    refine lv_if_ne (tgt := 17) hx hb dM_goes_10 (by decide) (fun hq => ?_) (fun hq => ?_)
    · have hw := hw.2 hq
      refine lv_iload_n hx hb dM_goes_17 rfl (lv_at hl 3 rfl) ?_
      refine lv_if_ne (tgt := 25) hx hb dM_goes_18 (by decide) (fun hq => ?_) (fun hq => ?_)
      · have hw := hw.2 hq
        refine lv_iconst (v := 0) hx hb dM_goes_25 (by decide +kernel) ?_
        exact k_M_goes_j26 C0  _ _ _ _ _ _ _ hM hS (lv_sub hl [0] rfl) hw
      · have hw := hw.1 hq
        refine lv_iconst (v := 3) hx hb dM_goes_21 (by decide +kernel) ?_
        refine lv_goto (tgt := 26) hx hb dM_goes_22 (by decide) ?_
        exact k_M_goes_j26 C0  _ _ _ _ _ _ _ hM hS (lv_sub hl [0] rfl) hw
    · have hw := hw.1 hq
      refine lv_iconst (v := 2) hx hb dM_goes_13 (by decide +kernel) ?_
      refine lv_goto (tgt := 26) hx hb dM_goes_14 (by decide) ?_
      exact k_M_goes_j26 C0  _ _ _ _ _ _ _ hM hS (lv_sub hl [0] rfl) hw
  · have hw := hw.1 hq
    refine lv_iconst (v := 1) hx hb dM_goes_5 (by decide +kernel) ?_
    refine lv_goto (tgt := 26) hx hb dM_goes_6 (by decide) ?_
    exact k_M_goes_j26 C0  _ _ _ _ _ _ _ hM hS (lv_sub hl [0] rfl) hw
abbrev r_M_group : Room := { frames := 1, cells := 0, slots := 0, locals := 23 }
abbrev J_M_group_41 (p : Program) (l : Launch) (e : Env) (s : State) (m : MethodId) (args : Array Value) (below : List Frame) (meth : Method) (c : Code) (D : va_G) (tc : Nat → ClassId) (A : Nat → Prop) (Q : State → Prop) (K : zM → Nat → Int32 → Int32 → Int32 → Int32 → Nat → Prop) : Prop := ∀ (M : zM) (l0 : Nat) (l1 : Int32) (l2 : Int32) (s0 : Int32) (s1 : Int32) (s2 : Nat) (H : Heap) (locs : List Loc) (ls : Array Slot), zP D vwCl tc A M H → va_S A s.heap H locs → lv_has ls 3 [(0, .ref l0), (1, .int l1), (2, .int l2)] → K M l0 l1 l2 s0 s1 s2 → W p l e (r_M_group) s m args below meth c H locs 0 0 Q (F0 m 41 ls [.int s0, .int s1, .ref s2])
abbrev J_M_group_27 (p : Program) (l : Launch) (e : Env) (s : State) (m : MethodId) (args : Array Value) (below : List Frame) (meth : Method) (c : Code) (D : va_G) (tc : Nat → ClassId) (A : Nat → Prop) (Q : State → Prop) (K : zM → Nat → Int32 → Int32 → Int32 → Nat → Prop) : Prop := ∀ (M : zM) (l0 : Nat) (l1 : Int32) (l2 : Int32) (s0 : Int32) (s1 : Nat) (H : Heap) (locs : List Loc) (ls : Array Slot), zP D vwCl tc A M H → va_S A s.heap H locs → lv_has ls 3 [(0, .ref l0), (1, .int l1), (2, .int l2)] → K M l0 l1 l2 s0 s1 → W p l e (r_M_group) s m args below meth c H locs 0 0 Q (F0 m 27 ls [.int s0, .ref s1])
abbrev J_M_group_26 (p : Program) (l : Launch) (e : Env) (s : State) (m : MethodId) (args : Array Value) (below : List Frame) (meth : Method) (c : Code) (D : va_G) (tc : Nat → ClassId) (A : Nat → Prop) (Q : State → Prop) (K : zM → Nat → Int32 → Int32 → Nat → Prop) : Prop := ∀ (M : zM) (l0 : Nat) (l1 : Int32) (l2 : Int32) (s0 : Nat) (H : Heap) (locs : List Loc) (ls : Array Slot), zP D vwCl tc A M H → va_S A s.heap H locs → lv_has ls 3 [(0, .ref l0), (1, .int l1), (2, .int l2)] → K M l0 l1 l2 s0 → W p l e (r_M_group) s m args below meth c H locs 0 0 Q (F0 m 26 ls [.ref s0])
def w_M_group_j41 (e0 : Nat) (post : Int32 → zM → Prop) (M : zM) (l0 : Nat) (l1 : Int32) (l2 : Int32) (s0 : Int32) (s1 : Int32) (s2 : Nat) : Prop := wIs M s2 4 ∧ w_M_goes e0 (fun r2 M1 => ((r2 = 0) → post 0 M1) ∧ (¬ (r2 = 0) → wGR M1 l0 4 3 (fun v3 => wGI M1 l0 4 2 (fun v7 => wSI M1 v3 0 v7 l1 (fun M15 => wGR M15 l0 4 4 (fun v16 => wGI M15 l0 4 2 (fun v20 => wSI M15 v16 0 v20 l2 (fun M28 => wGR M28 l0 4 5 (fun v29 => wGI M28 l0 4 2 (fun v33 => wSI M28 v29 0 v33 (-1) (fun M41 => wGI M41 l0 4 2 (fun v42 => wPF M41 l0 4 2 (.int (v42 + 1)) (fun M49 => wGI M49 l0 4 2 (fun v50 => post (v50 - 1) M49)))))))))))))) M s2 s1 s0 1
set_option maxHeartbeats 4000000 in
set_option maxRecDepth 100000 in
theorem k_M_group_j41 {p : Program} {l : Launch} {e : Env} {s : State} {m : MethodId} {args : Array Value} {below : List Frame} {meth : Method} {c : Code} {D : va_G} {tc : Nat → ClassId} {A : Nat → Prop} {post : Int32 → zM → Prop} (C0 : zC R_M cM_group 3 (some .int) "group" D tc A p l s m args meth c) : J_M_group_41 p l e s m args below meth c D tc A (MQ below (va_Qi post (zB D tc A) A) args s 0 0 A) (w_M_group_j41 (tc 9) post) := by
  obtain ⟨hx, hb, hml, hr, hown, htb, hlk, hA, hG, hin, hex⟩ := id C0
  have hK := hG.1
  intro M l0 l1 l2 s0 s1 s2 H locs ls hM hS hl hw
  refine lv_iconst (v := 1) hx hb dM_group_41 (by decide +kernel) ?_
  obtain ⟨⟨fs54, h55⟩, hw⟩ := hw
  refine va_calli (va_runV (As := [.int s1, .int s0, .int 1]) (rest := []) ⟨hx, hb, hml, hown, htb⟩ (k_M_goes (l := l) (D := D) (tc := tc) (A := A) hw) (cw_M_79 htb ⟨Nat.le_of_ble_eq_true rfl, Nat.le_of_ble_eq_true rfl⟩) (z_preV hG hA hS hM h55 rfl) rfl rfl hl.1 rfl (lv_room (Nat.le_of_ble_eq_true rfl)) dM_group_42 ⟨Nat.le_refl _, Nat.le_refl _⟩) hS (fun _ _ h => h) (fun _ h => h) (fun r2 M1 t H locs ht hvm hw hB _ _ hS => ?_)
  have hM : zP D vwCl tc A M1 H := by rw [← ht]; exact hB
  refine lv_if_ne (tgt := 50) hx hb dM_group_45 (by decide) (fun hq => ?_) (fun hq => ?_)
  · have hw := hw.2 hq
    refine lv_aload_n hx hb dM_group_50 rfl (lv_at hl 0 rfl) ?_
    obtain ⟨fs4, v3, h5, ev6, hw⟩ := hw
    refine z_get hx hb htb inw_M hown hK hM h5 rfl 3 (by decide) (htb _ t_654) (fun _ h9 => h9) ev6 dM_group_51 ?_
    refine lv_aload_n hx hb dM_group_54 rfl (lv_at hl 0 rfl) ?_
    obtain ⟨fs8, v7, h9, ev10, hw⟩ := hw
    refine z_get hx hb htb inw_M hown hK hM h9 rfl 2 (by decide) (htb _ t_653) (fun _ h9 => h9) ev10 dM_group_55 ?_
    refine lv_iload_n hx hb dM_group_58 rfl (lv_at hl 1 rfl) ?_
    obtain ⟨n11, f12, h13, hi14, hw⟩ := hw
    refine z_iast hx hb hK hM hS 0 0 h13 rfl hi14 dM_group_59 (fun H locs hM hS => ?_)
    refine lv_aload_n hx hb dM_group_60 rfl (lv_at hl 0 rfl) ?_
    obtain ⟨fs17, v16, h18, ev19, hw⟩ := hw
    refine z_get hx hb htb inw_M hown hK hM h18 rfl 4 (by decide) (htb _ t_655) (fun _ h9 => h9) ev19 dM_group_61 ?_
    refine lv_aload_n hx hb dM_group_64 rfl (lv_at hl 0 rfl) ?_
    obtain ⟨fs21, v20, h22, ev23, hw⟩ := hw
    refine z_get hx hb htb inw_M hown hK hM h22 rfl 2 (by decide) (htb _ t_653) (fun _ h9 => h9) ev23 dM_group_65 ?_
    refine lv_iload_n hx hb dM_group_68 rfl (lv_at hl 2 rfl) ?_
    obtain ⟨n24, f25, h26, hi27, hw⟩ := hw
    refine z_iast hx hb hK hM hS 0 0 h26 rfl hi27 dM_group_69 (fun H locs hM hS => ?_)
    refine lv_aload_n hx hb dM_group_70 rfl (lv_at hl 0 rfl) ?_
    obtain ⟨fs30, v29, h31, ev32, hw⟩ := hw
    refine z_get hx hb htb inw_M hown hK hM h31 rfl 5 (by decide) (htb _ t_656) (fun _ h9 => h9) ev32 dM_group_71 ?_
    refine lv_aload_n hx hb dM_group_74 rfl (lv_at hl 0 rfl) ?_
    obtain ⟨fs34, v33, h35, ev36, hw⟩ := hw
    refine z_get hx hb htb inw_M hown hK hM h35 rfl 2 (by decide) (htb _ t_653) (fun _ h9 => h9) ev36 dM_group_75 ?_
    refine lv_iconst (v := (-1)) hx hb dM_group_78 (by decide +kernel) ?_
    obtain ⟨n37, f38, h39, hi40, hw⟩ := hw
    refine z_iast hx hb hK hM hS 0 0 h39 rfl hi40 dM_group_79 (fun H locs hM hS => ?_)
    refine lv_aload_n hx hb dM_group_80 rfl (lv_at hl 0 rfl) ?_
    refine lv_dup hx hb dM_group_81 rfl ?_
    obtain ⟨fs43, v42, h44, ev45, hw⟩ := hw
    refine z_get hx hb htb inw_M hown hK hM h44 rfl 2 (by decide) (htb _ t_653) (fun _ h9 => h9) ev45 dM_group_82 ?_
    refine lv_iconst (v := 1) hx hb dM_group_85 (by decide +kernel) ?_
    refine lv_iadd hx hb dM_group_86 ?_
    obtain ⟨fs46, h47, hl48, hw⟩ := hw
    refine z_put (ty := .int) hx hb htb inw_M ty_M tyok_M nmok_M hown hK hM hS h47 rfl 2 (by decide) (htb _ t_653) (fun _ h9 => h9) rfl (by decide +kernel) rfl rfl hl48 dM_group_87 (fun H locs hM hS => ?_)
    refine lv_aload_n hx hb dM_group_90 rfl (lv_at hl 0 rfl) ?_
    obtain ⟨fs51, v50, h52, ev53, hw⟩ := hw
    refine z_get hx hb htb inw_M hown hK hM h52 rfl 2 (by decide) (htb _ t_653) (fun _ h9 => h9) ev53 dM_group_91 ?_
    refine lv_iconst (v := 1) hx hb dM_group_94 (by decide +kernel) ?_
    refine lv_isub hx hb dM_group_95 ?_
    exact W.iret hx hb hr (fun t ht hW => ⟨⟨_, _, rfl, hw, zB_of ht hM⟩, hS.F ht⟩) hS.2.2 dM_group_96
  · have hw := hw.1 hq
    refine lv_iconst (v := 0) hx hb dM_group_48 (by decide +kernel) ?_
    exact W.iret hx hb hr (fun t ht hW => ⟨⟨_, _, rfl, hw, zB_of ht hM⟩, hS.F ht⟩) hS.2.2 dM_group_49
def w_M_group_j27 (e0 : Nat) (post : Int32 → zM → Prop) (M : zM) (l0 : Nat) (l1 : Int32) (l2 : Int32) (s0 : Int32) (s1 : Nat) : Prop := wGI M l0 4 2 (fun v1 => ((12 ≤ v1) → w_M_group_j41 e0 post M l0 l1 l2 0 s0 s1) ∧ (¬ (12 ≤ v1) → w_M_group_j41 e0 post M l0 l1 l2 1 s0 s1))
set_option maxHeartbeats 4000000 in
set_option maxRecDepth 100000 in
theorem k_M_group_j27 {p : Program} {l : Launch} {e : Env} {s : State} {m : MethodId} {args : Array Value} {below : List Frame} {meth : Method} {c : Code} {D : va_G} {tc : Nat → ClassId} {A : Nat → Prop} {post : Int32 → zM → Prop} (C0 : zC R_M cM_group 3 (some .int) "group" D tc A p l s m args meth c) : J_M_group_27 p l e s m args below meth c D tc A (MQ below (va_Qi post (zB D tc A) A) args s 0 0 A) (w_M_group_j27 (tc 9) post) := by
  obtain ⟨hx, hb, hml, hr, hown, htb, hlk, hA, hG, hin, hex⟩ := id C0
  have hK := hG.1
  intro M l0 l1 l2 s0 s1 H locs ls hM hS hl hw
  refine lv_aload_n hx hb dM_group_27 rfl (lv_at hl 0 rfl) ?_
  obtain ⟨fs2, v1, h3, ev4, hw⟩ := hw
  refine z_get hx hb htb inw_M hown hK hM h3 rfl 2 (by decide) (htb _ t_653) (fun _ h9 => h9) ev4 dM_group_28 ?_
  refine lv_bipush (v := 12) hx hb dM_group_31 (by decide +kernel) ?_
  refine lv_icmp_ge (tgt := 40) hx hb dM_group_33 (by decide) (fun hq => ?_) (fun hq => ?_)
  · have hw := hw.1 hq
    refine lv_iconst (v := 0) hx hb dM_group_40 (by decide +kernel) ?_
    exact k_M_group_j41 C0  _ _ _ _ _ _ _ _ _ _ hM hS (lv_sub hl [0, 1, 2] rfl) hw
  · have hw := hw.2 hq
    refine lv_iconst (v := 1) hx hb dM_group_36 (by decide +kernel) ?_
    refine lv_goto (tgt := 41) hx hb dM_group_37 (by decide) ?_
    exact k_M_group_j41 C0  _ _ _ _ _ _ _ _ _ _ hM hS (lv_sub hl [0, 1, 2] rfl) hw
def w_M_group_j26 (e0 : Nat) (post : Int32 → zM → Prop) (M : zM) (l0 : Nat) (l1 : Int32) (l2 : Int32) (s0 : Nat) : Prop := w_M_group_j27 e0 post M l0 l1 l2 0 s0
set_option maxHeartbeats 4000000 in
set_option maxRecDepth 100000 in
theorem k_M_group_j26 {p : Program} {l : Launch} {e : Env} {s : State} {m : MethodId} {args : Array Value} {below : List Frame} {meth : Method} {c : Code} {D : va_G} {tc : Nat → ClassId} {A : Nat → Prop} {post : Int32 → zM → Prop} (C0 : zC R_M cM_group 3 (some .int) "group" D tc A p l s m args meth c) : J_M_group_26 p l e s m args below meth c D tc A (MQ below (va_Qi post (zB D tc A) A) args s 0 0 A) (w_M_group_j26 (tc 9) post) := by
  obtain ⟨hx, hb, hml, hr, hown, htb, hlk, hA, hG, hin, hex⟩ := id C0
  have hK := hG.1
  intro M l0 l1 l2 s0 H locs ls hM hS hl hw
  refine lv_iconst (v := 0) hx hb dM_group_26 (by decide +kernel) ?_
  exact k_M_group_j27 C0  _ _ _ _ _ _ _ _ _ hM hS (lv_sub hl [0, 1, 2] rfl) hw
def w_M_group (e0 : Nat) (post : Int32 → zM → Prop) (M : zM) (h0 : Nat) (x1 : Int32) (x2 : Int32) : Prop := w_M_in e0 (fun r2 M1 => ((r2 = 0) → w_M_group_j26 e0 post M1 h0 x1 x2 h0) ∧ (¬ (r2 = 0) → w_M_in e0 (fun r4 M3 => ((r4 = 0) → w_M_group_j26 e0 post M3 h0 x1 x2 h0) ∧ (¬ (r4 = 0) → w_M_group_j27 e0 post M3 h0 x1 x2 1 h0)) M1 x2 1 3600)) M x1 1 20
set_option maxHeartbeats 4000000 in
set_option maxRecDepth 100000 in
theorem k_M_group {l : Launch} {D : va_G} {tc : Nat → ClassId} {A : Nat → Prop} {post : Int32 → zM → Prop} {M : zM} {h0 : Nat} {x1 : Int32} {x2 : Int32} (hw : w_M_group (tc 9) post M h0 x1 x2) : Met l yM_group (.code yM_group cM_group 3 (some .int) :: zTB) r_M_group (va_Pc [.ref h0, .int x1, .int x2] (zI D tc A M)) (va_Qi post (zB D tc A) A) 0 0 A := by
  refine Met.ofW (cc := cM_group) (maxL := 3) (ret := (some .int)) (by decide +kernel) rfl ?_
  intro p e s m args below meth c s₁ B hml hv
  obtain ⟨rfl, hA, hM, hG⟩ := hv
  have C0 := zC_of (D := D) (tc := tc) (A := A) B hml (zC_ex B) hA hG
  obtain ⟨hx, hb, hml, hr, hown, htb, hlk, hA, hG, hin, hex⟩ := id C0
  have hK := hG.1
  have hS : va_S A s.heap s.heap [] := va_S.rf
  have hl := lv_entry ([.ref h0, .int x1, .int x2]) (n := 3) (Nat.le_of_ble_eq_true rfl)
  rw [lg_entry_eq]
  generalize (lg_sl ([.ref h0, .int x1, .int x2]) ++ List.replicate (3 - (lg_sl ([.ref h0, .int x1, .int x2])).length) Slot.unset).toArray = ls at hl ⊢
  have hl : lv_has ls 3 [(0, .ref h0), (1, .int x1), (2, .int x2)] := hl
  refine lv_aload_n hx hb dM_group_0 rfl (lv_at hl 0 rfl) ?_
  refine lv_iload_n hx hb dM_group_1 rfl (lv_at hl 1 rfl) ?_
  refine lv_iconst (v := 1) hx hb dM_group_2 (by decide +kernel) ?_
  refine lv_bipush (v := 20) hx hb dM_group_3 (by decide +kernel) ?_
  refine va_calli (va_runS (As := [.int x1, .int 1, .int 20]) (rest := [.ref h0]) ⟨hx, hb, hml, hown, htb⟩ (k_M_in (l := l) (D := D) (tc := tc) (A := A) hw) (cw_M_69 htb ⟨Nat.le_of_ble_eq_true rfl, Nat.le_of_ble_eq_true rfl⟩) (z_preS hG hA hS hM) rfl rfl hl.1 rfl (lv_room (Nat.le_of_ble_eq_true rfl)) dM_group_5 ⟨Nat.le_refl _, Nat.le_refl _⟩) hS (fun _ _ h => h) (fun _ h => h) (fun r2 M1 t H locs ht hvm hw hB _ _ hS => ?_)
  have hM : zP D vwCl tc A M1 H := by rw [← ht]; exact hB
  refine lv_if_eq (tgt := 26) hx hb dM_group_8 (by decide) (fun hq => ?_) (fun hq => ?_)
  · have hw := hw.1 hq
    exact k_M_group_j26 C0  _ _ _ _ _ _ _ _ hM hS (lv_sub hl [0, 1, 2] rfl) hw
  · have hw := hw.2 hq
    refine lv_iload_n hx hb dM_group_11 rfl (lv_at hl 2 rfl) ?_
    refine lv_iconst (v := 1) hx hb dM_group_12 (by decide +kernel) ?_
    refine lv_sipush (v := 3600) hx hb dM_group_13 (by decide +kernel) ?_
    refine va_calli (va_runS (As := [.int x2, .int 1, .int 3600]) (rest := [.ref h0]) ⟨hx, hb, hml, hown, htb⟩ (k_M_in (l := l) (D := D) (tc := tc) (A := A) hw) (cw_M_69 htb ⟨Nat.le_of_ble_eq_true rfl, Nat.le_of_ble_eq_true rfl⟩) (z_preS hG hA hS hM) rfl rfl hl.1 rfl (lv_room (Nat.le_of_ble_eq_true rfl)) dM_group_16 ⟨Nat.le_refl _, Nat.le_refl _⟩) hS (fun _ _ h => h) (fun _ h => h) (fun r4 M3 t H locs ht hvm hw hB _ _ hS => ?_)
    have hM : zP D vwCl tc A M3 H := by rw [← ht]; exact hB
    refine lv_if_eq (tgt := 26) hx hb dM_group_19 (by decide) (fun hq => ?_) (fun hq => ?_)
    · have hw := hw.1 hq
      exact k_M_group_j26 C0  _ _ _ _ _ _ _ _ hM hS (lv_sub hl [0, 1, 2] rfl) hw
    · have hw := hw.2 hq
      refine lv_iconst (v := 1) hx hb dM_group_22 (by decide +kernel) ?_
      refine lv_goto (tgt := 27) hx hb dM_group_23 (by decide) ?_
      exact k_M_group_j27 C0  _ _ _ _ _ _ _ _ _ hM hS (lv_sub hl [0, 1, 2] rfl) hw
abbrev r_M_isGroup : Room := { frames := 1, cells := 0, slots := 0, locals := 22 }
def w_M_isGroup (e0 : Nat) (post : Int32 → zM → Prop) (M : zM) (h0 : Nat) (x1 : Int32) : Prop := wGI M h0 4 2 (fun v1 => w_M_in e0 (fun r6 M5 => (narrow .boolean (.int r6) = .int r6) ∧ post r6 M5) M x1 0 (v1 - 1))
set_option maxHeartbeats 4000000 in
set_option maxRecDepth 100000 in
theorem k_M_isGroup {l : Launch} {D : va_G} {tc : Nat → ClassId} {A : Nat → Prop} {post : Int32 → zM → Prop} {M : zM} {h0 : Nat} {x1 : Int32} (hw : w_M_isGroup (tc 9) post M h0 x1) : Met l yM_isGroup (.code yM_isGroup cM_isGroup 2 (some .boolean) :: zTB) r_M_isGroup (va_Pc [.ref h0, .int x1] (zI D tc A M)) (va_Qi post (zB D tc A) A) 0 0 A := by
  refine Met.ofW (cc := cM_isGroup) (maxL := 2) (ret := (some .boolean)) (by decide +kernel) rfl ?_
  intro p e s m args below meth c s₁ B hml hv
  obtain ⟨rfl, hA, hM, hG⟩ := hv
  have C0 := zC_of (D := D) (tc := tc) (A := A) B hml (zC_ex B) hA hG
  obtain ⟨hx, hb, hml, hr, hown, htb, hlk, hA, hG, hin, hex⟩ := id C0
  have hK := hG.1
  have hS : va_S A s.heap s.heap [] := va_S.rf
  have hl := lv_entry ([.ref h0, .int x1]) (n := 2) (Nat.le_of_ble_eq_true rfl)
  rw [lg_entry_eq]
  generalize (lg_sl ([.ref h0, .int x1]) ++ List.replicate (2 - (lg_sl ([.ref h0, .int x1])).length) Slot.unset).toArray = ls at hl ⊢
  have hl : lv_has ls 2 [(0, .ref h0), (1, .int x1)] := hl
  refine lv_iload_n hx hb dM_isGroup_0 rfl (lv_at hl 1 rfl) ?_
  refine lv_iconst (v := 0) hx hb dM_isGroup_1 (by decide +kernel) ?_
  refine lv_aload_n hx hb dM_isGroup_2 rfl (lv_at hl 0 rfl) ?_
  obtain ⟨fs2, v1, h3, ev4, hw⟩ := hw
  refine z_get hx hb htb inw_M hown hK hM h3 rfl 2 (by decide) (htb _ t_653) (fun _ h9 => h9) ev4 dM_isGroup_3 ?_
  refine lv_iconst (v := 1) hx hb dM_isGroup_6 (by decide +kernel) ?_
  refine lv_isub hx hb dM_isGroup_7 ?_
  refine va_calli (va_runS (As := [.int x1, .int 0, .int (v1 - 1)]) (rest := []) ⟨hx, hb, hml, hown, htb⟩ (k_M_in (l := l) (D := D) (tc := tc) (A := A) hw) (cw_M_69 htb ⟨Nat.le_of_ble_eq_true rfl, Nat.le_of_ble_eq_true rfl⟩) (z_preS hG hA hS hM) rfl rfl hl.1 rfl (lv_room (Nat.le_of_ble_eq_true rfl)) dM_isGroup_8 ⟨Nat.le_refl _, Nat.le_refl _⟩) hS (fun _ _ h => h) (fun _ h => h) (fun r6 M5 t H locs ht hvm hw hB _ _ hS => ?_)
  have hM : zP D vwCl tc A M5 H := by rw [← ht]; exact hB
  obtain ⟨hnb, hw⟩ := hw
  exact W.zret hx hb hr hnb (fun t ht hW => ⟨⟨_, _, rfl, hw, zB_of ht hM⟩, hS.F ht⟩) hS.2.2 dM_isGroup_11
abbrev r_M_next : Room := { frames := 2, cells := 0, slots := 0, locals := 43 }
abbrev J_M_next_42 (p : Program) (l : Launch) (e : Env) (s : State) (m : MethodId) (args : Array Value) (below : List Frame) (meth : Method) (c : Code) (D : va_G) (tc : Nat → ClassId) (A : Nat → Prop) (Q : State → Prop) (K : zM → Nat → Int32 → Int32 → Int32 → Int32 → Nat → Prop) : Prop := ∀ (M : zM) (l0 : Nat) (l1 : Int32) (l2 : Int32) (s0 : Int32) (s1 : Int32) (s2 : Nat) (H : Heap) (locs : List Loc) (ls : Array Slot), zP D vwCl tc A M H → va_S A s.heap H locs → lv_has ls 3 [(0, .ref l0), (1, .int l1), (2, .int l2)] → K M l0 l1 l2 s0 s1 s2 → W p l e (r_M_next) s m args below meth c H locs 0 0 Q (F0 m 42 ls [.int s0, .int s1, .ref s2])
abbrev J_M_next_37 (p : Program) (l : Launch) (e : Env) (s : State) (m : MethodId) (args : Array Value) (below : List Frame) (meth : Method) (c : Code) (D : va_G) (tc : Nat → ClassId) (A : Nat → Prop) (Q : State → Prop) (K : zM → Nat → Int32 → Int32 → Int32 → Nat → Prop) : Prop := ∀ (M : zM) (l0 : Nat) (l1 : Int32) (l2 : Int32) (s0 : Int32) (s1 : Nat) (H : Heap) (locs : List Loc) (ls : Array Slot), zP D vwCl tc A M H → va_S A s.heap H locs → lv_has ls 3 [(0, .ref l0), (1, .int l1), (2, .int l2)] → K M l0 l1 l2 s0 s1 → W p l e (r_M_next) s m args below meth c H locs 0 0 Q (F0 m 37 ls [.int s0, .ref s1])
abbrev J_M_next_27 (p : Program) (l : Launch) (e : Env) (s : State) (m : MethodId) (args : Array Value) (below : List Frame) (meth : Method) (c : Code) (D : va_G) (tc : Nat → ClassId) (A : Nat → Prop) (Q : State → Prop) (K : zM → Nat → Int32 → Int32 → Int32 → Nat → Prop) : Prop := ∀ (M : zM) (l0 : Nat) (l1 : Int32) (l2 : Int32) (s0 : Int32) (s1 : Nat) (H : Heap) (locs : List Loc) (ls : Array Slot), zP D vwCl tc A M H → va_S A s.heap H locs → lv_has ls 3 [(0, .ref l0), (1, .int l1), (2, .int l2)] → K M l0 l1 l2 s0 s1 → W p l e (r_M_next) s m args below meth c H locs 0 0 Q (F0 m 27 ls [.int s0, .ref s1])
abbrev J_M_next_26 (p : Program) (l : Launch) (e : Env) (s : State) (m : MethodId) (args : Array Value) (below : List Frame) (meth : Method) (c : Code) (D : va_G) (tc : Nat → ClassId) (A : Nat → Prop) (Q : State → Prop) (K : zM → Nat → Int32 → Int32 → Nat → Prop) : Prop := ∀ (M : zM) (l0 : Nat) (l1 : Int32) (l2 : Int32) (s0 : Nat) (H : Heap) (locs : List Loc) (ls : Array Slot), zP D vwCl tc A M H → va_S A s.heap H locs → lv_has ls 3 [(0, .ref l0), (1, .int l1), (2, .int l2)] → K M l0 l1 l2 s0 → W p l e (r_M_next) s m args below meth c H locs 0 0 Q (F0 m 26 ls [.ref s0])
abbrev J_M_next_22 (p : Program) (l : Launch) (e : Env) (s : State) (m : MethodId) (args : Array Value) (below : List Frame) (meth : Method) (c : Code) (D : va_G) (tc : Nat → ClassId) (A : Nat → Prop) (Q : State → Prop) (K : zM → Nat → Int32 → Int32 → Nat → Prop) : Prop := ∀ (M : zM) (l0 : Nat) (l1 : Int32) (l2 : Int32) (s0 : Nat) (H : Heap) (locs : List Loc) (ls : Array Slot), zP D vwCl tc A M H → va_S A s.heap H locs → lv_has ls 3 [(0, .ref l0), (1, .int l1), (2, .int l2)] → K M l0 l1 l2 s0 → W p l e (r_M_next) s m args below meth c H locs 0 0 Q (F0 m 22 ls [.ref s0])
def w_M_next_j42 (e0 : Nat) (post : zM → Prop) (M : zM) (l0 : Nat) (l1 : Int32) (l2 : Int32) (s0 : Int32) (s1 : Int32) (s2 : Nat) : Prop := wIs M s2 4 ∧ w_M_goes e0 (fun r2 M1 => ((r2 = 0) → post M1) ∧ (¬ (r2 = 0) → wGR M1 l0 4 5 (fun v3 => wSI M1 v3 0 l1 l2 (fun M11 => post M11)))) M s2 s1 s0 1
set_option maxHeartbeats 4000000 in
set_option maxRecDepth 100000 in
theorem k_M_next_j42 {p : Program} {l : Launch} {e : Env} {s : State} {m : MethodId} {args : Array Value} {below : List Frame} {meth : Method} {c : Code} {D : va_G} {tc : Nat → ClassId} {A : Nat → Prop} {post : zM → Prop} (C0 : zC R_M cM_next 3 none "next" D tc A p l s m args meth c) : J_M_next_42 p l e s m args below meth c D tc A (MQ below (va_Qv post (zB D tc A) A) args s 0 0 A) (w_M_next_j42 (tc 9) post) := by
  obtain ⟨hx, hb, hml, hr, hown, htb, hlk, hA, hG, hin, hex⟩ := id C0
  have hK := hG.1
  intro M l0 l1 l2 s0 s1 s2 H locs ls hM hS hl hw
  refine lv_iconst (v := 1) hx hb dM_next_42 (by decide +kernel) ?_
  obtain ⟨⟨fs12, h13⟩, hw⟩ := hw
  refine va_calli (va_runV (As := [.int s1, .int s0, .int 1]) (rest := []) ⟨hx, hb, hml, hown, htb⟩ (k_M_goes (l := l) (D := D) (tc := tc) (A := A) hw) (cw_M_79 htb ⟨Nat.le_of_ble_eq_true rfl, Nat.le_of_ble_eq_true rfl⟩) (z_preV hG hA hS hM h13 rfl) rfl rfl hl.1 rfl (lv_room (Nat.le_of_ble_eq_true rfl)) dM_next_43 ⟨Nat.le_refl _, Nat.le_refl _⟩) hS (fun _ _ h => h) (fun _ h => h) (fun r2 M1 t H locs ht hvm hw hB _ _ hS => ?_)
  have hM : zP D vwCl tc A M1 H := by rw [← ht]; exact hB
  refine lv_if_eq (tgt := 56) hx hb dM_next_46 (by decide) (fun hq => ?_) (fun hq => ?_)
  · have hw := hw.1 hq
    exact W.vret hx hb hr (fun t ht hW => ⟨⟨_, rfl, hw, zB_of ht hM⟩, hS.F ht⟩) hS.2.2 dM_next_56
  · have hw := hw.2 hq
    refine lv_aload_n hx hb dM_next_49 rfl (lv_at hl 0 rfl) ?_
    obtain ⟨fs4, v3, h5, ev6, hw⟩ := hw
    refine z_get hx hb htb inw_M hown hK hM h5 rfl 5 (by decide) (htb _ t_656) (fun _ h9 => h9) ev6 dM_next_50 ?_
    refine lv_iload_n hx hb dM_next_53 rfl (lv_at hl 1 rfl) ?_
    refine lv_iload_n hx hb dM_next_54 rfl (lv_at hl 2 rfl) ?_
    obtain ⟨n7, f8, h9, hi10, hw⟩ := hw
    refine z_iast hx hb hK hM hS 0 0 h9 rfl hi10 dM_next_55 (fun H locs hM hS => ?_)
    exact W.vret hx hb hr (fun t ht hW => ⟨⟨_, rfl, hw, zB_of ht hM⟩, hS.F ht⟩) hS.2.2 dM_next_56
def w_M_next_j37 (e0 : Nat) (post : zM → Prop) (M : zM) (l0 : Nat) (l1 : Int32) (l2 : Int32) (s0 : Int32) (s1 : Nat) : Prop := w_M_next_j42 e0 post M l0 l1 l2 1 s0 s1
set_option maxHeartbeats 4000000 in
set_option maxRecDepth 100000 in
theorem k_M_next_j37 {p : Program} {l : Launch} {e : Env} {s : State} {m : MethodId} {args : Array Value} {below : List Frame} {meth : Method} {c : Code} {D : va_G} {tc : Nat → ClassId} {A : Nat → Prop} {post : zM → Prop} (C0 : zC R_M cM_next 3 none "next" D tc A p l s m args meth c) : J_M_next_37 p l e s m args below meth c D tc A (MQ below (va_Qv post (zB D tc A) A) args s 0 0 A) (w_M_next_j37 (tc 9) post) := by
  obtain ⟨hx, hb, hml, hr, hown, htb, hlk, hA, hG, hin, hex⟩ := id C0
  have hK := hG.1
  intro M l0 l1 l2 s0 s1 H locs ls hM hS hl hw
  refine lv_iconst (v := 1) hx hb dM_next_37 (by decide +kernel) ?_
  refine lv_goto (tgt := 42) hx hb dM_next_38 (by decide) ?_
  exact k_M_next_j42 C0  _ _ _ _ _ _ _ _ _ _ hM hS (lv_sub hl [0, 1, 2] rfl) hw
def w_M_next_j27 (e0 : Nat) (post : zM → Prop) (M : zM) (l0 : Nat) (l1 : Int32) (l2 : Int32) (s0 : Int32) (s1 : Nat) : Prop := ((l2 = (-1)) → w_M_next_j37 e0 post M l0 l1 l2 s0 s1) ∧ (¬ (l2 = (-1)) → ((l2 ≤ l1) → w_M_next_j42 e0 post M l0 l1 l2 0 s0 s1) ∧ (¬ (l2 ≤ l1) → w_M_next_j37 e0 post M l0 l1 l2 s0 s1))
set_option maxHeartbeats 4000000 in
set_option maxRecDepth 100000 in
theorem k_M_next_j27 {p : Program} {l : Launch} {e : Env} {s : State} {m : MethodId} {args : Array Value} {below : List Frame} {meth : Method} {c : Code} {D : va_G} {tc : Nat → ClassId} {A : Nat → Prop} {post : zM → Prop} (C0 : zC R_M cM_next 3 none "next" D tc A p l s m args meth c) : J_M_next_27 p l e s m args below meth c D tc A (MQ below (va_Qv post (zB D tc A) A) args s 0 0 A) (w_M_next_j27 (tc 9) post) := by
  obtain ⟨hx, hb, hml, hr, hown, htb, hlk, hA, hG, hin, hex⟩ := id C0
  have hK := hG.1
  intro M l0 l1 l2 s0 s1 H locs ls hM hS hl hw
  refine lv_iload_n hx hb dM_next_27 rfl (lv_at hl 2 rfl) ?_
  refine lv_iconst (v := (-1)) hx hb dM_next_28 (by decide +kernel) ?_
  refine lv_icmp_eq (tgt := 37) hx hb dM_next_29 (by decide) (fun hq => ?_) (fun hq => ?_)
  · have hw := hw.1 hq
    exact k_M_next_j37 C0  _ _ _ _ _ _ _ _ _ hM hS (lv_sub hl [0, 1, 2] rfl) hw
  · have hw := hw.2 hq
    refine lv_iload_n hx hb dM_next_32 rfl (lv_at hl 2 rfl) ?_
    refine lv_iload_n hx hb dM_next_33 rfl (lv_at hl 1 rfl) ?_
    refine lv_icmp_le (tgt := 41) hx hb dM_next_34 (by decide) (fun hq => ?_) (fun hq => ?_)
    · have hw := hw.1 hq
      refine lv_iconst (v := 0) hx hb dM_next_41 (by decide +kernel) ?_
      exact k_M_next_j42 C0  _ _ _ _ _ _ _ _ _ _ hM hS (lv_sub hl [0, 1, 2] rfl) hw
    · have hw := hw.2 hq
      exact k_M_next_j37 C0  _ _ _ _ _ _ _ _ _ hM hS (lv_sub hl [0, 1, 2] rfl) hw
def w_M_next_j26 (e0 : Nat) (post : zM → Prop) (M : zM) (l0 : Nat) (l1 : Int32) (l2 : Int32) (s0 : Nat) : Prop := w_M_next_j27 e0 post M l0 l1 l2 0 s0
set_option maxHeartbeats 4000000 in
set_option maxRecDepth 100000 in
theorem k_M_next_j26 {p : Program} {l : Launch} {e : Env} {s : State} {m : MethodId} {args : Array Value} {below : List Frame} {meth : Method} {c : Code} {D : va_G} {tc : Nat → ClassId} {A : Nat → Prop} {post : zM → Prop} (C0 : zC R_M cM_next 3 none "next" D tc A p l s m args meth c) : J_M_next_26 p l e s m args below meth c D tc A (MQ below (va_Qv post (zB D tc A) A) args s 0 0 A) (w_M_next_j26 (tc 9) post) := by
  obtain ⟨hx, hb, hml, hr, hown, htb, hlk, hA, hG, hin, hex⟩ := id C0
  have hK := hG.1
  intro M l0 l1 l2 s0 H locs ls hM hS hl hw
  refine lv_iconst (v := 0) hx hb dM_next_26 (by decide +kernel) ?_
  exact k_M_next_j27 C0  _ _ _ _ _ _ _ _ _ hM hS (lv_sub hl [0, 1, 2] rfl) hw
def w_M_next_j22 (e0 : Nat) (post : zM → Prop) (M : zM) (l0 : Nat) (l1 : Int32) (l2 : Int32) (s0 : Nat) : Prop := w_M_next_j27 e0 post M l0 l1 l2 1 s0
set_option maxHeartbeats 4000000 in
set_option maxRecDepth 100000 in
theorem k_M_next_j22 {p : Program} {l : Launch} {e : Env} {s : State} {m : MethodId} {args : Array Value} {below : List Frame} {meth : Method} {c : Code} {D : va_G} {tc : Nat → ClassId} {A : Nat → Prop} {post : zM → Prop} (C0 : zC R_M cM_next 3 none "next" D tc A p l s m args meth c) : J_M_next_22 p l e s m args below meth c D tc A (MQ below (va_Qv post (zB D tc A) A) args s 0 0 A) (w_M_next_j22 (tc 9) post) := by
  obtain ⟨hx, hb, hml, hr, hown, htb, hlk, hA, hG, hin, hex⟩ := id C0
  have hK := hG.1
  intro M l0 l1 l2 s0 H locs ls hM hS hl hw
  refine lv_iconst (v := 1) hx hb dM_next_22 (by decide +kernel) ?_
  refine lv_goto (tgt := 27) hx hb dM_next_23 (by decide) ?_
  exact k_M_next_j27 C0  _ _ _ _ _ _ _ _ _ hM hS (lv_sub hl [0, 1, 2] rfl) hw
def w_M_next (e0 : Nat) (post : zM → Prop) (M : zM) (h0 : Nat) (x1 : Int32) (x2 : Int32) : Prop := wIs M h0 4 ∧ w_M_isGroup e0 (fun r2 M1 => ((r2 = 0) → w_M_next_j26 e0 post M1 h0 x1 x2 h0) ∧ (¬ (r2 = 0) → ((x2 = (-1)) → w_M_next_j22 e0 post M1 h0 x1 x2 h0) ∧ (¬ (x2 = (-1)) → wIs M1 h0 4 ∧ w_M_isGroup e0 (fun r4 M3 => ((r4 = 0) → w_M_next_j26 e0 post M3 h0 x1 x2 h0) ∧ (¬ (r4 = 0) → w_M_next_j22 e0 post M3 h0 x1 x2 h0)) M1 h0 x2))) M h0 x1
set_option maxHeartbeats 4000000 in
set_option maxRecDepth 100000 in
theorem k_M_next {l : Launch} {D : va_G} {tc : Nat → ClassId} {A : Nat → Prop} {post : zM → Prop} {M : zM} {h0 : Nat} {x1 : Int32} {x2 : Int32} (hw : w_M_next (tc 9) post M h0 x1 x2) : Met l yM_next (.code yM_next cM_next 3 none :: zTB) r_M_next (va_Pc [.ref h0, .int x1, .int x2] (zI D tc A M)) (va_Qv post (zB D tc A) A) 0 0 A := by
  refine Met.ofW (cc := cM_next) (maxL := 3) (ret := none) (by decide +kernel) rfl ?_
  intro p e s m args below meth c s₁ B hml hv
  obtain ⟨rfl, hA, hM, hG⟩ := hv
  have C0 := zC_of (D := D) (tc := tc) (A := A) B hml (zC_ex B) hA hG
  obtain ⟨hx, hb, hml, hr, hown, htb, hlk, hA, hG, hin, hex⟩ := id C0
  have hK := hG.1
  have hS : va_S A s.heap s.heap [] := va_S.rf
  have hl := lv_entry ([.ref h0, .int x1, .int x2]) (n := 3) (Nat.le_of_ble_eq_true rfl)
  rw [lg_entry_eq]
  generalize (lg_sl ([.ref h0, .int x1, .int x2]) ++ List.replicate (3 - (lg_sl ([.ref h0, .int x1, .int x2])).length) Slot.unset).toArray = ls at hl ⊢
  have hl : lv_has ls 3 [(0, .ref h0), (1, .int x1), (2, .int x2)] := hl
  refine lv_aload_n hx hb dM_next_0 rfl (lv_at hl 0 rfl) ?_
  refine lv_aload_n hx hb dM_next_1 rfl (lv_at hl 0 rfl) ?_
  refine lv_iload_n hx hb dM_next_2 rfl (lv_at hl 1 rfl) ?_
  obtain ⟨⟨fs7, h8⟩, hw⟩ := hw
  refine va_calli (va_runV (As := [.int x1]) (rest := [.ref h0]) ⟨hx, hb, hml, hown, htb⟩ (k_M_isGroup (l := l) (D := D) (tc := tc) (A := A) hw) (cw_M_83 htb ⟨Nat.le_of_ble_eq_true rfl, Nat.le_of_ble_eq_true rfl⟩) (z_preV hG hA hS hM h8 rfl) rfl rfl hl.1 rfl (lv_room (Nat.le_of_ble_eq_true rfl)) dM_next_3 ⟨Nat.le_refl _, Nat.le_refl _⟩) hS (fun _ _ h => h) (fun _ h => h) (fun r2 M1 t H locs ht hvm hw hB _ _ hS => ?_)
  have hM : zP D vwCl tc A M1 H := by rw [← ht]; exact hB
  refine lv_if_eq (tgt := 26) hx hb dM_next_6 (by decide) (fun hq => ?_) (fun hq => ?_)
  · have hw := hw.1 hq
    exact k_M_next_j26 C0  _ _ _ _ _ _ _ _ hM hS (lv_sub hl [0, 1, 2] rfl) hw
  · have hw := hw.2 hq
    refine lv_iload_n hx hb dM_next_9 rfl (lv_at hl 2 rfl) ?_
    refine lv_iconst (v := (-1)) hx hb dM_next_10 (by decide +kernel) ?_
    refine lv_icmp_eq (tgt := 22) hx hb dM_next_11 (by decide) (fun hq => ?_) (fun hq => ?_)
    · have hw := hw.1 hq
      exact k_M_next_j22 C0  _ _ _ _ _ _ _ _ hM hS (lv_sub hl [0, 1, 2] rfl) hw
    · have hw := hw.2 hq
      refine lv_aload_n hx hb dM_next_14 rfl (lv_at hl 0 rfl) ?_
      refine lv_iload_n hx hb dM_next_15 rfl (lv_at hl 2 rfl) ?_
      obtain ⟨⟨fs5, h6⟩, hw⟩ := hw
      refine va_calli (va_runV (As := [.int x2]) (rest := [.ref h0]) ⟨hx, hb, hml, hown, htb⟩ (k_M_isGroup (l := l) (D := D) (tc := tc) (A := A) hw) (cw_M_83 htb ⟨Nat.le_of_ble_eq_true rfl, Nat.le_of_ble_eq_true rfl⟩) (z_preV hG hA hS hM h6 rfl) rfl rfl hl.1 rfl (lv_room (Nat.le_of_ble_eq_true rfl)) dM_next_16 ⟨Nat.le_refl _, Nat.le_refl _⟩) hS (fun _ _ h => h) (fun _ h => h) (fun r4 M3 t H locs ht hvm hw hB _ _ hS => ?_)
      have hM : zP D vwCl tc A M3 H := by rw [← ht]; exact hB
      refine lv_if_eq (tgt := 26) hx hb dM_next_19 (by decide) (fun hq => ?_) (fun hq => ?_)
      · have hw := hw.1 hq
        exact k_M_next_j26 C0  _ _ _ _ _ _ _ _ hM hS (lv_sub hl [0, 1, 2] rfl) hw
      · have hw := hw.2 hq
        exact k_M_next_j22 C0  _ _ _ _ _ _ _ _ hM hS (lv_sub hl [0, 1, 2] rfl) hw
abbrev r_M_person : Room := { frames := 2, cells := 0, slots := 0, locals := 43 }
abbrev J_M_person_20 (p : Program) (l : Launch) (e : Env) (s : State) (m : MethodId) (args : Array Value) (below : List Frame) (meth : Method) (c : Code) (D : va_G) (tc : Nat → ClassId) (A : Nat → Prop) (Q : State → Prop) (K : zM → Nat → Int32 → Int32 → Int32 → Nat → Prop) : Prop := ∀ (M : zM) (l0 : Nat) (l1 : Int32) (s0 : Int32) (s1 : Int32) (s2 : Nat) (H : Heap) (locs : List Loc) (ls : Array Slot), zP D vwCl tc A M H → va_S A s.heap H locs → lv_has ls 2 [(0, .ref l0), (1, .int l1)] → K M l0 l1 s0 s1 s2 → W p l e (r_M_person) s m args below meth c H locs 0 0 Q (F0 m 20 ls [.int s0, .int s1, .ref s2])
def w_M_person_j20 (e0 : Nat) (post : Int32 → zM → Prop) (M : zM) (l0 : Nat) (l1 : Int32) (s0 : Int32) (s1 : Int32) (s2 : Nat) : Prop := wIs M s2 4 ∧ w_M_goes e0 (fun r2 M1 => ((r2 = 0) → post 0 M1) ∧ (¬ (r2 = 0) → wGR M1 l0 4 7 (fun v3 => wGI M1 l0 4 6 (fun v7 => wSI M1 v3 0 v7 l1 (fun M15 => wGI M15 l0 4 6 (fun v16 => wPF M15 l0 4 6 (.int (v16 + 1)) (fun M23 => wGI M23 l0 4 6 (fun v24 => post (v24 - 1) M23)))))))) M s2 s1 s0 1
set_option maxHeartbeats 4000000 in
set_option maxRecDepth 100000 in
theorem k_M_person_j20 {p : Program} {l : Launch} {e : Env} {s : State} {m : MethodId} {args : Array Value} {below : List Frame} {meth : Method} {c : Code} {D : va_G} {tc : Nat → ClassId} {A : Nat → Prop} {post : Int32 → zM → Prop} (C0 : zC R_M cM_person 2 (some .int) "person" D tc A p l s m args meth c) : J_M_person_20 p l e s m args below meth c D tc A (MQ below (va_Qi post (zB D tc A) A) args s 0 0 A) (w_M_person_j20 (tc 9) post) := by
  obtain ⟨hx, hb, hml, hr, hown, htb, hlk, hA, hG, hin, hex⟩ := id C0
  have hK := hG.1
  intro M l0 l1 s0 s1 s2 H locs ls hM hS hl hw
  refine lv_iconst (v := 1) hx hb dM_person_20 (by decide +kernel) ?_
  obtain ⟨⟨fs28, h29⟩, hw⟩ := hw
  refine va_calli (va_runV (As := [.int s1, .int s0, .int 1]) (rest := []) ⟨hx, hb, hml, hown, htb⟩ (k_M_goes (l := l) (D := D) (tc := tc) (A := A) hw) (cw_M_79 htb ⟨Nat.le_of_ble_eq_true rfl, Nat.le_of_ble_eq_true rfl⟩) (z_preV hG hA hS hM h29 rfl) rfl rfl hl.1 rfl (lv_room (Nat.le_of_ble_eq_true rfl)) dM_person_21 ⟨Nat.le_refl _, Nat.le_refl _⟩) hS (fun _ _ h => h) (fun _ h => h) (fun r2 M1 t H locs ht hvm hw hB _ _ hS => ?_)
  have hM : zP D vwCl tc A M1 H := by rw [← ht]; exact hB
  refine lv_if_ne (tgt := 29) hx hb dM_person_24 (by decide) (fun hq => ?_) (fun hq => ?_)
  · have hw := hw.2 hq
    refine lv_aload_n hx hb dM_person_29 rfl (lv_at hl 0 rfl) ?_
    obtain ⟨fs4, v3, h5, ev6, hw⟩ := hw
    refine z_get hx hb htb inw_M hown hK hM h5 rfl 7 (by decide) (htb _ t_658) (fun _ h9 => h9) ev6 dM_person_30 ?_
    refine lv_aload_n hx hb dM_person_33 rfl (lv_at hl 0 rfl) ?_
    obtain ⟨fs8, v7, h9, ev10, hw⟩ := hw
    refine z_get hx hb htb inw_M hown hK hM h9 rfl 6 (by decide) (htb _ t_657) (fun _ h9 => h9) ev10 dM_person_34 ?_
    refine lv_iload_n hx hb dM_person_37 rfl (lv_at hl 1 rfl) ?_
    obtain ⟨n11, f12, h13, hi14, hw⟩ := hw
    refine z_iast hx hb hK hM hS 0 0 h13 rfl hi14 dM_person_38 (fun H locs hM hS => ?_)
    refine lv_aload_n hx hb dM_person_39 rfl (lv_at hl 0 rfl) ?_
    refine lv_dup hx hb dM_person_40 rfl ?_
    obtain ⟨fs17, v16, h18, ev19, hw⟩ := hw
    refine z_get hx hb htb inw_M hown hK hM h18 rfl 6 (by decide) (htb _ t_657) (fun _ h9 => h9) ev19 dM_person_41 ?_
    refine lv_iconst (v := 1) hx hb dM_person_44 (by decide +kernel) ?_
    refine lv_iadd hx hb dM_person_45 ?_
    obtain ⟨fs20, h21, hl22, hw⟩ := hw
    refine z_put (ty := .int) hx hb htb inw_M ty_M tyok_M nmok_M hown hK hM hS h21 rfl 6 (by decide) (htb _ t_657) (fun _ h9 => h9) rfl (by decide +kernel) rfl rfl hl22 dM_person_46 (fun H locs hM hS => ?_)
    refine lv_aload_n hx hb dM_person_49 rfl (lv_at hl 0 rfl) ?_
    obtain ⟨fs25, v24, h26, ev27, hw⟩ := hw
    refine z_get hx hb htb inw_M hown hK hM h26 rfl 6 (by decide) (htb _ t_657) (fun _ h9 => h9) ev27 dM_person_50 ?_
    refine lv_iconst (v := 1) hx hb dM_person_53 (by decide +kernel) ?_
    refine lv_isub hx hb dM_person_54 ?_
    exact W.iret hx hb hr (fun t ht hW => ⟨⟨_, _, rfl, hw, zB_of ht hM⟩, hS.F ht⟩) hS.2.2 dM_person_55
  · have hw := hw.1 hq
    refine lv_iconst (v := 0) hx hb dM_person_27 (by decide +kernel) ?_
    exact W.iret hx hb hr (fun t ht hW => ⟨⟨_, _, rfl, hw, zB_of ht hM⟩, hS.F ht⟩) hS.2.2 dM_person_28
def w_M_person (e0 : Nat) (post : Int32 → zM → Prop) (M : zM) (h0 : Nat) (x1 : Int32) : Prop := wIs M h0 4 ∧ w_M_isGroup e0 (fun r2 M1 => wGI M1 h0 4 6 (fun v3 => ((60 ≤ v3) → w_M_person_j20 e0 post M1 h0 x1 0 r2 h0) ∧ (¬ (60 ≤ v3) → w_M_person_j20 e0 post M1 h0 x1 1 r2 h0))) M h0 x1
set_option maxHeartbeats 4000000 in
set_option maxRecDepth 100000 in
theorem k_M_person {l : Launch} {D : va_G} {tc : Nat → ClassId} {A : Nat → Prop} {post : Int32 → zM → Prop} {M : zM} {h0 : Nat} {x1 : Int32} (hw : w_M_person (tc 9) post M h0 x1) : Met l yM_person (.code yM_person cM_person 2 (some .int) :: zTB) r_M_person (va_Pc [.ref h0, .int x1] (zI D tc A M)) (va_Qi post (zB D tc A) A) 0 0 A := by
  refine Met.ofW (cc := cM_person) (maxL := 2) (ret := (some .int)) (by decide +kernel) rfl ?_
  intro p e s m args below meth c s₁ B hml hv
  obtain ⟨rfl, hA, hM, hG⟩ := hv
  have C0 := zC_of (D := D) (tc := tc) (A := A) B hml (zC_ex B) hA hG
  obtain ⟨hx, hb, hml, hr, hown, htb, hlk, hA, hG, hin, hex⟩ := id C0
  have hK := hG.1
  have hS : va_S A s.heap s.heap [] := va_S.rf
  have hl := lv_entry ([.ref h0, .int x1]) (n := 2) (Nat.le_of_ble_eq_true rfl)
  rw [lg_entry_eq]
  generalize (lg_sl ([.ref h0, .int x1]) ++ List.replicate (2 - (lg_sl ([.ref h0, .int x1])).length) Slot.unset).toArray = ls at hl ⊢
  have hl : lv_has ls 2 [(0, .ref h0), (1, .int x1)] := hl
  refine lv_aload_n hx hb dM_person_0 rfl (lv_at hl 0 rfl) ?_
  refine lv_aload_n hx hb dM_person_1 rfl (lv_at hl 0 rfl) ?_
  refine lv_iload_n hx hb dM_person_2 rfl (lv_at hl 1 rfl) ?_
  obtain ⟨⟨fs7, h8⟩, hw⟩ := hw
  refine va_calli (va_runV (As := [.int x1]) (rest := [.ref h0]) ⟨hx, hb, hml, hown, htb⟩ (k_M_isGroup (l := l) (D := D) (tc := tc) (A := A) hw) (cw_M_83 htb ⟨Nat.le_of_ble_eq_true rfl, Nat.le_of_ble_eq_true rfl⟩) (z_preV hG hA hS hM h8 rfl) rfl rfl hl.1 rfl (lv_room (Nat.le_of_ble_eq_true rfl)) dM_person_3 ⟨Nat.le_refl _, Nat.le_refl _⟩) hS (fun _ _ h => h) (fun _ h => h) (fun r2 M1 t H locs ht hvm hw hB _ _ hS => ?_)
  have hM : zP D vwCl tc A M1 H := by rw [← ht]; exact hB
  refine lv_aload_n hx hb dM_person_6 rfl (lv_at hl 0 rfl) ?_
  obtain ⟨fs4, v3, h5, ev6, hw⟩ := hw
  refine z_get hx hb htb inw_M hown hK hM h5 rfl 6 (by decide) (htb _ t_657) (fun _ h9 => h9) ev6 dM_person_7 ?_
  refine lv_bipush (v := 60) hx hb dM_person_10 (by decide +kernel) ?_
  refine lv_icmp_ge (tgt := 19) hx hb dM_person_12 (by decide) (fun hq => ?_) (fun hq => ?_)
  · have hw := hw.1 hq
    refine lv_iconst (v := 0) hx hb dM_person_19 (by decide +kernel) ?_
    exact k_M_person_j20 C0  _ _ _ _ _ _ _ _ _ hM hS (lv_sub hl [0, 1] rfl) hw
  · have hw := hw.2 hq
    refine lv_iconst (v := 1) hx hb dM_person_15 (by decide +kernel) ?_
    refine lv_goto (tgt := 20) hx hb dM_person_16 (by decide) ?_
    exact k_M_person_j20 C0  _ _ _ _ _ _ _ _ _ hM hS (lv_sub hl [0, 1] rfl) hw
abbrev r_M_isPerson : Room := { frames := 1, cells := 0, slots := 0, locals := 22 }
def w_M_isPerson (e0 : Nat) (post : Int32 → zM → Prop) (M : zM) (h0 : Nat) (x1 : Int32) : Prop := wGI M h0 4 6 (fun v1 => w_M_in e0 (fun r6 M5 => (narrow .boolean (.int r6) = .int r6) ∧ post r6 M5) M x1 0 (v1 - 1))
set_option maxHeartbeats 4000000 in
set_option maxRecDepth 100000 in
theorem k_M_isPerson {l : Launch} {D : va_G} {tc : Nat → ClassId} {A : Nat → Prop} {post : Int32 → zM → Prop} {M : zM} {h0 : Nat} {x1 : Int32} (hw : w_M_isPerson (tc 9) post M h0 x1) : Met l yM_isPerson (.code yM_isPerson cM_isPerson 2 (some .boolean) :: zTB) r_M_isPerson (va_Pc [.ref h0, .int x1] (zI D tc A M)) (va_Qi post (zB D tc A) A) 0 0 A := by
  refine Met.ofW (cc := cM_isPerson) (maxL := 2) (ret := (some .boolean)) (by decide +kernel) rfl ?_
  intro p e s m args below meth c s₁ B hml hv
  obtain ⟨rfl, hA, hM, hG⟩ := hv
  have C0 := zC_of (D := D) (tc := tc) (A := A) B hml (zC_ex B) hA hG
  obtain ⟨hx, hb, hml, hr, hown, htb, hlk, hA, hG, hin, hex⟩ := id C0
  have hK := hG.1
  have hS : va_S A s.heap s.heap [] := va_S.rf
  have hl := lv_entry ([.ref h0, .int x1]) (n := 2) (Nat.le_of_ble_eq_true rfl)
  rw [lg_entry_eq]
  generalize (lg_sl ([.ref h0, .int x1]) ++ List.replicate (2 - (lg_sl ([.ref h0, .int x1])).length) Slot.unset).toArray = ls at hl ⊢
  have hl : lv_has ls 2 [(0, .ref h0), (1, .int x1)] := hl
  refine lv_iload_n hx hb dM_isPerson_0 rfl (lv_at hl 1 rfl) ?_
  refine lv_iconst (v := 0) hx hb dM_isPerson_1 (by decide +kernel) ?_
  refine lv_aload_n hx hb dM_isPerson_2 rfl (lv_at hl 0 rfl) ?_
  obtain ⟨fs2, v1, h3, ev4, hw⟩ := hw
  refine z_get hx hb htb inw_M hown hK hM h3 rfl 6 (by decide) (htb _ t_657) (fun _ h9 => h9) ev4 dM_isPerson_3 ?_
  refine lv_iconst (v := 1) hx hb dM_isPerson_6 (by decide +kernel) ?_
  refine lv_isub hx hb dM_isPerson_7 ?_
  refine va_calli (va_runS (As := [.int x1, .int 0, .int (v1 - 1)]) (rest := []) ⟨hx, hb, hml, hown, htb⟩ (k_M_in (l := l) (D := D) (tc := tc) (A := A) hw) (cw_M_69 htb ⟨Nat.le_of_ble_eq_true rfl, Nat.le_of_ble_eq_true rfl⟩) (z_preS hG hA hS hM) rfl rfl hl.1 rfl (lv_room (Nat.le_of_ble_eq_true rfl)) dM_isPerson_8 ⟨Nat.le_refl _, Nat.le_refl _⟩) hS (fun _ _ h => h) (fun _ h => h) (fun r6 M5 t H locs ht hvm hw hB _ _ hS => ?_)
  have hM : zP D vwCl tc A M5 H := by rw [← ht]; exact hB
  obtain ⟨hnb, hw⟩ := hw
  exact W.zret hx hb hr hnb (fun t ht hW => ⟨⟨_, _, rfl, hw, zB_of ht hM⟩, hS.F ht⟩) hS.2.2 dM_isPerson_11
abbrev r_M_way : Room := { frames := 2, cells := 0, slots := 0, locals := 43 }
abbrev J_M_way_101 (p : Program) (l : Launch) (e : Env) (s : State) (m : MethodId) (args : Array Value) (below : List Frame) (meth : Method) (c : Code) (D : va_G) (tc : Nat → ClassId) (A : Nat → Prop) (Q : State → Prop) (K : zM → Nat → Int32 → Prop) : Prop := ∀ (M : zM) (l0 : Nat) (l1 : Int32) (H : Heap) (locs : List Loc) (ls : Array Slot), zP D vwCl tc A M H → va_S A s.heap H locs → lv_has ls 5 [(0, .ref l0), (1, .int l1)] → K M l0 l1 → W p l e (r_M_way) s m args below meth c H locs 0 0 Q (F0 m 101 ls [])
abbrev J_M_way_56 (p : Program) (l : Launch) (e : Env) (s : State) (m : MethodId) (args : Array Value) (below : List Frame) (meth : Method) (c : Code) (D : va_G) (tc : Nat → ClassId) (A : Nat → Prop) (Q : State → Prop) (K : zM → Nat → Int32 → Int32 → Int32 → Int32 → Prop) : Prop := ∀ (M : zM) (l0 : Nat) (l1 : Int32) (l2 : Int32) (l3 : Int32) (l4 : Int32) (H : Heap) (locs : List Loc) (ls : Array Slot), zP D vwCl tc A M H → va_S A s.heap H locs → lv_has ls 5 [(0, .ref l0), (1, .int l1), (2, .int l2), (3, .int l3), (4, .int l4)] → K M l0 l1 l2 l3 l4 → W p l e (r_M_way) s m args below meth c H locs 0 0 Q (F0 m 56 ls [])
abbrev J_M_way_24 (p : Program) (l : Launch) (e : Env) (s : State) (m : MethodId) (args : Array Value) (below : List Frame) (meth : Method) (c : Code) (D : va_G) (tc : Nat → ClassId) (A : Nat → Prop) (Q : State → Prop) (K : zM → Nat → Int32 → Int32 → Int32 → Int32 → Prop) : Prop := ∀ (M : zM) (l0 : Nat) (l1 : Int32) (l2 : Int32) (l3 : Int32) (l4 : Int32) (H : Heap) (locs : List Loc) (ls : Array Slot), zP D vwCl tc A M H → va_S A s.heap H locs → lv_has ls 5 [(0, .ref l0), (1, .int l1), (2, .int l2), (3, .int l3), (4, .int l4)] → K M l0 l1 l2 l3 l4 → W p l e (r_M_way) s m args below meth c H locs 0 0 Q (F0 m 24 ls [])
def w_M_way_j101 (e0 : Nat) (post : Int32 → zM → Prop) (M : zM) (l0 : Nat) (l1 : Int32) : Prop := wGR M l0 4 8 (fun v1 => wLI M v1 0 l1 (fun v7 => post v7 M))
set_option maxHeartbeats 4000000 in
set_option maxRecDepth 100000 in
theorem k_M_way_j101 {p : Program} {l : Launch} {e : Env} {s : State} {m : MethodId} {args : Array Value} {below : List Frame} {meth : Method} {c : Code} {D : va_G} {tc : Nat → ClassId} {A : Nat → Prop} {post : Int32 → zM → Prop} (C0 : zC R_M cM_way 5 (some .int) "way" D tc A p l s m args meth c) : J_M_way_101 p l e s m args below meth c D tc A (MQ below (va_Qi post (zB D tc A) A) args s 0 0 A) (w_M_way_j101 (tc 9) post) := by
  obtain ⟨hx, hb, hml, hr, hown, htb, hlk, hA, hG, hin, hex⟩ := id C0
  have hK := hG.1
  intro M l0 l1 H locs ls hM hS hl hw
  refine lv_aload_n hx hb dM_way_101 rfl (lv_at hl 0 rfl) ?_
  obtain ⟨fs2, v1, h3, ev4, hw⟩ := hw
  refine z_get hx hb htb inw_M hown hK hM h3 rfl 8 (by decide) (htb _ t_659) (fun _ h9 => h9) ev4 dM_way_102 ?_
  refine lv_iload_n hx hb dM_way_105 rfl (lv_at hl 1 rfl) ?_
  obtain ⟨n5, f6, v7, h8, hi9, ev10, hw⟩ := hw
  refine z_iald hx hb hK hM 0 0 h8 rfl hi9 ev10 dM_way_106 ?_
  exact W.iret hx hb hr (fun t ht hW => ⟨⟨_, _, rfl, hw, zB_of ht hM⟩, hS.F ht⟩) hS.2.2 dM_way_107
def w_M_way_j56 (e0 : Nat) (post : Int32 → zM → Prop) (M : zM) (l0 : Nat) (l1 : Int32) (l2 : Int32) (l3 : Int32) (l4 : Int32) : Prop := wGR M l0 4 9 (fun v1 => wSI M v1 0 ((3 * l1) + l4) l2 (fun M9 => wGR M9 l0 4 10 (fun v10 => wSZ M9 v10 1 ((3 * l1) + l4) l3 (fun M18 => wGR M18 l0 4 8 (fun v19 => wLI M18 v19 0 l1 (fun v25 => ((l4 = v25) → wGR M18 l0 4 8 (fun v29 => wLI M18 v29 0 l1 (fun v35 => wSI M18 v29 0 l1 (v35 + 1) (fun M43 => w_M_way_j101 e0 post M43 l0 l1)))) ∧ (¬ (l4 = v25) → w_M_way_j101 e0 post M18 l0 l1)))))))
set_option maxHeartbeats 4000000 in
set_option maxRecDepth 100000 in
theorem k_M_way_j56 {p : Program} {l : Launch} {e : Env} {s : State} {m : MethodId} {args : Array Value} {below : List Frame} {meth : Method} {c : Code} {D : va_G} {tc : Nat → ClassId} {A : Nat → Prop} {post : Int32 → zM → Prop} (C0 : zC R_M cM_way 5 (some .int) "way" D tc A p l s m args meth c) : J_M_way_56 p l e s m args below meth c D tc A (MQ below (va_Qi post (zB D tc A) A) args s 0 0 A) (w_M_way_j56 (tc 9) post) := by
  obtain ⟨hx, hb, hml, hr, hown, htb, hlk, hA, hG, hin, hex⟩ := id C0
  have hK := hG.1
  intro M l0 l1 l2 l3 l4 H locs ls hM hS hl hw
  refine lv_aload_n hx hb dM_way_56 rfl (lv_at hl 0 rfl) ?_
  obtain ⟨fs2, v1, h3, ev4, hw⟩ := hw
  refine z_get hx hb htb inw_M hown hK hM h3 rfl 9 (by decide) (htb _ t_660) (fun _ h9 => h9) ev4 dM_way_57 ?_
  refine lv_iconst (v := 3) hx hb dM_way_60 (by decide +kernel) ?_
  refine lv_iload_n hx hb dM_way_61 rfl (lv_at hl 1 rfl) ?_
  refine lv_imul hx hb dM_way_62 ?_
  refine lv_iload hx hb dM_way_63 (lv_at hl 4 rfl) ?_
  refine lv_iadd hx hb dM_way_65 ?_
  refine lv_iload_n hx hb dM_way_66 rfl (lv_at hl 2 rfl) ?_
  obtain ⟨n5, f6, h7, hi8, hw⟩ := hw
  refine z_iast hx hb hK hM hS 0 0 h7 rfl hi8 dM_way_67 (fun H locs hM hS => ?_)
  refine lv_aload_n hx hb dM_way_68 rfl (lv_at hl 0 rfl) ?_
  obtain ⟨fs11, v10, h12, ev13, hw⟩ := hw
  refine z_get hx hb htb inw_M hown hK hM h12 rfl 10 (by decide) (htb _ t_661) (fun _ h9 => h9) ev13 dM_way_69 ?_
  refine lv_iconst (v := 3) hx hb dM_way_72 (by decide +kernel) ?_
  refine lv_iload_n hx hb dM_way_73 rfl (lv_at hl 1 rfl) ?_
  refine lv_imul hx hb dM_way_74 ?_
  refine lv_iload hx hb dM_way_75 (lv_at hl 4 rfl) ?_
  refine lv_iadd hx hb dM_way_77 ?_
  refine lv_iload_n hx hb dM_way_78 rfl (lv_at hl 3 rfl) ?_
  obtain ⟨n14, f15, h16, hi17, hw⟩ := hw
  refine z_zast hx hb hK hM hS 1 1 h16 rfl hi17 dM_way_79 (fun H locs hM hS => ?_)
  refine lv_iload hx hb dM_way_80 (lv_at hl 4 rfl) ?_
  refine lv_aload_n hx hb dM_way_82 rfl (lv_at hl 0 rfl) ?_
  obtain ⟨fs20, v19, h21, ev22, hw⟩ := hw
  refine z_get hx hb htb inw_M hown hK hM h21 rfl 8 (by decide) (htb _ t_659) (fun _ h9 => h9) ev22 dM_way_83 ?_
  refine lv_iload_n hx hb dM_way_86 rfl (lv_at hl 1 rfl) ?_
  obtain ⟨n23, f24, v25, h26, hi27, ev28, hw⟩ := hw
  refine z_iald hx hb hK hM 0 0 h26 rfl hi27 ev28 dM_way_87 ?_
  refine lv_icmp_ne (tgt := 101) hx hb dM_way_88 (by decide) (fun hq => ?_) (fun hq => ?_)
  · have hw := hw.2 hq
    exact k_M_way_j101 C0  _ _ _ _ _ _ hM hS (lv_sub hl [0, 1] rfl) hw
  · have hw := hw.1 hq
    refine lv_aload_n hx hb dM_way_91 rfl (lv_at hl 0 rfl) ?_
    obtain ⟨fs30, v29, h31, ev32, hw⟩ := hw
    refine z_get hx hb htb inw_M hown hK hM h31 rfl 8 (by decide) (htb _ t_659) (fun _ h9 => h9) ev32 dM_way_92 ?_
    refine lv_iload_n hx hb dM_way_95 rfl (lv_at hl 1 rfl) ?_
    refine lv_dup2_11 hx hb dM_way_96 rfl rfl ?_
    obtain ⟨n33, f34, v35, h36, hi37, ev38, hw⟩ := hw
    refine z_iald hx hb hK hM 0 0 h36 rfl hi37 ev38 dM_way_97 ?_
    refine lv_iconst (v := 1) hx hb dM_way_98 (by decide +kernel) ?_
    refine lv_iadd hx hb dM_way_99 ?_
    obtain ⟨n39, f40, h41, hi42, hw⟩ := hw
    refine z_iast hx hb hK hM hS 0 0 h41 rfl hi42 dM_way_100 (fun H locs hM hS => ?_)
    exact k_M_way_j101 C0  _ _ _ _ _ _ hM hS (lv_sub hl [0, 1] rfl) hw
def w_M_way_j24 (e0 : Nat) (post : Int32 → zM → Prop) : Nat → zM → Nat → Int32 → Int32 → Int32 → Int32 → Prop
  | 0 => fun _ _ _ _ _ _ => False
  | n + 1 => fun M l0 l1 l2 l3 l4 => wGR M l0 4 8 (fun v1 => wLI M v1 0 l1 (fun v7 => ((v7 ≤ l4) → w_M_way_j56 e0 post M l0 l1 l2 l3 l4) ∧ (¬ (v7 ≤ l4) → wGR M l0 4 9 (fun v11 => wLI M v11 0 ((3 * l1) + l4) (fun v17 => ((v17 = l2) → w_M_way_j56 e0 post M l0 l1 l2 l3 l4) ∧ (¬ (v17 = l2) → w_M_way_j24 e0 post n M l0 l1 l2 l3 (l4 + 1)))))))
set_option maxHeartbeats 4000000 in
set_option maxRecDepth 100000 in
theorem k_M_way_j24 {p : Program} {l : Launch} {e : Env} {s : State} {m : MethodId} {args : Array Value} {below : List Frame} {meth : Method} {c : Code} {D : va_G} {tc : Nat → ClassId} {A : Nat → Prop} {post : Int32 → zM → Prop} (C0 : zC R_M cM_way 5 (some .int) "way" D tc A p l s m args meth c) : ∀ n : Nat, J_M_way_24 p l e s m args below meth c D tc A (MQ below (va_Qi post (zB D tc A) A) args s 0 0 A) (w_M_way_j24 (tc 9) post n) := by
  obtain ⟨hx, hb, hml, hr, hown, htb, hlk, hA, hG, hin, hex⟩ := id C0
  have hK := hG.1
  intro n
  induction n with
  | zero => intro M l0 l1 l2 l3 l4 H locs ls hM hS hl hw; exact hw.elim
  | succ n ih =>
    intro M l0 l1 l2 l3 l4 H locs ls hM hS hl hw
    refine lv_iload hx hb dM_way_24 (lv_at hl 4 rfl) ?_
    refine lv_aload_n hx hb dM_way_26 rfl (lv_at hl 0 rfl) ?_
    obtain ⟨fs2, v1, h3, ev4, hw⟩ := hw
    refine z_get hx hb htb inw_M hown hK hM h3 rfl 8 (by decide) (htb _ t_659) (fun _ h9 => h9) ev4 dM_way_27 ?_
    refine lv_iload_n hx hb dM_way_30 rfl (lv_at hl 1 rfl) ?_
    obtain ⟨n5, f6, v7, h8, hi9, ev10, hw⟩ := hw
    refine z_iald hx hb hK hM 0 0 h8 rfl hi9 ev10 dM_way_31 ?_
    refine lv_icmp_ge (tgt := 56) hx hb dM_way_32 (by decide) (fun hq => ?_) (fun hq => ?_)
    · have hw := hw.1 hq
      exact k_M_way_j56 C0  _ _ _ _ _ _ _ _ _ hM hS (lv_sub hl [0, 1, 2, 3, 4] rfl) hw
    · have hw := hw.2 hq
      refine lv_aload_n hx hb dM_way_35 rfl (lv_at hl 0 rfl) ?_
      obtain ⟨fs12, v11, h13, ev14, hw⟩ := hw
      refine z_get hx hb htb inw_M hown hK hM h13 rfl 9 (by decide) (htb _ t_660) (fun _ h9 => h9) ev14 dM_way_36 ?_
      refine lv_iconst (v := 3) hx hb dM_way_39 (by decide +kernel) ?_
      refine lv_iload_n hx hb dM_way_40 rfl (lv_at hl 1 rfl) ?_
      refine lv_imul hx hb dM_way_41 ?_
      refine lv_iload hx hb dM_way_42 (lv_at hl 4 rfl) ?_
      refine lv_iadd hx hb dM_way_44 ?_
      obtain ⟨n15, f16, v17, h18, hi19, ev20, hw⟩ := hw
      refine z_iald hx hb hK hM 0 0 h18 rfl hi19 ev20 dM_way_45 ?_
      refine lv_iload_n hx hb dM_way_46 rfl (lv_at hl 2 rfl) ?_
      refine lv_icmp_eq (tgt := 56) hx hb dM_way_47 (by decide) (fun hq => ?_) (fun hq => ?_)
      · have hw := hw.1 hq
        exact k_M_way_j56 C0  _ _ _ _ _ _ _ _ _ hM hS (lv_sub hl [0, 1, 2, 3, 4] rfl) hw
      · have hw := hw.2 hq
        refine lv_iinc (v := (l4 + 1)) (lv' := [(4, .int (l4 + 1)), (0, .ref l0), (1, .int l1), (2, .int l2), (3, .int l3)]) hx hb dM_way_50 hl (k := 4) rfl rfl (by decide) rfl (fun ls hl => ?_)
        refine lv_goto (tgt := 24) hx hb dM_way_53 (by decide) ?_
        exact ih _ _ _ _ _ _ _ _ _ hM hS (lv_sub hl [1, 2, 3, 4, 0] rfl) hw
def w_M_way (e0 : Nat) (post : Int32 → zM → Prop) (M : zM) (h0 : Nat) (x1 : Int32) (x2 : Int32) (x3 : Int32) : Prop := wIs M h0 4 ∧ w_M_isPerson e0 (fun r2 M1 => w_M_in e0 (fun r4 M3 => wIs M3 h0 4 ∧ w_M_goes e0 (fun r6 M5 => ((r6 = 0) → post 0 M5) ∧ (¬ (r6 = 0) → ∃ nn, w_M_way_j24 e0 post nn M5 h0 x1 x2 x3 0)) M3 h0 r2 r4 1) M1 x2 0 2) M h0 x1
set_option maxHeartbeats 4000000 in
set_option maxRecDepth 100000 in
theorem k_M_way {l : Launch} {D : va_G} {tc : Nat → ClassId} {A : Nat → Prop} {post : Int32 → zM → Prop} {M : zM} {h0 : Nat} {x1 : Int32} {x2 : Int32} {x3 : Int32} (hw : w_M_way (tc 9) post M h0 x1 x2 x3) : Met l yM_way (.code yM_way cM_way 5 (some .int) :: zTB) r_M_way (va_Pc [.ref h0, .int x1, .int x2, .int x3] (zI D tc A M)) (va_Qi post (zB D tc A) A) 0 0 A := by
  refine Met.ofW (cc := cM_way) (maxL := 5) (ret := (some .int)) (by decide +kernel) rfl ?_
  intro p e s m args below meth c s₁ B hml hv
  obtain ⟨rfl, hA, hM, hG⟩ := hv
  have C0 := zC_of (D := D) (tc := tc) (A := A) B hml (zC_ex B) hA hG
  obtain ⟨hx, hb, hml, hr, hown, htb, hlk, hA, hG, hin, hex⟩ := id C0
  have hK := hG.1
  have hS : va_S A s.heap s.heap [] := va_S.rf
  have hl := lv_entry ([.ref h0, .int x1, .int x2, .int x3]) (n := 5) (Nat.le_of_ble_eq_true rfl)
  rw [lg_entry_eq]
  generalize (lg_sl ([.ref h0, .int x1, .int x2, .int x3]) ++ List.replicate (5 - (lg_sl ([.ref h0, .int x1, .int x2, .int x3])).length) Slot.unset).toArray = ls at hl ⊢
  have hl : lv_has ls 5 [(0, .ref h0), (1, .int x1), (2, .int x2), (3, .int x3)] := hl
  refine lv_aload_n hx hb dM_way_0 rfl (lv_at hl 0 rfl) ?_
  refine lv_aload_n hx hb dM_way_1 rfl (lv_at hl 0 rfl) ?_
  refine lv_iload_n hx hb dM_way_2 rfl (lv_at hl 1 rfl) ?_
  obtain ⟨⟨fs9, h10⟩, hw⟩ := hw
  refine va_calli (va_runV (As := [.int x1]) (rest := [.ref h0]) ⟨hx, hb, hml, hown, htb⟩ (k_M_isPerson (l := l) (D := D) (tc := tc) (A := A) hw) (cw_M_87 htb ⟨Nat.le_of_ble_eq_true rfl, Nat.le_of_ble_eq_true rfl⟩) (z_preV hG hA hS hM h10 rfl) rfl rfl hl.1 rfl (lv_room (Nat.le_of_ble_eq_true rfl)) dM_way_3 ⟨Nat.le_refl _, Nat.le_refl _⟩) hS (fun _ _ h => h) (fun _ h => h) (fun r2 M1 t H locs ht hvm hw hB _ _ hS => ?_)
  have hM : zP D vwCl tc A M1 H := by rw [← ht]; exact hB
  refine lv_iload_n hx hb dM_way_6 rfl (lv_at hl 2 rfl) ?_
  refine lv_iconst (v := 0) hx hb dM_way_7 (by decide +kernel) ?_
  refine lv_iconst (v := 2) hx hb dM_way_8 (by decide +kernel) ?_
  refine va_calli (va_runS (As := [.int x2, .int 0, .int 2]) (rest := [.int r2, .ref h0]) ⟨hx, hb, hml, hown, htb⟩ (k_M_in (l := l) (D := D) (tc := tc) (A := A) hw) (cw_M_69 htb ⟨Nat.le_of_ble_eq_true rfl, Nat.le_of_ble_eq_true rfl⟩) (z_preS hG hA hS hM) rfl rfl hl.1 rfl (lv_room (Nat.le_of_ble_eq_true rfl)) dM_way_9 ⟨Nat.le_refl _, Nat.le_refl _⟩) hS (fun _ _ h => h) (fun _ h => h) (fun r4 M3 t H locs ht hvm hw hB _ _ hS => ?_)
  have hM : zP D vwCl tc A M3 H := by rw [← ht]; exact hB
  refine lv_iconst (v := 1) hx hb dM_way_12 (by decide +kernel) ?_
  obtain ⟨⟨fs7, h8⟩, hw⟩ := hw
  refine va_calli (va_runV (As := [.int r2, .int r4, .int 1]) (rest := []) ⟨hx, hb, hml, hown, htb⟩ (k_M_goes (l := l) (D := D) (tc := tc) (A := A) hw) (cw_M_79 htb ⟨Nat.le_of_ble_eq_true rfl, Nat.le_of_ble_eq_true rfl⟩) (z_preV hG hA hS hM h8 rfl) rfl rfl hl.1 rfl (lv_room (Nat.le_of_ble_eq_true rfl)) dM_way_13 ⟨Nat.le_refl _, Nat.le_refl _⟩) hS (fun _ _ h => h) (fun _ h => h) (fun r6 M5 t H locs ht hvm hw hB _ _ hS => ?_)
  have hM : zP D vwCl tc A M5 H := by rw [← ht]; exact hB
  refine lv_if_ne (tgt := 21) hx hb dM_way_16 (by decide) (fun hq => ?_) (fun hq => ?_)
  · have hw := hw.2 hq
    refine lv_iconst (v := 0) hx hb dM_way_21 (by decide +kernel) ?_
    refine lv_istore (lv' := [(4, .int 0), (0, .ref h0), (1, .int x1), (2, .int x2), (3, .int x3)]) hx hb dM_way_22 hl (by decide) rfl (fun ls hl => ?_)
    obtain ⟨nfu, hw⟩ := hw
    exact k_M_way_j24 C0  nfu _ _ _ _ _ _ _ _ _ hM hS (lv_sub hl [1, 2, 3, 4, 0] rfl) hw
  · have hw := hw.1 hq
    refine lv_iconst (v := 0) hx hb dM_way_19 (by decide +kernel) ?_
    exact W.iret hx hb hr (fun t ht hW => ⟨⟨_, _, rfl, hw, zB_of ht hM⟩, hS.F ht⟩) hS.2.2 dM_way_20
abbrev r_M_is : Room := { frames := 2, cells := 0, slots := 0, locals := 43 }
def w_M_is (e0 : Nat) (post : zM → Prop) (M : zM) (h0 : Nat) (x1 : Int32) (x2 : Int32) : Prop := wIs M h0 4 ∧ w_M_isPerson e0 (fun r2 M1 => w_M_in e0 (fun r4 M3 => wIs M3 h0 4 ∧ w_M_goes e0 (fun r6 M5 => ((r6 = 0) → post M5) ∧ (¬ (r6 = 0) → wGR M5 h0 4 11 (fun v7 => wSI M5 v7 0 x1 x2 (fun M15 => post M15)))) M3 h0 r2 r4 1) M1 x2 0 2) M h0 x1
set_option maxHeartbeats 4000000 in
set_option maxRecDepth 100000 in
theorem k_M_is {l : Launch} {D : va_G} {tc : Nat → ClassId} {A : Nat → Prop} {post : zM → Prop} {M : zM} {h0 : Nat} {x1 : Int32} {x2 : Int32} (hw : w_M_is (tc 9) post M h0 x1 x2) : Met l yM_is (.code yM_is cM_is 3 none :: zTB) r_M_is (va_Pc [.ref h0, .int x1, .int x2] (zI D tc A M)) (va_Qv post (zB D tc A) A) 0 0 A := by
  refine Met.ofW (cc := cM_is) (maxL := 3) (ret := none) (by decide +kernel) rfl ?_
  intro p e s m args below meth c s₁ B hml hv
  obtain ⟨rfl, hA, hM, hG⟩ := hv
  have C0 := zC_of (D := D) (tc := tc) (A := A) B hml (zC_ex B) hA hG
  obtain ⟨hx, hb, hml, hr, hown, htb, hlk, hA, hG, hin, hex⟩ := id C0
  have hK := hG.1
  have hS : va_S A s.heap s.heap [] := va_S.rf
  have hl := lv_entry ([.ref h0, .int x1, .int x2]) (n := 3) (Nat.le_of_ble_eq_true rfl)
  rw [lg_entry_eq]
  generalize (lg_sl ([.ref h0, .int x1, .int x2]) ++ List.replicate (3 - (lg_sl ([.ref h0, .int x1, .int x2])).length) Slot.unset).toArray = ls at hl ⊢
  have hl : lv_has ls 3 [(0, .ref h0), (1, .int x1), (2, .int x2)] := hl
  refine lv_aload_n hx hb dM_is_0 rfl (lv_at hl 0 rfl) ?_
  refine lv_aload_n hx hb dM_is_1 rfl (lv_at hl 0 rfl) ?_
  refine lv_iload_n hx hb dM_is_2 rfl (lv_at hl 1 rfl) ?_
  obtain ⟨⟨fs18, h19⟩, hw⟩ := hw
  refine va_calli (va_runV (As := [.int x1]) (rest := [.ref h0]) ⟨hx, hb, hml, hown, htb⟩ (k_M_isPerson (l := l) (D := D) (tc := tc) (A := A) hw) (cw_M_87 htb ⟨Nat.le_of_ble_eq_true rfl, Nat.le_of_ble_eq_true rfl⟩) (z_preV hG hA hS hM h19 rfl) rfl rfl hl.1 rfl (lv_room (Nat.le_of_ble_eq_true rfl)) dM_is_3 ⟨Nat.le_refl _, Nat.le_refl _⟩) hS (fun _ _ h => h) (fun _ h => h) (fun r2 M1 t H locs ht hvm hw hB _ _ hS => ?_)
  have hM : zP D vwCl tc A M1 H := by rw [← ht]; exact hB
  refine lv_iload_n hx hb dM_is_6 rfl (lv_at hl 2 rfl) ?_
  refine lv_iconst (v := 0) hx hb dM_is_7 (by decide +kernel) ?_
  refine lv_iconst (v := 2) hx hb dM_is_8 (by decide +kernel) ?_
  refine va_calli (va_runS (As := [.int x2, .int 0, .int 2]) (rest := [.int r2, .ref h0]) ⟨hx, hb, hml, hown, htb⟩ (k_M_in (l := l) (D := D) (tc := tc) (A := A) hw) (cw_M_69 htb ⟨Nat.le_of_ble_eq_true rfl, Nat.le_of_ble_eq_true rfl⟩) (z_preS hG hA hS hM) rfl rfl hl.1 rfl (lv_room (Nat.le_of_ble_eq_true rfl)) dM_is_9 ⟨Nat.le_refl _, Nat.le_refl _⟩) hS (fun _ _ h => h) (fun _ h => h) (fun r4 M3 t H locs ht hvm hw hB _ _ hS => ?_)
  have hM : zP D vwCl tc A M3 H := by rw [← ht]; exact hB
  refine lv_iconst (v := 1) hx hb dM_is_12 (by decide +kernel) ?_
  obtain ⟨⟨fs16, h17⟩, hw⟩ := hw
  refine va_calli (va_runV (As := [.int r2, .int r4, .int 1]) (rest := []) ⟨hx, hb, hml, hown, htb⟩ (k_M_goes (l := l) (D := D) (tc := tc) (A := A) hw) (cw_M_79 htb ⟨Nat.le_of_ble_eq_true rfl, Nat.le_of_ble_eq_true rfl⟩) (z_preV hG hA hS hM h17 rfl) rfl rfl hl.1 rfl (lv_room (Nat.le_of_ble_eq_true rfl)) dM_is_13 ⟨Nat.le_refl _, Nat.le_refl _⟩) hS (fun _ _ h => h) (fun _ h => h) (fun r6 M5 t H locs ht hvm hw hB _ _ hS => ?_)
  have hM : zP D vwCl tc A M5 H := by rw [← ht]; exact hB
  refine lv_if_eq (tgt := 26) hx hb dM_is_16 (by decide) (fun hq => ?_) (fun hq => ?_)
  · have hw := hw.1 hq
    exact W.vret hx hb hr (fun t ht hW => ⟨⟨_, rfl, hw, zB_of ht hM⟩, hS.F ht⟩) hS.2.2 dM_is_26
  · have hw := hw.2 hq
    refine lv_aload_n hx hb dM_is_19 rfl (lv_at hl 0 rfl) ?_
    obtain ⟨fs8, v7, h9, ev10, hw⟩ := hw
    refine z_get hx hb htb inw_M hown hK hM h9 rfl 11 (by decide) (htb _ t_662) (fun _ h9 => h9) ev10 dM_is_20 ?_
    refine lv_iload_n hx hb dM_is_23 rfl (lv_at hl 1 rfl) ?_
    refine lv_iload_n hx hb dM_is_24 rfl (lv_at hl 2 rfl) ?_
    obtain ⟨n11, f12, h13, hi14, hw⟩ := hw
    refine z_iast hx hb hK hM hS 0 0 h13 rfl hi14 dM_is_25 (fun H locs hM hS => ?_)
    exact W.vret hx hb hr (fun t ht hW => ⟨⟨_, rfl, hw, zB_of ht hM⟩, hS.F ht⟩) hS.2.2 dM_is_26
abbrev r_M_asks : Room := { frames := 0, cells := 0, slots := 0, locals := 0 }
abbrev J_M_asks_37 (p : Program) (l : Launch) (e : Env) (s : State) (m : MethodId) (args : Array Value) (below : List Frame) (meth : Method) (c : Code) (D : va_G) (tc : Nat → ClassId) (A : Nat → Prop) (Q : State → Prop) (K : zM → Prop) : Prop := ∀ (M : zM) (H : Heap) (locs : List Loc) (ls : Array Slot), zP D vwCl tc A M H → va_S A s.heap H locs → lv_has ls 4 [] → K M → W p l e (r_M_asks) s m args below meth c H locs 0 0 Q (F0 m 37 ls [])
abbrev J_M_asks_33 (p : Program) (l : Launch) (e : Env) (s : State) (m : MethodId) (args : Array Value) (below : List Frame) (meth : Method) (c : Code) (D : va_G) (tc : Nat → ClassId) (A : Nat → Prop) (Q : State → Prop) (K : zM → Prop) : Prop := ∀ (M : zM) (H : Heap) (locs : List Loc) (ls : Array Slot), zP D vwCl tc A M H → va_S A s.heap H locs → lv_has ls 4 [] → K M → W p l e (r_M_asks) s m args below meth c H locs 0 0 Q (F0 m 33 ls [])
def w_M_asks_j37 (e0 : Nat) (post : Int32 → zM → Prop) (M : zM) : Prop := post 0 M
set_option maxHeartbeats 4000000 in
set_option maxRecDepth 100000 in
theorem k_M_asks_j37 {p : Program} {l : Launch} {e : Env} {s : State} {m : MethodId} {args : Array Value} {below : List Frame} {meth : Method} {c : Code} {D : va_G} {tc : Nat → ClassId} {A : Nat → Prop} {post : Int32 → zM → Prop} (C0 : zC R_M cM_asks 4 (some .boolean) "asks" D tc A p l s m args meth c) : J_M_asks_37 p l e s m args below meth c D tc A (MQ below (va_Qi post (zB D tc A) A) args s 0 0 A) (w_M_asks_j37 (tc 9) post) := by
  obtain ⟨hx, hb, hml, hr, hown, htb, hlk, hA, hG, hin, hex⟩ := id C0
  have hK := hG.1
  intro M H locs ls hM hS hl hw
  refine lv_iconst (v := 0) hx hb dM_asks_37 (by decide +kernel) ?_
  exact W.zret hx hb hr rfl (fun t ht hW => ⟨⟨_, _, rfl, hw, zB_of ht hM⟩, hS.F ht⟩) hS.2.2 dM_asks_38
def w_M_asks_j33 (e0 : Nat) (post : Int32 → zM → Prop) (M : zM) : Prop := post 1 M
set_option maxHeartbeats 4000000 in
set_option maxRecDepth 100000 in
theorem k_M_asks_j33 {p : Program} {l : Launch} {e : Env} {s : State} {m : MethodId} {args : Array Value} {below : List Frame} {meth : Method} {c : Code} {D : va_G} {tc : Nat → ClassId} {A : Nat → Prop} {post : Int32 → zM → Prop} (C0 : zC R_M cM_asks 4 (some .boolean) "asks" D tc A p l s m args meth c) : J_M_asks_33 p l e s m args below meth c D tc A (MQ below (va_Qi post (zB D tc A) A) args s 0 0 A) (w_M_asks_j33 (tc 9) post) := by
  obtain ⟨hx, hb, hml, hr, hown, htb, hlk, hA, hG, hin, hex⟩ := id C0
  have hK := hG.1
  intro M H locs ls hM hS hl hw
  refine lv_iconst (v := 1) hx hb dM_asks_33 (by decide +kernel) ?_
  refine lv_goto (tgt := 38) hx hb dM_asks_34 (by decide) ?_
  exact W.zret hx hb hr rfl (fun t ht hW => ⟨⟨_, _, rfl, hw, zB_of ht hM⟩, hS.F ht⟩) hS.2.2 dM_asks_38
def w_M_asks (e0 : Nat) (post : Int32 → zM → Prop) (M : zM) (h0 : Nat) (x1 : Int32) (x2 : Int32) (x3 : Int32) : Prop := wGR M h0 4 7 (fun v1 => wLI M v1 0 x3 (fun v7 => ((v7 = x1) → wGR M h0 4 11 (fun v11 => wLI M v11 0 x3 (fun v17 => ((v17 = 0) → w_M_asks_j33 e0 post M) ∧ (¬ (v17 = 0) → ((x2 = 0) → w_M_asks_j37 e0 post M) ∧ (¬ (x2 = 0) → wGR M h0 4 11 (fun v21 => wLI M v21 0 x3 (fun v27 => ((v27 = 1) → w_M_asks_j33 e0 post M) ∧ (¬ (v27 = 1) → w_M_asks_j37 e0 post M)))))))) ∧ (¬ (v7 = x1) → w_M_asks_j37 e0 post M)))
set_option maxHeartbeats 4000000 in
set_option maxRecDepth 100000 in
theorem k_M_asks {l : Launch} {D : va_G} {tc : Nat → ClassId} {A : Nat → Prop} {post : Int32 → zM → Prop} {M : zM} {h0 : Nat} {x1 : Int32} {x2 : Int32} {x3 : Int32} (hw : w_M_asks (tc 9) post M h0 x1 x2 x3) : Met l yM_asks (.code yM_asks cM_asks 4 (some .boolean) :: zTB) r_M_asks (va_Pc [.ref h0, .int x1, .int x2, .int x3] (zI D tc A M)) (va_Qi post (zB D tc A) A) 0 0 A := by
  refine Met.ofW (cc := cM_asks) (maxL := 4) (ret := (some .boolean)) (by decide +kernel) rfl ?_
  intro p e s m args below meth c s₁ B hml hv
  obtain ⟨rfl, hA, hM, hG⟩ := hv
  have C0 := zC_of (D := D) (tc := tc) (A := A) B hml (zC_ex B) hA hG
  obtain ⟨hx, hb, hml, hr, hown, htb, hlk, hA, hG, hin, hex⟩ := id C0
  have hK := hG.1
  have hS : va_S A s.heap s.heap [] := va_S.rf
  have hl := lv_entry ([.ref h0, .int x1, .int x2, .int x3]) (n := 4) (Nat.le_of_ble_eq_true rfl)
  rw [lg_entry_eq]
  generalize (lg_sl ([.ref h0, .int x1, .int x2, .int x3]) ++ List.replicate (4 - (lg_sl ([.ref h0, .int x1, .int x2, .int x3])).length) Slot.unset).toArray = ls at hl ⊢
  have hl : lv_has ls 4 [(0, .ref h0), (1, .int x1), (2, .int x2), (3, .int x3)] := hl
  refine lv_aload_n hx hb dM_asks_0 rfl (lv_at hl 0 rfl) ?_
  obtain ⟨fs2, v1, h3, ev4, hw⟩ := hw
  refine z_get hx hb htb inw_M hown hK hM h3 rfl 7 (by decide) (htb _ t_658) (fun _ h9 => h9) ev4 dM_asks_1 ?_
  refine lv_iload_n hx hb dM_asks_4 rfl (lv_at hl 3 rfl) ?_
  obtain ⟨n5, f6, v7, h8, hi9, ev10, hw⟩ := hw
  refine z_iald hx hb hK hM 0 0 h8 rfl hi9 ev10 dM_asks_5 ?_
  refine lv_iload_n hx hb dM_asks_6 rfl (lv_at hl 1 rfl) ?_
  refine lv_icmp_ne (tgt := 37) hx hb dM_asks_7 (by decide) (fun hq => ?_) (fun hq => ?_)
  · have hw := hw.2 hq
    exact k_M_asks_j37 C0  _  _ _ _ hM hS (lv_sub hl [] rfl) hw
  · have hw := hw.1 hq
    refine lv_aload_n hx hb dM_asks_10 rfl (lv_at hl 0 rfl) ?_
    obtain ⟨fs12, v11, h13, ev14, hw⟩ := hw
    refine z_get hx hb htb inw_M hown hK hM h13 rfl 11 (by decide) (htb _ t_662) (fun _ h9 => h9) ev14 dM_asks_11 ?_
    refine lv_iload_n hx hb dM_asks_14 rfl (lv_at hl 3 rfl) ?_
    obtain ⟨n15, f16, v17, h18, hi19, ev20, hw⟩ := hw
    refine z_iald hx hb hK hM 0 0 h18 rfl hi19 ev20 dM_asks_15 ?_
    refine lv_if_eq (tgt := 33) hx hb dM_asks_16 (by decide) (fun hq => ?_) (fun hq => ?_)
    · have hw := hw.1 hq
      exact k_M_asks_j33 C0  _  _ _ _ hM hS (lv_sub hl [] rfl) hw
    · have hw := hw.2 hq
      refine lv_iload_n hx hb dM_asks_19 rfl (lv_at hl 2 rfl) ?_
      refine lv_if_eq (tgt := 37) hx hb dM_asks_20 (by decide) (fun hq => ?_) (fun hq => ?_)
      · have hw := hw.1 hq
        exact k_M_asks_j37 C0  _  _ _ _ hM hS (lv_sub hl [] rfl) hw
      · have hw := hw.2 hq
        refine lv_aload_n hx hb dM_asks_23 rfl (lv_at hl 0 rfl) ?_
        obtain ⟨fs22, v21, h23, ev24, hw⟩ := hw
        refine z_get hx hb htb inw_M hown hK hM h23 rfl 11 (by decide) (htb _ t_662) (fun _ h9 => h9) ev24 dM_asks_24 ?_
        refine lv_iload_n hx hb dM_asks_27 rfl (lv_at hl 3 rfl) ?_
        obtain ⟨n25, f26, v27, h28, hi29, ev30, hw⟩ := hw
        refine z_iald hx hb hK hM 0 0 h28 rfl hi29 ev30 dM_asks_28 ?_
        refine lv_iconst (v := 1) hx hb dM_asks_29 (by decide +kernel) ?_
        refine lv_icmp_ne (tgt := 37) hx hb dM_asks_30 (by decide) (fun hq => ?_) (fun hq => ?_)
        · have hw := hw.2 hq
          exact k_M_asks_j37 C0  _  _ _ _ hM hS (lv_sub hl [] rfl) hw
        · have hw := hw.1 hq
          exact k_M_asks_j33 C0  _  _ _ _ hM hS (lv_sub hl [] rfl) hw
abbrev r_M_asksAny : Room := { frames := 1, cells := 0, slots := 0, locals := 23 }
abbrev J_M_asksAny_2 (p : Program) (l : Launch) (e : Env) (s : State) (m : MethodId) (args : Array Value) (below : List Frame) (meth : Method) (c : Code) (D : va_G) (tc : Nat → ClassId) (A : Nat → Prop) (Q : State → Prop) (K : zM → Nat → Int32 → Int32 → Int32 → Prop) : Prop := ∀ (M : zM) (l0 : Nat) (l1 : Int32) (l2 : Int32) (l3 : Int32) (H : Heap) (locs : List Loc) (ls : Array Slot), zP D vwCl tc A M H → va_S A s.heap H locs → lv_has ls 4 [(0, .ref l0), (1, .int l1), (2, .int l2), (3, .int l3)] → K M l0 l1 l2 l3 → W p l e (r_M_asksAny) s m args below meth c H locs 0 0 Q (F0 m 2 ls [])
def w_M_asksAny_j2 (e0 : Nat) (post : Int32 → zM → Prop) : Nat → zM → Nat → Int32 → Int32 → Int32 → Prop
  | 0 => fun _ _ _ _ _ => False
  | n + 1 => fun M l0 l1 l2 l3 => wGI M l0 4 6 (fun v1 => ((v1 ≤ l3) → post 0 M) ∧ (¬ (v1 ≤ l3) → wIs M l0 4 ∧ w_M_asks e0 (fun r6 M5 => ((r6 = 0) → w_M_asksAny_j2 e0 post n M5 l0 l1 l2 (l3 + 1)) ∧ (¬ (r6 = 0) → post 1 M5)) M l0 l1 l2 l3))
set_option maxHeartbeats 4000000 in
set_option maxRecDepth 100000 in
theorem k_M_asksAny_j2 {p : Program} {l : Launch} {e : Env} {s : State} {m : MethodId} {args : Array Value} {below : List Frame} {meth : Method} {c : Code} {D : va_G} {tc : Nat → ClassId} {A : Nat → Prop} {post : Int32 → zM → Prop} (C0 : zC R_M cM_asksAny 4 (some .boolean) "asksAny" D tc A p l s m args meth c) : ∀ n : Nat, J_M_asksAny_2 p l e s m args below meth c D tc A (MQ below (va_Qi post (zB D tc A) A) args s 0 0 A) (w_M_asksAny_j2 (tc 9) post n) := by
  obtain ⟨hx, hb, hml, hr, hown, htb, hlk, hA, hG, hin, hex⟩ := id C0
  have hK := hG.1
  intro n
  induction n with
  | zero => intro M l0 l1 l2 l3 H locs ls hM hS hl hw; exact hw.elim
  | succ n ih =>
    intro M l0 l1 l2 l3 H locs ls hM hS hl hw
    refine lv_iload_n hx hb dM_asksAny_2 rfl (lv_at hl 3 rfl) ?_
    refine lv_aload_n hx hb dM_asksAny_3 rfl (lv_at hl 0 rfl) ?_
    obtain ⟨fs2, v1, h3, ev4, hw⟩ := hw
    refine z_get hx hb htb inw_M hown hK hM h3 rfl 6 (by decide) (htb _ t_657) (fun _ h9 => h9) ev4 dM_asksAny_4 ?_
    refine lv_icmp_ge (tgt := 28) hx hb dM_asksAny_7 (by decide) (fun hq => ?_) (fun hq => ?_)
    · have hw := hw.1 hq
      refine lv_iconst (v := 0) hx hb dM_asksAny_28 (by decide +kernel) ?_
      exact W.zret hx hb hr rfl (fun t ht hW => ⟨⟨_, _, rfl, hw, zB_of ht hM⟩, hS.F ht⟩) hS.2.2 dM_asksAny_29
    · have hw := hw.2 hq
      refine lv_aload_n hx hb dM_asksAny_10 rfl (lv_at hl 0 rfl) ?_
      refine lv_iload_n hx hb dM_asksAny_11 rfl (lv_at hl 1 rfl) ?_
      refine lv_iload_n hx hb dM_asksAny_12 rfl (lv_at hl 2 rfl) ?_
      refine lv_iload_n hx hb dM_asksAny_13 rfl (lv_at hl 3 rfl) ?_
      obtain ⟨⟨fs7, h8⟩, hw⟩ := hw
      refine va_calli (va_runV (As := [.int l1, .int l2, .int l3]) (rest := []) ⟨hx, hb, hml, hown, htb⟩ (k_M_asks (l := l) (D := D) (tc := tc) (A := A) hw) (cw_M_90 htb ⟨Nat.le_of_ble_eq_true rfl, Nat.le_of_ble_eq_true rfl⟩) (z_preV hG hA hS hM h8 rfl) rfl rfl hl.1 rfl (lv_room (Nat.le_of_ble_eq_true rfl)) dM_asksAny_14 ⟨Nat.le_refl _, Nat.le_refl _⟩) hS (fun _ _ h => h) (fun _ h => h) (fun r6 M5 t H locs ht hvm hw hB _ _ hS => ?_)
      have hM : zP D vwCl tc A M5 H := by rw [← ht]; exact hB
      refine lv_if_eq (tgt := 22) hx hb dM_asksAny_17 (by decide) (fun hq => ?_) (fun hq => ?_)
      · have hw := hw.1 hq
        refine lv_iinc (v := (l3 + 1)) (lv' := [(3, .int (l3 + 1)), (0, .ref l0), (1, .int l1), (2, .int l2)]) hx hb dM_asksAny_22 hl (k := 3) rfl rfl (by decide) rfl (fun ls hl => ?_)
        refine lv_goto (tgt := 2) hx hb dM_asksAny_25 (by decide) ?_
        exact ih _ _ _ _ _ _ _ _ hM hS (lv_sub hl [1, 2, 3, 0] rfl) hw
      · have hw := hw.2 hq
        refine lv_iconst (v := 1) hx hb dM_asksAny_20 (by decide +kernel) ?_
        exact W.zret hx hb hr rfl (fun t ht hW => ⟨⟨_, _, rfl, hw, zB_of ht hM⟩, hS.F ht⟩) hS.2.2 dM_asksAny_21
def w_M_asksAny (e0 : Nat) (post : Int32 → zM → Prop) (M : zM) (h0 : Nat) (x1 : Int32) (x2 : Int32) : Prop := ∃ nn, w_M_asksAny_j2 e0 post nn M h0 x1 x2 0
set_option maxHeartbeats 4000000 in
set_option maxRecDepth 100000 in
theorem k_M_asksAny {l : Launch} {D : va_G} {tc : Nat → ClassId} {A : Nat → Prop} {post : Int32 → zM → Prop} {M : zM} {h0 : Nat} {x1 : Int32} {x2 : Int32} (hw : w_M_asksAny (tc 9) post M h0 x1 x2) : Met l yM_asksAny (.code yM_asksAny cM_asksAny 4 (some .boolean) :: zTB) r_M_asksAny (va_Pc [.ref h0, .int x1, .int x2] (zI D tc A M)) (va_Qi post (zB D tc A) A) 0 0 A := by
  refine Met.ofW (cc := cM_asksAny) (maxL := 4) (ret := (some .boolean)) (by decide +kernel) rfl ?_
  intro p e s m args below meth c s₁ B hml hv
  obtain ⟨rfl, hA, hM, hG⟩ := hv
  have C0 := zC_of (D := D) (tc := tc) (A := A) B hml (zC_ex B) hA hG
  obtain ⟨hx, hb, hml, hr, hown, htb, hlk, hA, hG, hin, hex⟩ := id C0
  have hK := hG.1
  have hS : va_S A s.heap s.heap [] := va_S.rf
  have hl := lv_entry ([.ref h0, .int x1, .int x2]) (n := 4) (Nat.le_of_ble_eq_true rfl)
  rw [lg_entry_eq]
  generalize (lg_sl ([.ref h0, .int x1, .int x2]) ++ List.replicate (4 - (lg_sl ([.ref h0, .int x1, .int x2])).length) Slot.unset).toArray = ls at hl ⊢
  have hl : lv_has ls 4 [(0, .ref h0), (1, .int x1), (2, .int x2)] := hl
  refine lv_iconst (v := 0) hx hb dM_asksAny_0 (by decide +kernel) ?_
  refine lv_istore_n (lv' := [(3, .int 0), (0, .ref h0), (1, .int x1), (2, .int x2)]) hx hb dM_asksAny_1 rfl hl (by decide) rfl (fun ls hl => ?_)
  obtain ⟨nfu, hw⟩ := hw
  exact k_M_asksAny_j2 C0  nfu _ _ _ _ _ _ _ _ hM hS (lv_sub hl [1, 2, 3, 0] rfl) hw
abbrev r_M_begin : Room := { frames := 1, cells := 0, slots := 0, locals := 23 }
abbrev J_M_begin_196 (p : Program) (l : Launch) (e : Env) (s : State) (m : MethodId) (args : Array Value) (below : List Frame) (meth : Method) (c : Code) (D : va_G) (tc : Nat → ClassId) (A : Nat → Prop) (Q : State → Prop) (K : zM → Nat → Int32 → Prop) : Prop := ∀ (M : zM) (l0 : Nat) (l4 : Int32) (H : Heap) (locs : List Loc) (ls : Array Slot), zP D vwCl tc A M H → va_S A s.heap H locs → lv_has ls 7 [(0, .ref l0), (4, .int l4)] → K M l0 l4 → W p l e (r_M_begin) s m args below meth c H locs 0 0 Q (F0 m 196 ls [])
abbrev J_M_begin_162 (p : Program) (l : Launch) (e : Env) (s : State) (m : MethodId) (args : Array Value) (below : List Frame) (meth : Method) (c : Code) (D : va_G) (tc : Nat → ClassId) (A : Nat → Prop) (Q : State → Prop) (K : zM → Nat → Int32 → Int32 → Int32 → Int32 → Int32 → Int32 → Int32 → Nat → Prop) : Prop := ∀ (M : zM) (l0 : Nat) (l1 : Int32) (l2 : Int32) (l4 : Int32) (l5 : Int32) (l6 : Int32) (s0 : Int32) (s1 : Int32) (s2 : Nat) (H : Heap) (locs : List Loc) (ls : Array Slot), zP D vwCl tc A M H → va_S A s.heap H locs → lv_has ls 7 [(0, .ref l0), (1, .int l1), (2, .int l2), (4, .int l4), (5, .int l5), (6, .int l6)] → K M l0 l1 l2 l4 l5 l6 s0 s1 s2 → W p l e (r_M_begin) s m args below meth c H locs 0 0 Q (F0 m 162 ls [.int s0, .int s1, .ref s2])
abbrev J_M_begin_128 (p : Program) (l : Launch) (e : Env) (s : State) (m : MethodId) (args : Array Value) (below : List Frame) (meth : Method) (c : Code) (D : va_G) (tc : Nat → ClassId) (A : Nat → Prop) (Q : State → Prop) (K : zM → Nat → Int32 → Int32 → Int32 → Int32 → Int32 → Prop) : Prop := ∀ (M : zM) (l0 : Nat) (l1 : Int32) (l2 : Int32) (l4 : Int32) (l5 : Int32) (l6 : Int32) (H : Heap) (locs : List Loc) (ls : Array Slot), zP D vwCl tc A M H → va_S A s.heap H locs → lv_has ls 7 [(0, .ref l0), (1, .int l1), (2, .int l2), (4, .int l4), (5, .int l5), (6, .int l6)] → K M l0 l1 l2 l4 l5 l6 → W p l e (r_M_begin) s m args below meth c H locs 0 0 Q (F0 m 128 ls [])
abbrev J_M_begin_95 (p : Program) (l : Launch) (e : Env) (s : State) (m : MethodId) (args : Array Value) (below : List Frame) (meth : Method) (c : Code) (D : va_G) (tc : Nat → ClassId) (A : Nat → Prop) (Q : State → Prop) (K : zM → Nat → Int32 → Int32 → Int32 → Int32 → Int32 → Prop) : Prop := ∀ (M : zM) (l0 : Nat) (l1 : Int32) (l2 : Int32) (l4 : Int32) (l5 : Int32) (l6 : Int32) (H : Heap) (locs : List Loc) (ls : Array Slot), zP D vwCl tc A M H → va_S A s.heap H locs → lv_has ls 7 [(0, .ref l0), (1, .int l1), (2, .int l2), (4, .int l4), (5, .int l5), (6, .int l6)] → K M l0 l1 l2 l4 l5 l6 → W p l e (r_M_begin) s m args below meth c H locs 0 0 Q (F0 m 95 ls [])
abbrev J_M_begin_56 (p : Program) (l : Launch) (e : Env) (s : State) (m : MethodId) (args : Array Value) (below : List Frame) (meth : Method) (c : Code) (D : va_G) (tc : Nat → ClassId) (A : Nat → Prop) (Q : State → Prop) (K : zM → Nat → Int32 → Int32 → Int32 → Prop) : Prop := ∀ (M : zM) (l0 : Nat) (l1 : Int32) (l2 : Int32) (l4 : Int32) (H : Heap) (locs : List Loc) (ls : Array Slot), zP D vwCl tc A M H → va_S A s.heap H locs → lv_has ls 7 [(0, .ref l0), (1, .int l1), (2, .int l2), (4, .int l4)] → K M l0 l1 l2 l4 → W p l e (r_M_begin) s m args below meth c H locs 0 0 Q (F0 m 56 ls [])
def w_M_begin_j196 (e0 : Nat) (post : zM → Prop) : Nat → zM → Nat → Int32 → Prop
  | 0 => fun _ _ _ => False
  | n + 1 => fun M l0 l4 => ((60 ≤ l4) → wGI M l0 4 12 (fun v1 => wPF M l0 4 12 (.int (v1 + 1)) (fun M8 => post M8))) ∧ (¬ (60 ≤ l4) → wGR M l0 4 18 (fun v9 => wGI M l0 4 12 (fun v13 => wSZ M v9 1 ((v13 * 60) + l4) 0 (fun M21 => w_M_begin_j196 e0 post n M21 l0 (l4 + 1)))))
set_option maxHeartbeats 4000000 in
set_option maxRecDepth 100000 in
theorem k_M_begin_j196 {p : Program} {l : Launch} {e : Env} {s : State} {m : MethodId} {args : Array Value} {below : List Frame} {meth : Method} {c : Code} {D : va_G} {tc : Nat → ClassId} {A : Nat → Prop} {post : zM → Prop} (C0 : zC R_M cM_begin 7 none "begin" D tc A p l s m args meth c) : ∀ n : Nat, J_M_begin_196 p l e s m args below meth c D tc A (MQ below (va_Qv post (zB D tc A) A) args s 0 0 A) (w_M_begin_j196 (tc 9) post n) := by
  obtain ⟨hx, hb, hml, hr, hown, htb, hlk, hA, hG, hin, hex⟩ := id C0
  have hK := hG.1
  intro n
  induction n with
  | zero => intro M l0 l4 H locs ls hM hS hl hw; exact hw.elim
  | succ n ih =>
    intro M l0 l4 H locs ls hM hS hl hw
    refine lv_iload hx hb dM_begin_196 (lv_at hl 1 rfl) ?_
    refine lv_bipush (v := 60) hx hb dM_begin_198 (by decide +kernel) ?_
    refine lv_icmp_ge (tgt := 225) hx hb dM_begin_200 (by decide) (fun hq => ?_) (fun hq => ?_)
    · have hw := hw.1 hq
      refine lv_aload_n hx hb dM_begin_225 rfl (lv_at hl 0 rfl) ?_
      refine lv_dup hx hb dM_begin_226 rfl ?_
      obtain ⟨fs2, v1, h3, ev4, hw⟩ := hw
      refine z_get hx hb htb inw_M hown hK hM h3 rfl 12 (by decide) (htb _ t_663) (fun _ h9 => h9) ev4 dM_begin_227 ?_
      refine lv_iconst (v := 1) hx hb dM_begin_230 (by decide +kernel) ?_
      refine lv_iadd hx hb dM_begin_231 ?_
      obtain ⟨fs5, h6, hl7, hw⟩ := hw
      refine z_put (ty := .int) hx hb htb inw_M ty_M tyok_M nmok_M hown hK hM hS h6 rfl 12 (by decide) (htb _ t_663) (fun _ h9 => h9) rfl (by decide +kernel) rfl rfl hl7 dM_begin_232 (fun H locs hM hS => ?_)
      exact W.vret hx hb hr (fun t ht hW => ⟨⟨_, rfl, hw, zB_of ht hM⟩, hS.F ht⟩) hS.2.2 dM_begin_235
    · have hw := hw.2 hq
      refine lv_aload_n hx hb dM_begin_203 rfl (lv_at hl 0 rfl) ?_
      obtain ⟨fs10, v9, h11, ev12, hw⟩ := hw
      refine z_get hx hb htb inw_M hown hK hM h11 rfl 18 (by decide) (htb _ t_669) (fun _ h9 => h9) ev12 dM_begin_204 ?_
      refine lv_aload_n hx hb dM_begin_207 rfl (lv_at hl 0 rfl) ?_
      obtain ⟨fs14, v13, h15, ev16, hw⟩ := hw
      refine z_get hx hb htb inw_M hown hK hM h15 rfl 12 (by decide) (htb _ t_663) (fun _ h9 => h9) ev16 dM_begin_208 ?_
      refine lv_bipush (v := 60) hx hb dM_begin_211 (by decide +kernel) ?_
      refine lv_imul hx hb dM_begin_213 ?_
      refine lv_iload hx hb dM_begin_214 (lv_at hl 1 rfl) ?_
      refine lv_iadd hx hb dM_begin_216 ?_
      refine lv_iconst (v := 0) hx hb dM_begin_217 (by decide +kernel) ?_
      obtain ⟨n17, f18, h19, hi20, hw⟩ := hw
      refine z_zast hx hb hK hM hS 1 1 h19 rfl hi20 dM_begin_218 (fun H locs hM hS => ?_)
      refine lv_iinc (v := (l4 + 1)) (lv' := [(4, .int (l4 + 1)), (0, .ref l0)]) hx hb dM_begin_219 hl (k := 1) rfl rfl (by decide) rfl (fun ls hl => ?_)
      refine lv_goto (tgt := 196) hx hb dM_begin_222 (by decide) ?_
      exact ih _ _ _ _ _ _ hM hS (lv_sub hl [1, 0] rfl) hw
def w_M_begin_j162 (e0 : Nat) (post : zM → Prop) (K56 : zM → Nat → Int32 → Int32 → Int32 → Prop) (M : zM) (l0 : Nat) (l1 : Int32) (l2 : Int32) (l4 : Int32) (l5 : Int32) (l6 : Int32) (s0 : Int32) (s1 : Int32) (s2 : Nat) : Prop := wSI M s2 0 s1 s0 (fun M5 => wGR M5 l0 4 20 (fun v6 => wSI M5 v6 0 l5 (20 * l6) (fun M14 => wGR M14 l0 4 21 (fun v15 => wSI M14 v15 0 l5 (-2) (fun M23 => K56 M23 l0 l1 l2 (l4 + 1))))))
set_option maxHeartbeats 4000000 in
set_option maxRecDepth 100000 in
theorem k_M_begin_j162 {p : Program} {l : Launch} {e : Env} {s : State} {m : MethodId} {args : Array Value} {below : List Frame} {meth : Method} {c : Code} {D : va_G} {tc : Nat → ClassId} {A : Nat → Prop} {post : zM → Prop} (C0 : zC R_M cM_begin 7 none "begin" D tc A p l s m args meth c) {K56 : zM → Nat → Int32 → Int32 → Int32 → Prop} (hK56 : J_M_begin_56 p l e s m args below meth c D tc A (MQ below (va_Qv post (zB D tc A) A) args s 0 0 A) K56) : J_M_begin_162 p l e s m args below meth c D tc A (MQ below (va_Qv post (zB D tc A) A) args s 0 0 A) (w_M_begin_j162 (tc 9) post K56) := by
  obtain ⟨hx, hb, hml, hr, hown, htb, hlk, hA, hG, hin, hex⟩ := id C0
  have hK := hG.1
  intro M l0 l1 l2 l4 l5 l6 s0 s1 s2 H locs ls hM hS hl hw
  obtain ⟨n1, f2, h3, hi4, hw⟩ := hw
  refine z_iast hx hb hK hM hS 0 0 h3 rfl hi4 dM_begin_162 (fun H locs hM hS => ?_)
  refine lv_aload_n hx hb dM_begin_163 rfl (lv_at hl 0 rfl) ?_
  obtain ⟨fs7, v6, h8, ev9, hw⟩ := hw
  refine z_get hx hb htb inw_M hown hK hM h8 rfl 20 (by decide) (htb _ t_671) (fun _ h9 => h9) ev9 dM_begin_164 ?_
  refine lv_iload hx hb dM_begin_167 (lv_at hl 4 rfl) ?_
  refine lv_bipush (v := 20) hx hb dM_begin_169 (by decide +kernel) ?_
  refine lv_iload hx hb dM_begin_171 (lv_at hl 5 rfl) ?_
  refine lv_imul hx hb dM_begin_173 ?_
  obtain ⟨n10, f11, h12, hi13, hw⟩ := hw
  refine z_iast hx hb hK hM hS 0 0 h12 rfl hi13 dM_begin_174 (fun H locs hM hS => ?_)
  refine lv_aload_n hx hb dM_begin_175 rfl (lv_at hl 0 rfl) ?_
  obtain ⟨fs16, v15, h17, ev18, hw⟩ := hw
  refine z_get hx hb htb inw_M hown hK hM h17 rfl 21 (by decide) (htb _ t_672) (fun _ h9 => h9) ev18 dM_begin_176 ?_
  refine lv_iload hx hb dM_begin_179 (lv_at hl 4 rfl) ?_
  refine lv_bipush (v := (-2)) hx hb dM_begin_181 (by decide +kernel) ?_
  obtain ⟨n19, f20, h21, hi22, hw⟩ := hw
  refine z_iast hx hb hK hM hS 0 0 h21 rfl hi22 dM_begin_183 (fun H locs hM hS => ?_)
  refine lv_iinc (v := (l4 + 1)) (lv' := [(4, .int (l4 + 1)), (0, .ref l0), (1, .int l1), (2, .int l2), (5, .int l5), (6, .int l6)]) hx hb dM_begin_184 hl (k := 3) rfl rfl (by decide) rfl (fun ls hl => ?_)
  refine lv_goto (tgt := 56) hx hb dM_begin_187 (by decide) ?_
  exact hK56 _ _ _ _ _ _ _ _ hM hS (lv_sub hl [1, 2, 3, 0] rfl) hw
def w_M_begin_j128 (e0 : Nat) (post : zM → Prop) (K56 : zM → Nat → Int32 → Int32 → Int32 → Prop) (M : zM) (l0 : Nat) (l1 : Int32) (l2 : Int32) (l4 : Int32) (l5 : Int32) (l6 : Int32) : Prop := wGR M l0 4 19 (fun v1 => wGR M l0 4 8 (fun v5 => wLI M v5 0 l4 (fun v11 => ((v11 ≤ l6) → w_M_begin_j162 e0 post K56 M l0 l1 l2 l4 l5 l6 (-1) l5 v1) ∧ (¬ (v11 ≤ l6) → wGR M l0 4 9 (fun v15 => wLI M v15 0 ((3 * l4) + l6) (fun v21 => w_M_begin_j162 e0 post K56 M l0 l1 l2 l4 l5 l6 v21 l5 v1))))))
set_option maxHeartbeats 4000000 in
set_option maxRecDepth 100000 in
theorem k_M_begin_j128 {p : Program} {l : Launch} {e : Env} {s : State} {m : MethodId} {args : Array Value} {below : List Frame} {meth : Method} {c : Code} {D : va_G} {tc : Nat → ClassId} {A : Nat → Prop} {post : zM → Prop} (C0 : zC R_M cM_begin 7 none "begin" D tc A p l s m args meth c) {K56 : zM → Nat → Int32 → Int32 → Int32 → Prop} (hK56 : J_M_begin_56 p l e s m args below meth c D tc A (MQ below (va_Qv post (zB D tc A) A) args s 0 0 A) K56) : J_M_begin_128 p l e s m args below meth c D tc A (MQ below (va_Qv post (zB D tc A) A) args s 0 0 A) (w_M_begin_j128 (tc 9) post K56) := by
  obtain ⟨hx, hb, hml, hr, hown, htb, hlk, hA, hG, hin, hex⟩ := id C0
  have hK := hG.1
  intro M l0 l1 l2 l4 l5 l6 H locs ls hM hS hl hw
  refine lv_aload_n hx hb dM_begin_128 rfl (lv_at hl 0 rfl) ?_
  obtain ⟨fs2, v1, h3, ev4, hw⟩ := hw
  refine z_get hx hb htb inw_M hown hK hM h3 rfl 19 (by decide) (htb _ t_670) (fun _ h9 => h9) ev4 dM_begin_129 ?_
  refine lv_iload hx hb dM_begin_132 (lv_at hl 4 rfl) ?_
  refine lv_iload hx hb dM_begin_134 (lv_at hl 5 rfl) ?_
  refine lv_aload_n hx hb dM_begin_136 rfl (lv_at hl 0 rfl) ?_
  obtain ⟨fs6, v5, h7, ev8, hw⟩ := hw
  refine z_get hx hb htb inw_M hown hK hM h7 rfl 8 (by decide) (htb _ t_659) (fun _ h9 => h9) ev8 dM_begin_137 ?_
  refine lv_iload hx hb dM_begin_140 (lv_at hl 3 rfl) ?_
  obtain ⟨n9, f10, v11, h12, hi13, ev14, hw⟩ := hw
  refine z_iald hx hb hK hM 0 0 h12 rfl hi13 ev14 dM_begin_142 ?_
  refine lv_icmp_ge (tgt := 161) hx hb dM_begin_143 (by decide) (fun hq => ?_) (fun hq => ?_)
  · have hw := hw.1 hq
    refine lv_iconst (v := (-1)) hx hb dM_begin_161 (by decide +kernel) ?_
    exact k_M_begin_j162 C0 hK56 _ _ _ _ _ _ _ _ _ _ _ _ _ hM hS (lv_sub hl [0, 1, 2, 3, 4, 5] rfl) hw
  · have hw := hw.2 hq
    refine lv_aload_n hx hb dM_begin_146 rfl (lv_at hl 0 rfl) ?_
    obtain ⟨fs16, v15, h17, ev18, hw⟩ := hw
    refine z_get hx hb htb inw_M hown hK hM h17 rfl 9 (by decide) (htb _ t_660) (fun _ h9 => h9) ev18 dM_begin_147 ?_
    refine lv_iconst (v := 3) hx hb dM_begin_150 (by decide +kernel) ?_
    refine lv_iload hx hb dM_begin_151 (lv_at hl 3 rfl) ?_
    refine lv_imul hx hb dM_begin_153 ?_
    refine lv_iload hx hb dM_begin_154 (lv_at hl 5 rfl) ?_
    refine lv_iadd hx hb dM_begin_156 ?_
    obtain ⟨n19, f20, v21, h22, hi23, ev24, hw⟩ := hw
    refine z_iald hx hb hK hM 0 0 h22 rfl hi23 ev24 dM_begin_157 ?_
    refine lv_goto (tgt := 162) hx hb dM_begin_158 (by decide) ?_
    exact k_M_begin_j162 C0 hK56 _ _ _ _ _ _ _ _ _ _ _ _ _ hM hS (lv_sub hl [0, 1, 2, 3, 4, 5] rfl) hw
def w_M_begin_j95 (e0 : Nat) (post : zM → Prop) (K56 : zM → Nat → Int32 → Int32 → Int32 → Prop) : Nat → zM → Nat → Int32 → Int32 → Int32 → Int32 → Int32 → Prop
  | 0 => fun _ _ _ _ _ _ _ => False
  | n + 1 => fun M l0 l1 l2 l4 l5 l6 => wGR M l0 4 8 (fun v1 => wLI M v1 0 l4 (fun v7 => ((v7 ≤ l6) → w_M_begin_j128 e0 post K56 M l0 l1 l2 l4 l5 l6) ∧ (¬ (v7 ≤ l6) → wGR M l0 4 10 (fun v11 => wLI M v11 1 ((3 * l4) + l6) (fun v17 => ((v17 = 0) → w_M_begin_j95 e0 post K56 n M l0 l1 l2 l4 l5 (l6 + 1)) ∧ (¬ (v17 = 0) → w_M_begin_j128 e0 post K56 M l0 l1 l2 l4 l5 l6))))))
set_option maxHeartbeats 4000000 in
set_option maxRecDepth 100000 in
theorem k_M_begin_j95 {p : Program} {l : Launch} {e : Env} {s : State} {m : MethodId} {args : Array Value} {below : List Frame} {meth : Method} {c : Code} {D : va_G} {tc : Nat → ClassId} {A : Nat → Prop} {post : zM → Prop} (C0 : zC R_M cM_begin 7 none "begin" D tc A p l s m args meth c) {K56 : zM → Nat → Int32 → Int32 → Int32 → Prop} (hK56 : J_M_begin_56 p l e s m args below meth c D tc A (MQ below (va_Qv post (zB D tc A) A) args s 0 0 A) K56) : ∀ n : Nat, J_M_begin_95 p l e s m args below meth c D tc A (MQ below (va_Qv post (zB D tc A) A) args s 0 0 A) (w_M_begin_j95 (tc 9) post K56 n) := by
  obtain ⟨hx, hb, hml, hr, hown, htb, hlk, hA, hG, hin, hex⟩ := id C0
  have hK := hG.1
  intro n
  induction n with
  | zero => intro M l0 l1 l2 l4 l5 l6 H locs ls hM hS hl hw; exact hw.elim
  | succ n ih =>
    intro M l0 l1 l2 l4 l5 l6 H locs ls hM hS hl hw
    refine lv_iload hx hb dM_begin_95 (lv_at hl 5 rfl) ?_
    refine lv_aload_n hx hb dM_begin_97 rfl (lv_at hl 0 rfl) ?_
    obtain ⟨fs2, v1, h3, ev4, hw⟩ := hw
    refine z_get hx hb htb inw_M hown hK hM h3 rfl 8 (by decide) (htb _ t_659) (fun _ h9 => h9) ev4 dM_begin_98 ?_
    refine lv_iload hx hb dM_begin_101 (lv_at hl 3 rfl) ?_
    obtain ⟨n5, f6, v7, h8, hi9, ev10, hw⟩ := hw
    refine z_iald hx hb hK hM 0 0 h8 rfl hi9 ev10 dM_begin_103 ?_
    refine lv_icmp_ge (tgt := 128) hx hb dM_begin_104 (by decide) (fun hq => ?_) (fun hq => ?_)
    · have hw := hw.1 hq
      exact k_M_begin_j128 C0 hK56 _ _ _ _ _ _ _ _ _ _ hM hS (lv_sub hl [0, 1, 2, 3, 4, 5] rfl) hw
    · have hw := hw.2 hq
      refine lv_aload_n hx hb dM_begin_107 rfl (lv_at hl 0 rfl) ?_
      obtain ⟨fs12, v11, h13, ev14, hw⟩ := hw
      refine z_get hx hb htb inw_M hown hK hM h13 rfl 10 (by decide) (htb _ t_661) (fun _ h9 => h9) ev14 dM_begin_108 ?_
      refine lv_iconst (v := 3) hx hb dM_begin_111 (by decide +kernel) ?_
      refine lv_iload hx hb dM_begin_112 (lv_at hl 3 rfl) ?_
      refine lv_imul hx hb dM_begin_114 ?_
      refine lv_iload hx hb dM_begin_115 (lv_at hl 5 rfl) ?_
      refine lv_iadd hx hb dM_begin_117 ?_
      obtain ⟨n15, f16, v17, h18, hi19, ev20, hw⟩ := hw
      refine z_zald hx hb hK hM 1 1 h18 rfl hi19 ev20 dM_begin_118 ?_
      refine lv_if_ne (tgt := 128) hx hb dM_begin_119 (by decide) (fun hq => ?_) (fun hq => ?_)
      · have hw := hw.2 hq
        exact k_M_begin_j128 C0 hK56 _ _ _ _ _ _ _ _ _ _ hM hS (lv_sub hl [0, 1, 2, 3, 4, 5] rfl) hw
      · have hw := hw.1 hq
        refine lv_iinc (v := (l6 + 1)) (lv' := [(6, .int (l6 + 1)), (0, .ref l0), (1, .int l1), (2, .int l2), (4, .int l4), (5, .int l5)]) hx hb dM_begin_122 hl (k := 5) rfl rfl (by decide) rfl (fun ls hl => ?_)
        refine lv_goto (tgt := 95) hx hb dM_begin_125 (by decide) ?_
        exact ih _ _ _ _ _ _ _ _ _ _ hM hS (lv_sub hl [1, 2, 3, 4, 5, 0] rfl) hw
def w_M_begin_j56 (e0 : Nat) (post : zM → Prop) : Nat → zM → Nat → Int32 → Int32 → Int32 → Prop
  | 0 => fun _ _ _ _ _ => False
  | n + 1 => fun M l0 l1 l2 l4 => wGI M l0 4 6 (fun v1 => ((v1 ≤ l4) → wGI M l0 4 6 (fun v5 => ∃ nn, w_M_begin_j196 e0 post nn M l0 v5)) ∧ (¬ (v1 ≤ l4) → wGI M l0 4 12 (fun v9 => wGR M l0 4 18 (fun v13 => wIs M l0 4 ∧ w_M_asks e0 (fun r18 M17 => wSZ M17 v13 1 ((v9 * 60) + l4) r18 (fun M23 => ∃ nn, w_M_begin_j95 e0 post (w_M_begin_j56 e0 post n) nn M23 l0 l1 l2 l4 ((v9 * 60) + l4) 0)) M l0 l1 l2 l4))))
set_option maxHeartbeats 4000000 in
set_option maxRecDepth 100000 in
theorem k_M_begin_j56 {p : Program} {l : Launch} {e : Env} {s : State} {m : MethodId} {args : Array Value} {below : List Frame} {meth : Method} {c : Code} {D : va_G} {tc : Nat → ClassId} {A : Nat → Prop} {post : zM → Prop} (C0 : zC R_M cM_begin 7 none "begin" D tc A p l s m args meth c) : ∀ n : Nat, J_M_begin_56 p l e s m args below meth c D tc A (MQ below (va_Qv post (zB D tc A) A) args s 0 0 A) (w_M_begin_j56 (tc 9) post n) := by
  obtain ⟨hx, hb, hml, hr, hown, htb, hlk, hA, hG, hin, hex⟩ := id C0
  have hK := hG.1
  intro n
  induction n with
  | zero => intro M l0 l1 l2 l4 H locs ls hM hS hl hw; exact hw.elim
  | succ n ih =>
    intro M l0 l1 l2 l4 H locs ls hM hS hl hw
    refine lv_iload hx hb dM_begin_56 (lv_at hl 3 rfl) ?_
    refine lv_aload_n hx hb dM_begin_58 rfl (lv_at hl 0 rfl) ?_
    obtain ⟨fs2, v1, h3, ev4, hw⟩ := hw
    refine z_get hx hb htb inw_M hown hK hM h3 rfl 6 (by decide) (htb _ t_657) (fun _ h9 => h9) ev4 dM_begin_59 ?_
    refine lv_icmp_ge (tgt := 190) hx hb dM_begin_62 (by decide) (fun hq => ?_) (fun hq => ?_)
    · have hw := hw.1 hq
      refine lv_aload_n hx hb dM_begin_190 rfl (lv_at hl 0 rfl) ?_
      obtain ⟨fs6, v5, h7, ev8, hw⟩ := hw
      refine z_get hx hb htb inw_M hown hK hM h7 rfl 6 (by decide) (htb _ t_657) (fun _ h9 => h9) ev8 dM_begin_191 ?_
      refine lv_istore (lv' := [(4, .int v5), (0, .ref l0), (1, .int l1), (2, .int l2)]) hx hb dM_begin_194 hl (by decide) rfl (fun ls hl => ?_)
      obtain ⟨nfu, hw⟩ := hw
      exact k_M_begin_j196 C0  nfu _ _ _ _ _ _ hM hS (lv_sub hl [1, 0] rfl) hw
    · have hw := hw.2 hq
      refine lv_aload_n hx hb dM_begin_65 rfl (lv_at hl 0 rfl) ?_
      obtain ⟨fs10, v9, h11, ev12, hw⟩ := hw
      refine z_get hx hb htb inw_M hown hK hM h11 rfl 12 (by decide) (htb _ t_663) (fun _ h9 => h9) ev12 dM_begin_66 ?_
      refine lv_bipush (v := 60) hx hb dM_begin_69 (by decide +kernel) ?_
      refine lv_imul hx hb dM_begin_71 ?_
      refine lv_iload hx hb dM_begin_72 (lv_at hl 3 rfl) ?_
      refine lv_iadd hx hb dM_begin_74 ?_
      refine lv_istore (lv' := [(5, .int ((v9 * 60) + l4)), (0, .ref l0), (1, .int l1), (2, .int l2), (4, .int l4)]) hx hb dM_begin_75 hl (by decide) rfl (fun ls hl => ?_)
      refine lv_aload_n hx hb dM_begin_77 rfl (lv_at hl 1 rfl) ?_
      obtain ⟨fs14, v13, h15, ev16, hw⟩ := hw
      refine z_get hx hb htb inw_M hown hK hM h15 rfl 18 (by decide) (htb _ t_669) (fun _ h9 => h9) ev16 dM_begin_78 ?_
      refine lv_iload hx hb dM_begin_81 (lv_at hl 0 rfl) ?_
      refine lv_aload_n hx hb dM_begin_83 rfl (lv_at hl 1 rfl) ?_
      refine lv_iload_n hx hb dM_begin_84 rfl (lv_at hl 2 rfl) ?_
      refine lv_iload_n hx hb dM_begin_85 rfl (lv_at hl 3 rfl) ?_
      refine lv_iload hx hb dM_begin_86 (lv_at hl 4 rfl) ?_
      obtain ⟨⟨fs24, h25⟩, hw⟩ := hw
      refine va_calli (va_runV (As := [.int l1, .int l2, .int l4]) (rest := [.int ((v9 * 60) + l4), .ref v13]) ⟨hx, hb, hml, hown, htb⟩ (k_M_asks (l := l) (D := D) (tc := tc) (A := A) hw) (cw_M_90 htb ⟨Nat.le_of_ble_eq_true rfl, Nat.le_of_ble_eq_true rfl⟩) (z_preV hG hA hS hM h25 rfl) rfl rfl hl.1 rfl (lv_room (Nat.le_of_ble_eq_true rfl)) dM_begin_88 ⟨Nat.le_refl _, Nat.le_refl _⟩) hS (fun _ _ h => h) (fun _ h => h) (fun r18 M17 t H locs ht hvm hw hB _ _ hS => ?_)
      have hM : zP D vwCl tc A M17 H := by rw [← ht]; exact hB
      obtain ⟨n19, f20, h21, hi22, hw⟩ := hw
      refine z_zast hx hb hK hM hS 1 1 h21 rfl hi22 dM_begin_91 (fun H locs hM hS => ?_)
      refine lv_iconst (v := 0) hx hb dM_begin_92 (by decide +kernel) ?_
      refine lv_istore (lv' := [(6, .int 0), (5, .int ((v9 * 60) + l4)), (0, .ref l0), (1, .int l1), (2, .int l2), (4, .int l4)]) hx hb dM_begin_93 hl (by decide) rfl (fun ls hl => ?_)
      obtain ⟨nfu, hw⟩ := hw
      exact k_M_begin_j95 C0 ih nfu _ _ _ _ _ _ _ _ _ _ hM hS (lv_sub hl [2, 3, 4, 5, 1, 0] rfl) hw
def w_M_begin (e0 : Nat) (post : zM → Prop) (M : zM) (h0 : Nat) (x1 : Int32) (x2 : Int32) (x3 : Int32) : Prop := wGR M h0 4 13 (fun v1 => wGI M h0 4 12 (fun v5 => wSI M v1 0 v5 x1 (fun M13 => wGR M13 h0 4 14 (fun v14 => wGI M13 h0 4 12 (fun v18 => wSZ M13 v14 1 v18 x2 (fun M26 => wGR M26 h0 4 15 (fun v27 => wGI M26 h0 4 12 (fun v31 => wGI M26 h0 4 1 (fun v35 => wSI M26 v27 0 v31 v35 (fun M43 => wGR M43 h0 4 16 (fun v44 => wGI M43 h0 4 12 (fun v48 => wSI M43 v44 0 v48 x3 (fun M56 => wGR M56 h0 4 17 (fun v57 => wGI M56 h0 4 12 (fun v61 => wSI M56 v57 0 v61 0 (fun M69 => ∃ nn, w_M_begin_j56 e0 post nn M69 h0 x1 x2 0))))))))))))))))
set_option maxHeartbeats 4000000 in
set_option maxRecDepth 100000 in
theorem k_M_begin {l : Launch} {D : va_G} {tc : Nat → ClassId} {A : Nat → Prop} {post : zM → Prop} {M : zM} {h0 : Nat} {x1 : Int32} {x2 : Int32} {x3 : Int32} (hw : w_M_begin (tc 9) post M h0 x1 x2 x3) : Met l yM_begin (.code yM_begin cM_begin 7 none :: zTB) r_M_begin (va_Pc [.ref h0, .int x1, .int x2, .int x3] (zI D tc A M)) (va_Qv post (zB D tc A) A) 0 0 A := by
  refine Met.ofW (cc := cM_begin) (maxL := 7) (ret := none) (by decide +kernel) rfl ?_
  intro p e s m args below meth c s₁ B hml hv
  obtain ⟨rfl, hA, hM, hG⟩ := hv
  have C0 := zC_of (D := D) (tc := tc) (A := A) B hml (zC_ex B) hA hG
  obtain ⟨hx, hb, hml, hr, hown, htb, hlk, hA, hG, hin, hex⟩ := id C0
  have hK := hG.1
  have hS : va_S A s.heap s.heap [] := va_S.rf
  have hl := lv_entry ([.ref h0, .int x1, .int x2, .int x3]) (n := 7) (Nat.le_of_ble_eq_true rfl)
  rw [lg_entry_eq]
  generalize (lg_sl ([.ref h0, .int x1, .int x2, .int x3]) ++ List.replicate (7 - (lg_sl ([.ref h0, .int x1, .int x2, .int x3])).length) Slot.unset).toArray = ls at hl ⊢
  have hl : lv_has ls 7 [(0, .ref h0), (1, .int x1), (2, .int x2), (3, .int x3)] := hl
  refine lv_aload_n hx hb dM_begin_0 rfl (lv_at hl 0 rfl) ?_
  obtain ⟨fs2, v1, h3, ev4, hw⟩ := hw
  refine z_get hx hb htb inw_M hown hK hM h3 rfl 13 (by decide) (htb _ t_664) (fun _ h9 => h9) ev4 dM_begin_1 ?_
  refine lv_aload_n hx hb dM_begin_4 rfl (lv_at hl 0 rfl) ?_
  obtain ⟨fs6, v5, h7, ev8, hw⟩ := hw
  refine z_get hx hb htb inw_M hown hK hM h7 rfl 12 (by decide) (htb _ t_663) (fun _ h9 => h9) ev8 dM_begin_5 ?_
  refine lv_iload_n hx hb dM_begin_8 rfl (lv_at hl 1 rfl) ?_
  obtain ⟨n9, f10, h11, hi12, hw⟩ := hw
  refine z_iast hx hb hK hM hS 0 0 h11 rfl hi12 dM_begin_9 (fun H locs hM hS => ?_)
  refine lv_aload_n hx hb dM_begin_10 rfl (lv_at hl 0 rfl) ?_
  obtain ⟨fs15, v14, h16, ev17, hw⟩ := hw
  refine z_get hx hb htb inw_M hown hK hM h16 rfl 14 (by decide) (htb _ t_665) (fun _ h9 => h9) ev17 dM_begin_11 ?_
  refine lv_aload_n hx hb dM_begin_14 rfl (lv_at hl 0 rfl) ?_
  obtain ⟨fs19, v18, h20, ev21, hw⟩ := hw
  refine z_get hx hb htb inw_M hown hK hM h20 rfl 12 (by decide) (htb _ t_663) (fun _ h9 => h9) ev21 dM_begin_15 ?_
  refine lv_iload_n hx hb dM_begin_18 rfl (lv_at hl 2 rfl) ?_
  obtain ⟨n22, f23, h24, hi25, hw⟩ := hw
  refine z_zast hx hb hK hM hS 1 1 h24 rfl hi25 dM_begin_19 (fun H locs hM hS => ?_)
  refine lv_aload_n hx hb dM_begin_20 rfl (lv_at hl 0 rfl) ?_
  obtain ⟨fs28, v27, h29, ev30, hw⟩ := hw
  refine z_get hx hb htb inw_M hown hK hM h29 rfl 15 (by decide) (htb _ t_666) (fun _ h9 => h9) ev30 dM_begin_21 ?_
  refine lv_aload_n hx hb dM_begin_24 rfl (lv_at hl 0 rfl) ?_
  obtain ⟨fs32, v31, h33, ev34, hw⟩ := hw
  refine z_get hx hb htb inw_M hown hK hM h33 rfl 12 (by decide) (htb _ t_663) (fun _ h9 => h9) ev34 dM_begin_25 ?_
  refine lv_aload_n hx hb dM_begin_28 rfl (lv_at hl 0 rfl) ?_
  obtain ⟨fs36, v35, h37, ev38, hw⟩ := hw
  refine z_get hx hb htb inw_M hown hK hM h37 rfl 1 (by decide) (htb _ t_652) (fun _ h9 => h9) ev38 dM_begin_29 ?_
  obtain ⟨n39, f40, h41, hi42, hw⟩ := hw
  refine z_iast hx hb hK hM hS 0 0 h41 rfl hi42 dM_begin_32 (fun H locs hM hS => ?_)
  refine lv_aload_n hx hb dM_begin_33 rfl (lv_at hl 0 rfl) ?_
  obtain ⟨fs45, v44, h46, ev47, hw⟩ := hw
  refine z_get hx hb htb inw_M hown hK hM h46 rfl 16 (by decide) (htb _ t_667) (fun _ h9 => h9) ev47 dM_begin_34 ?_
  refine lv_aload_n hx hb dM_begin_37 rfl (lv_at hl 0 rfl) ?_
  obtain ⟨fs49, v48, h50, ev51, hw⟩ := hw
  refine z_get hx hb htb inw_M hown hK hM h50 rfl 12 (by decide) (htb _ t_663) (fun _ h9 => h9) ev51 dM_begin_38 ?_
  refine lv_iload_n hx hb dM_begin_41 rfl (lv_at hl 3 rfl) ?_
  obtain ⟨n52, f53, h54, hi55, hw⟩ := hw
  refine z_iast hx hb hK hM hS 0 0 h54 rfl hi55 dM_begin_42 (fun H locs hM hS => ?_)
  refine lv_aload_n hx hb dM_begin_43 rfl (lv_at hl 0 rfl) ?_
  obtain ⟨fs58, v57, h59, ev60, hw⟩ := hw
  refine z_get hx hb htb inw_M hown hK hM h59 rfl 17 (by decide) (htb _ t_668) (fun _ h9 => h9) ev60 dM_begin_44 ?_
  refine lv_aload_n hx hb dM_begin_47 rfl (lv_at hl 0 rfl) ?_
  obtain ⟨fs62, v61, h63, ev64, hw⟩ := hw
  refine z_get hx hb htb inw_M hown hK hM h63 rfl 12 (by decide) (htb _ t_663) (fun _ h9 => h9) ev64 dM_begin_48 ?_
  refine lv_iconst (v := 0) hx hb dM_begin_51 (by decide +kernel) ?_
  obtain ⟨n65, f66, h67, hi68, hw⟩ := hw
  refine z_iast hx hb hK hM hS 0 0 h67 rfl hi68 dM_begin_52 (fun H locs hM hS => ?_)
  refine lv_iconst (v := 0) hx hb dM_begin_53 (by decide +kernel) ?_
  refine lv_istore (lv' := [(4, .int 0), (0, .ref h0), (1, .int x1), (2, .int x2), (3, .int x3)]) hx hb dM_begin_54 hl (by decide) rfl (fun ls hl => ?_)
  obtain ⟨nfu, hw⟩ := hw
  exact k_M_begin_j56 C0  nfu _ _ _ _ _ _ _ _ hM hS (lv_sub hl [1, 2, 3, 0] rfl) hw
abbrev r_M_alarm : Room := { frames := 2, cells := 0, slots := 0, locals := 49 }
abbrev J_M_alarm_42 (p : Program) (l : Launch) (e : Env) (s : State) (m : MethodId) (args : Array Value) (below : List Frame) (meth : Method) (c : Code) (D : va_G) (tc : Nat → ClassId) (A : Nat → Prop) (Q : State → Prop) (K : zM → Nat → Int32 → Int32 → Int32 → Int32 → Int32 → Nat → Prop) : Prop := ∀ (M : zM) (l0 : Nat) (l1 : Int32) (l2 : Int32) (s0 : Int32) (s1 : Int32) (s2 : Int32) (s3 : Nat) (H : Heap) (locs : List Loc) (ls : Array Slot), zP D vwCl tc A M H → va_S A s.heap H locs → lv_has ls 3 [(0, .ref l0), (1, .int l1), (2, .int l2)] → K M l0 l1 l2 s0 s1 s2 s3 → W p l e (r_M_alarm) s m args below meth c H locs 0 0 Q (F0 m 42 ls [.int s0, .int s1, .int s2, .ref s3])
abbrev J_M_alarm_28 (p : Program) (l : Launch) (e : Env) (s : State) (m : MethodId) (args : Array Value) (below : List Frame) (meth : Method) (c : Code) (D : va_G) (tc : Nat → ClassId) (A : Nat → Prop) (Q : State → Prop) (K : zM → Nat → Int32 → Int32 → Int32 → Int32 → Nat → Prop) : Prop := ∀ (M : zM) (l0 : Nat) (l1 : Int32) (l2 : Int32) (s0 : Int32) (s1 : Int32) (s2 : Nat) (H : Heap) (locs : List Loc) (ls : Array Slot), zP D vwCl tc A M H → va_S A s.heap H locs → lv_has ls 3 [(0, .ref l0), (1, .int l1), (2, .int l2)] → K M l0 l1 l2 s0 s1 s2 → W p l e (r_M_alarm) s m args below meth c H locs 0 0 Q (F0 m 28 ls [.int s0, .int s1, .ref s2])
abbrev J_M_alarm_27 (p : Program) (l : Launch) (e : Env) (s : State) (m : MethodId) (args : Array Value) (below : List Frame) (meth : Method) (c : Code) (D : va_G) (tc : Nat → ClassId) (A : Nat → Prop) (Q : State → Prop) (K : zM → Nat → Int32 → Int32 → Int32 → Nat → Prop) : Prop := ∀ (M : zM) (l0 : Nat) (l1 : Int32) (l2 : Int32) (s0 : Int32) (s1 : Nat) (H : Heap) (locs : List Loc) (ls : Array Slot), zP D vwCl tc A M H → va_S A s.heap H locs → lv_has ls 3 [(0, .ref l0), (1, .int l1), (2, .int l2)] → K M l0 l1 l2 s0 s1 → W p l e (r_M_alarm) s m args below meth c H locs 0 0 Q (F0 m 27 ls [.int s0, .ref s1])
def w_M_alarm_j42 (e0 : Nat) (post : Int32 → zM → Prop) (M : zM) (l0 : Nat) (l1 : Int32) (l2 : Int32) (s0 : Int32) (s1 : Int32) (s2 : Int32) (s3 : Nat) : Prop := wIs M s3 4 ∧ w_M_goes e0 (fun r2 M1 => ((r2 = 0) → post 0 M1) ∧ (¬ (r2 = 0) → wIs M1 l0 4 ∧ w_M_begin e0 (fun M3 => wGI M3 l0 4 12 (fun v4 => post (v4 - 1) M3)) M1 l0 l1 l2 (-1))) M s3 s2 s1 s0
set_option maxHeartbeats 4000000 in
set_option maxRecDepth 100000 in
theorem k_M_alarm_j42 {p : Program} {l : Launch} {e : Env} {s : State} {m : MethodId} {args : Array Value} {below : List Frame} {meth : Method} {c : Code} {D : va_G} {tc : Nat → ClassId} {A : Nat → Prop} {post : Int32 → zM → Prop} (C0 : zC R_M cM_alarm 3 (some .int) "alarm" D tc A p l s m args meth c) : J_M_alarm_42 p l e s m args below meth c D tc A (MQ below (va_Qi post (zB D tc A) A) args s 0 0 A) (w_M_alarm_j42 (tc 9) post) := by
  obtain ⟨hx, hb, hml, hr, hown, htb, hlk, hA, hG, hin, hex⟩ := id C0
  have hK := hG.1
  intro M l0 l1 l2 s0 s1 s2 s3 H locs ls hM hS hl hw
  obtain ⟨⟨fs10, h11⟩, hw⟩ := hw
  refine va_calli (va_runV (As := [.int s2, .int s1, .int s0]) (rest := []) ⟨hx, hb, hml, hown, htb⟩ (k_M_goes (l := l) (D := D) (tc := tc) (A := A) hw) (cw_M_79 htb ⟨Nat.le_of_ble_eq_true rfl, Nat.le_of_ble_eq_true rfl⟩) (z_preV hG hA hS hM h11 rfl) rfl rfl hl.1 rfl (lv_room (Nat.le_of_ble_eq_true rfl)) dM_alarm_42 ⟨Nat.le_refl _, Nat.le_refl _⟩) hS (fun _ _ h => h) (fun _ h => h) (fun r2 M1 t H locs ht hvm hw hB _ _ hS => ?_)
  have hM : zP D vwCl tc A M1 H := by rw [← ht]; exact hB
  refine lv_if_ne (tgt := 50) hx hb dM_alarm_45 (by decide) (fun hq => ?_) (fun hq => ?_)
  · have hw := hw.2 hq
    refine lv_aload_n hx hb dM_alarm_50 rfl (lv_at hl 0 rfl) ?_
    refine lv_iload_n hx hb dM_alarm_51 rfl (lv_at hl 1 rfl) ?_
    refine lv_iload_n hx hb dM_alarm_52 rfl (lv_at hl 2 rfl) ?_
    refine lv_iconst (v := (-1)) hx hb dM_alarm_53 (by decide +kernel) ?_
    obtain ⟨⟨fs8, h9⟩, hw⟩ := hw
    refine va_callv (va_runV (As := [.int l1, .int l2, .int (-1)]) (rest := []) ⟨hx, hb, hml, hown, htb⟩ (k_M_begin (l := l) (D := D) (tc := tc) (A := A) hw) (cw_M_101 htb ⟨Nat.le_of_ble_eq_true rfl, Nat.le_of_ble_eq_true rfl⟩) (z_preV hG hA hS hM h9 rfl) rfl rfl hl.1 rfl (lv_room (Nat.le_of_ble_eq_true rfl)) dM_alarm_54 ⟨Nat.le_refl _, Nat.le_refl _⟩) hS (fun _ _ h => h) (fun _ h => h) (fun M3 t H locs ht hvm hw hB _ _ hS => ?_)
    have hM : zP D vwCl tc A M3 H := by rw [← ht]; exact hB
    refine lv_aload_n hx hb dM_alarm_57 rfl (lv_at hl 0 rfl) ?_
    obtain ⟨fs5, v4, h6, ev7, hw⟩ := hw
    refine z_get hx hb htb inw_M hown hK hM h6 rfl 12 (by decide) (htb _ t_663) (fun _ h9 => h9) ev7 dM_alarm_58 ?_
    refine lv_iconst (v := 1) hx hb dM_alarm_61 (by decide +kernel) ?_
    refine lv_isub hx hb dM_alarm_62 ?_
    exact W.iret hx hb hr (fun t ht hW => ⟨⟨_, _, rfl, hw, zB_of ht hM⟩, hS.F ht⟩) hS.2.2 dM_alarm_63
  · have hw := hw.1 hq
    refine lv_iconst (v := 0) hx hb dM_alarm_48 (by decide +kernel) ?_
    exact W.iret hx hb hr (fun t ht hW => ⟨⟨_, _, rfl, hw, zB_of ht hM⟩, hS.F ht⟩) hS.2.2 dM_alarm_49
def w_M_alarm_j28 (e0 : Nat) (post : Int32 → zM → Prop) (M : zM) (l0 : Nat) (l1 : Int32) (l2 : Int32) (s0 : Int32) (s1 : Int32) (s2 : Nat) : Prop := wGI M l0 4 12 (fun v1 => ((60 ≤ v1) → w_M_alarm_j42 e0 post M l0 l1 l2 0 s0 s1 s2) ∧ (¬ (60 ≤ v1) → w_M_alarm_j42 e0 post M l0 l1 l2 1 s0 s1 s2))
set_option maxHeartbeats 4000000 in
set_option maxRecDepth 100000 in
theorem k_M_alarm_j28 {p : Program} {l : Launch} {e : Env} {s : State} {m : MethodId} {args : Array Value} {below : List Frame} {meth : Method} {c : Code} {D : va_G} {tc : Nat → ClassId} {A : Nat → Prop} {post : Int32 → zM → Prop} (C0 : zC R_M cM_alarm 3 (some .int) "alarm" D tc A p l s m args meth c) : J_M_alarm_28 p l e s m args below meth c D tc A (MQ below (va_Qi post (zB D tc A) A) args s 0 0 A) (w_M_alarm_j28 (tc 9) post) := by
  obtain ⟨hx, hb, hml, hr, hown, htb, hlk, hA, hG, hin, hex⟩ := id C0
  have hK := hG.1
  intro M l0 l1 l2 s0 s1 s2 H locs ls hM hS hl hw
  refine lv_aload_n hx hb dM_alarm_28 rfl (lv_at hl 0 rfl) ?_
  obtain ⟨fs2, v1, h3, ev4, hw⟩ := hw
  refine z_get hx hb htb inw_M hown hK hM h3 rfl 12 (by decide) (htb _ t_663) (fun _ h9 => h9) ev4 dM_alarm_29 ?_
  refine lv_bipush (v := 60) hx hb dM_alarm_32 (by decide +kernel) ?_
  refine lv_icmp_ge (tgt := 41) hx hb dM_alarm_34 (by decide) (fun hq => ?_) (fun hq => ?_)
  · have hw := hw.1 hq
    refine lv_iconst (v := 0) hx hb dM_alarm_41 (by decide +kernel) ?_
    exact k_M_alarm_j42 C0  _ _ _ _ _ _ _ _ _ _ _ hM hS (lv_sub hl [0, 1, 2] rfl) hw
  · have hw := hw.2 hq
    refine lv_iconst (v := 1) hx hb dM_alarm_37 (by decide +kernel) ?_
    refine lv_goto (tgt := 42) hx hb dM_alarm_38 (by decide) ?_
    exact k_M_alarm_j42 C0  _ _ _ _ _ _ _ _ _ _ _ hM hS (lv_sub hl [0, 1, 2] rfl) hw
def w_M_alarm_j27 (e0 : Nat) (post : Int32 → zM → Prop) (M : zM) (l0 : Nat) (l1 : Int32) (l2 : Int32) (s0 : Int32) (s1 : Nat) : Prop := w_M_alarm_j28 e0 post M l0 l1 l2 0 s0 s1
set_option maxHeartbeats 4000000 in
set_option maxRecDepth 100000 in
theorem k_M_alarm_j27 {p : Program} {l : Launch} {e : Env} {s : State} {m : MethodId} {args : Array Value} {below : List Frame} {meth : Method} {c : Code} {D : va_G} {tc : Nat → ClassId} {A : Nat → Prop} {post : Int32 → zM → Prop} (C0 : zC R_M cM_alarm 3 (some .int) "alarm" D tc A p l s m args meth c) : J_M_alarm_27 p l e s m args below meth c D tc A (MQ below (va_Qi post (zB D tc A) A) args s 0 0 A) (w_M_alarm_j27 (tc 9) post) := by
  obtain ⟨hx, hb, hml, hr, hown, htb, hlk, hA, hG, hin, hex⟩ := id C0
  have hK := hG.1
  intro M l0 l1 l2 s0 s1 H locs ls hM hS hl hw
  refine lv_iconst (v := 0) hx hb dM_alarm_27 (by decide +kernel) ?_
  exact k_M_alarm_j28 C0  _ _ _ _ _ _ _ _ _ _ hM hS (lv_sub hl [0, 1, 2] rfl) hw
def w_M_alarm (e0 : Nat) (post : Int32 → zM → Prop) (M : zM) (h0 : Nat) (x1 : Int32) (x2 : Int32) : Prop := wIs M h0 4 ∧ w_M_isGroup e0 (fun r2 M1 => wIs M1 h0 4 ∧ w_M_isGroup e0 (fun r4 M3 => ((r4 = 0) → w_M_alarm_j27 e0 post M3 h0 x1 x2 r2 h0) ∧ (¬ (r4 = 0) → wIs M3 h0 4 ∧ w_M_asksAny e0 (fun r6 M5 => ((r6 = 0) → w_M_alarm_j27 e0 post M5 h0 x1 x2 r2 h0) ∧ (¬ (r6 = 0) → w_M_alarm_j28 e0 post M5 h0 x1 x2 1 r2 h0)) M3 h0 x1 x2)) M1 h0 x1) M h0 x1
set_option maxHeartbeats 4000000 in
set_option maxRecDepth 100000 in
theorem k_M_alarm {l : Launch} {D : va_G} {tc : Nat → ClassId} {A : Nat → Prop} {post : Int32 → zM → Prop} {M : zM} {h0 : Nat} {x1 : Int32} {x2 : Int32} (hw : w_M_alarm (tc 9) post M h0 x1 x2) : Met l yM_alarm (.code yM_alarm cM_alarm 3 (some .int) :: zTB) r_M_alarm (va_Pc [.ref h0, .int x1, .int x2] (zI D tc A M)) (va_Qi post (zB D tc A) A) 0 0 A := by
  refine Met.ofW (cc := cM_alarm) (maxL := 3) (ret := (some .int)) (by decide +kernel) rfl ?_
  intro p e s m args below meth c s₁ B hml hv
  obtain ⟨rfl, hA, hM, hG⟩ := hv
  have C0 := zC_of (D := D) (tc := tc) (A := A) B hml (zC_ex B) hA hG
  obtain ⟨hx, hb, hml, hr, hown, htb, hlk, hA, hG, hin, hex⟩ := id C0
  have hK := hG.1
  have hS : va_S A s.heap s.heap [] := va_S.rf
  have hl := lv_entry ([.ref h0, .int x1, .int x2]) (n := 3) (Nat.le_of_ble_eq_true rfl)
  rw [lg_entry_eq]
  generalize (lg_sl ([.ref h0, .int x1, .int x2]) ++ List.replicate (3 - (lg_sl ([.ref h0, .int x1, .int x2])).length) Slot.unset).toArray = ls at hl ⊢
  have hl : lv_has ls 3 [(0, .ref h0), (1, .int x1), (2, .int x2)] := hl
  refine lv_aload_n hx hb dM_alarm_0 rfl (lv_at hl 0 rfl) ?_
  refine lv_aload_n hx hb dM_alarm_1 rfl (lv_at hl 0 rfl) ?_
  refine lv_iload_n hx hb dM_alarm_2 rfl (lv_at hl 1 rfl) ?_
  obtain ⟨⟨fs11, h12⟩, hw⟩ := hw
  refine va_calli (va_runV (As := [.int x1]) (rest := [.ref h0]) ⟨hx, hb, hml, hown, htb⟩ (k_M_isGroup (l := l) (D := D) (tc := tc) (A := A) hw) (cw_M_83 htb ⟨Nat.le_of_ble_eq_true rfl, Nat.le_of_ble_eq_true rfl⟩) (z_preV hG hA hS hM h12 rfl) rfl rfl hl.1 rfl (lv_room (Nat.le_of_ble_eq_true rfl)) dM_alarm_3 ⟨Nat.le_refl _, Nat.le_refl _⟩) hS (fun _ _ h => h) (fun _ h => h) (fun r2 M1 t H locs ht hvm hw hB _ _ hS => ?_)
  have hM : zP D vwCl tc A M1 H := by rw [← ht]; exact hB
  refine lv_aload_n hx hb dM_alarm_6 rfl (lv_at hl 0 rfl) ?_
  refine lv_iload_n hx hb dM_alarm_7 rfl (lv_at hl 1 rfl) ?_
  obtain ⟨⟨fs9, h10⟩, hw⟩ := hw
  refine va_calli (va_runV (As := [.int x1]) (rest := [.int r2, .ref h0]) ⟨hx, hb, hml, hown, htb⟩ (k_M_isGroup (l := l) (D := D) (tc := tc) (A := A) hw) (cw_M_83 htb ⟨Nat.le_of_ble_eq_true rfl, Nat.le_of_ble_eq_true rfl⟩) (z_preV hG hA hS hM h10 rfl) rfl rfl hl.1 rfl (lv_room (Nat.le_of_ble_eq_true rfl)) dM_alarm_8 ⟨Nat.le_refl _, Nat.le_refl _⟩) hS (fun _ _ h => h) (fun _ h => h) (fun r4 M3 t H locs ht hvm hw hB _ _ hS => ?_)
  have hM : zP D vwCl tc A M3 H := by rw [← ht]; exact hB
  refine lv_if_eq (tgt := 27) hx hb dM_alarm_11 (by decide) (fun hq => ?_) (fun hq => ?_)
  · have hw := hw.1 hq
    exact k_M_alarm_j27 C0  _ _ _ _ _ _ _ _ _ hM hS (lv_sub hl [0, 1, 2] rfl) hw
  · have hw := hw.2 hq
    refine lv_aload_n hx hb dM_alarm_14 rfl (lv_at hl 0 rfl) ?_
    refine lv_iload_n hx hb dM_alarm_15 rfl (lv_at hl 1 rfl) ?_
    refine lv_iload_n hx hb dM_alarm_16 rfl (lv_at hl 2 rfl) ?_
    obtain ⟨⟨fs7, h8⟩, hw⟩ := hw
    refine va_calli (va_runV (As := [.int x1, .int x2]) (rest := [.int r2, .ref h0]) ⟨hx, hb, hml, hown, htb⟩ (k_M_asksAny (l := l) (D := D) (tc := tc) (A := A) hw) (cw_M_97 htb ⟨Nat.le_of_ble_eq_true rfl, Nat.le_of_ble_eq_true rfl⟩) (z_preV hG hA hS hM h8 rfl) rfl rfl hl.1 rfl (lv_room (Nat.le_of_ble_eq_true rfl)) dM_alarm_17 ⟨Nat.le_refl _, Nat.le_refl _⟩) hS (fun _ _ h => h) (fun _ h => h) (fun r6 M5 t H locs ht hvm hw hB _ _ hS => ?_)
    have hM : zP D vwCl tc A M5 H := by rw [← ht]; exact hB
    refine lv_if_eq (tgt := 27) hx hb dM_alarm_20 (by decide) (fun hq => ?_) (fun hq => ?_)
    · have hw := hw.1 hq
      exact k_M_alarm_j27 C0  _ _ _ _ _ _ _ _ _ hM hS (lv_sub hl [0, 1, 2] rfl) hw
    · have hw := hw.2 hq
      refine lv_iconst (v := 1) hx hb dM_alarm_23 (by decide +kernel) ?_
      refine lv_goto (tgt := 28) hx hb dM_alarm_24 (by decide) ?_
      exact k_M_alarm_j28 C0  _ _ _ _ _ _ _ _ _ _ hM hS (lv_sub hl [0, 1, 2] rfl) hw
abbrev r_M_isAlarm : Room := { frames := 1, cells := 0, slots := 0, locals := 22 }
def w_M_isAlarm (e0 : Nat) (post : Int32 → zM → Prop) (M : zM) (h0 : Nat) (x1 : Int32) : Prop := wGI M h0 4 12 (fun v1 => w_M_in e0 (fun r6 M5 => (narrow .boolean (.int r6) = .int r6) ∧ post r6 M5) M x1 0 (v1 - 1))
set_option maxHeartbeats 4000000 in
set_option maxRecDepth 100000 in
theorem k_M_isAlarm {l : Launch} {D : va_G} {tc : Nat → ClassId} {A : Nat → Prop} {post : Int32 → zM → Prop} {M : zM} {h0 : Nat} {x1 : Int32} (hw : w_M_isAlarm (tc 9) post M h0 x1) : Met l yM_isAlarm (.code yM_isAlarm cM_isAlarm 2 (some .boolean) :: zTB) r_M_isAlarm (va_Pc [.ref h0, .int x1] (zI D tc A M)) (va_Qi post (zB D tc A) A) 0 0 A := by
  refine Met.ofW (cc := cM_isAlarm) (maxL := 2) (ret := (some .boolean)) (by decide +kernel) rfl ?_
  intro p e s m args below meth c s₁ B hml hv
  obtain ⟨rfl, hA, hM, hG⟩ := hv
  have C0 := zC_of (D := D) (tc := tc) (A := A) B hml (zC_ex B) hA hG
  obtain ⟨hx, hb, hml, hr, hown, htb, hlk, hA, hG, hin, hex⟩ := id C0
  have hK := hG.1
  have hS : va_S A s.heap s.heap [] := va_S.rf
  have hl := lv_entry ([.ref h0, .int x1]) (n := 2) (Nat.le_of_ble_eq_true rfl)
  rw [lg_entry_eq]
  generalize (lg_sl ([.ref h0, .int x1]) ++ List.replicate (2 - (lg_sl ([.ref h0, .int x1])).length) Slot.unset).toArray = ls at hl ⊢
  have hl : lv_has ls 2 [(0, .ref h0), (1, .int x1)] := hl
  refine lv_iload_n hx hb dM_isAlarm_0 rfl (lv_at hl 1 rfl) ?_
  refine lv_iconst (v := 0) hx hb dM_isAlarm_1 (by decide +kernel) ?_
  refine lv_aload_n hx hb dM_isAlarm_2 rfl (lv_at hl 0 rfl) ?_
  obtain ⟨fs2, v1, h3, ev4, hw⟩ := hw
  refine z_get hx hb htb inw_M hown hK hM h3 rfl 12 (by decide) (htb _ t_663) (fun _ h9 => h9) ev4 dM_isAlarm_3 ?_
  refine lv_iconst (v := 1) hx hb dM_isAlarm_6 (by decide +kernel) ?_
  refine lv_isub hx hb dM_isAlarm_7 ?_
  refine va_calli (va_runS (As := [.int x1, .int 0, .int (v1 - 1)]) (rest := []) ⟨hx, hb, hml, hown, htb⟩ (k_M_in (l := l) (D := D) (tc := tc) (A := A) hw) (cw_M_69 htb ⟨Nat.le_of_ble_eq_true rfl, Nat.le_of_ble_eq_true rfl⟩) (z_preS hG hA hS hM) rfl rfl hl.1 rfl (lv_room (Nat.le_of_ble_eq_true rfl)) dM_isAlarm_8 ⟨Nat.le_refl _, Nat.le_refl _⟩) hS (fun _ _ h => h) (fun _ h => h) (fun r6 M5 t H locs ht hvm hw hB _ _ hS => ?_)
  have hM : zP D vwCl tc A M5 H := by rw [← ht]; exact hB
  obtain ⟨hnb, hw⟩ := hw
  exact W.zret hx hb hr hnb (fun t ht hW => ⟨⟨_, _, rfl, hw, zB_of ht hM⟩, hS.F ht⟩) hS.2.2 dM_isAlarm_11
abbrev r_M_isReached : Room := { frames := 0, cells := 0, slots := 0, locals := 0 }
abbrev J_M_isReached_32 (p : Program) (l : Launch) (e : Env) (s : State) (m : MethodId) (args : Array Value) (below : List Frame) (meth : Method) (c : Code) (D : va_G) (tc : Nat → ClassId) (A : Nat → Prop) (Q : State → Prop) (K : zM → Prop) : Prop := ∀ (M : zM) (H : Heap) (locs : List Loc) (ls : Array Slot), zP D vwCl tc A M H → va_S A s.heap H locs → lv_has ls 3 [] → K M → W p l e (r_M_isReached) s m args below meth c H locs 0 0 Q (F0 m 32 ls [])
def w_M_isReached_j32 (e0 : Nat) (post : Int32 → zM → Prop) (M : zM) : Prop := post 0 M
set_option maxHeartbeats 4000000 in
set_option maxRecDepth 100000 in
theorem k_M_isReached_j32 {p : Program} {l : Launch} {e : Env} {s : State} {m : MethodId} {args : Array Value} {below : List Frame} {meth : Method} {c : Code} {D : va_G} {tc : Nat → ClassId} {A : Nat → Prop} {post : Int32 → zM → Prop} (C0 : zC R_M cM_isReached 3 (some .boolean) "isReached" D tc A p l s m args meth c) : J_M_isReached_32 p l e s m args below meth c D tc A (MQ below (va_Qi post (zB D tc A) A) args s 0 0 A) (w_M_isReached_j32 (tc 9) post) := by
  obtain ⟨hx, hb, hml, hr, hown, htb, hlk, hA, hG, hin, hex⟩ := id C0
  have hK := hG.1
  intro M H locs ls hM hS hl hw
  refine lv_iconst (v := 0) hx hb dM_isReached_32 (by decide +kernel) ?_
  exact W.zret hx hb hr rfl (fun t ht hW => ⟨⟨_, _, rfl, hw, zB_of ht hM⟩, hS.F ht⟩) hS.2.2 dM_isReached_33
def w_M_isReached (e0 : Nat) (post : Int32 → zM → Prop) (M : zM) (h0 : Nat) (x1 : Int32) (x2 : Int32) : Prop := wGR M h0 4 18 (fun v1 => wLI M v1 1 ((x1 * 60) + x2) (fun v7 => ((v7 = 0) → w_M_isReached_j32 e0 post M) ∧ (¬ (v7 = 0) → wGR M h0 4 19 (fun v11 => wLI M v11 0 ((x1 * 60) + x2) (fun v17 => ((v17 < 0) → w_M_isReached_j32 e0 post M) ∧ (¬ (v17 < 0) → post 1 M))))))
set_option maxHeartbeats 4000000 in
set_option maxRecDepth 100000 in
theorem k_M_isReached {l : Launch} {D : va_G} {tc : Nat → ClassId} {A : Nat → Prop} {post : Int32 → zM → Prop} {M : zM} {h0 : Nat} {x1 : Int32} {x2 : Int32} (hw : w_M_isReached (tc 9) post M h0 x1 x2) : Met l yM_isReached (.code yM_isReached cM_isReached 3 (some .boolean) :: zTB) r_M_isReached (va_Pc [.ref h0, .int x1, .int x2] (zI D tc A M)) (va_Qi post (zB D tc A) A) 0 0 A := by
  refine Met.ofW (cc := cM_isReached) (maxL := 3) (ret := (some .boolean)) (by decide +kernel) rfl ?_
  intro p e s m args below meth c s₁ B hml hv
  obtain ⟨rfl, hA, hM, hG⟩ := hv
  have C0 := zC_of (D := D) (tc := tc) (A := A) B hml (zC_ex B) hA hG
  obtain ⟨hx, hb, hml, hr, hown, htb, hlk, hA, hG, hin, hex⟩ := id C0
  have hK := hG.1
  have hS : va_S A s.heap s.heap [] := va_S.rf
  have hl := lv_entry ([.ref h0, .int x1, .int x2]) (n := 3) (Nat.le_of_ble_eq_true rfl)
  rw [lg_entry_eq]
  generalize (lg_sl ([.ref h0, .int x1, .int x2]) ++ List.replicate (3 - (lg_sl ([.ref h0, .int x1, .int x2])).length) Slot.unset).toArray = ls at hl ⊢
  have hl : lv_has ls 3 [(0, .ref h0), (1, .int x1), (2, .int x2)] := hl
  refine lv_aload_n hx hb dM_isReached_0 rfl (lv_at hl 0 rfl) ?_
  obtain ⟨fs2, v1, h3, ev4, hw⟩ := hw
  refine z_get hx hb htb inw_M hown hK hM h3 rfl 18 (by decide) (htb _ t_669) (fun _ h9 => h9) ev4 dM_isReached_1 ?_
  refine lv_iload_n hx hb dM_isReached_4 rfl (lv_at hl 1 rfl) ?_
  refine lv_bipush (v := 60) hx hb dM_isReached_5 (by decide +kernel) ?_
  refine lv_imul hx hb dM_isReached_7 ?_
  refine lv_iload_n hx hb dM_isReached_8 rfl (lv_at hl 2 rfl) ?_
  refine lv_iadd hx hb dM_isReached_9 ?_
  obtain ⟨n5, f6, v7, h8, hi9, ev10, hw⟩ := hw
  refine z_zald hx hb hK hM 1 1 h8 rfl hi9 ev10 dM_isReached_10 ?_
  refine lv_if_eq (tgt := 32) hx hb dM_isReached_11 (by decide) (fun hq => ?_) (fun hq => ?_)
  · have hw := hw.1 hq
    exact k_M_isReached_j32 C0  _  _ _ _ hM hS (lv_sub hl [] rfl) hw
  · have hw := hw.2 hq
    refine lv_aload_n hx hb dM_isReached_14 rfl (lv_at hl 0 rfl) ?_
    obtain ⟨fs12, v11, h13, ev14, hw⟩ := hw
    refine z_get hx hb htb inw_M hown hK hM h13 rfl 19 (by decide) (htb _ t_670) (fun _ h9 => h9) ev14 dM_isReached_15 ?_
    refine lv_iload_n hx hb dM_isReached_18 rfl (lv_at hl 1 rfl) ?_
    refine lv_bipush (v := 60) hx hb dM_isReached_19 (by decide +kernel) ?_
    refine lv_imul hx hb dM_isReached_21 ?_
    refine lv_iload_n hx hb dM_isReached_22 rfl (lv_at hl 2 rfl) ?_
    refine lv_iadd hx hb dM_isReached_23 ?_
    obtain ⟨n15, f16, v17, h18, hi19, ev20, hw⟩ := hw
    refine z_iald hx hb hK hM 0 0 h18 rfl hi19 ev20 dM_isReached_24 ?_
    refine lv_if_lt (tgt := 32) hx hb dM_isReached_25 (by decide) (fun hq => ?_) (fun hq => ?_)
    · have hw := hw.1 hq
      exact k_M_isReached_j32 C0  _  _ _ _ hM hS (lv_sub hl [] rfl) hw
    · have hw := hw.2 hq
      refine lv_iconst (v := 1) hx hb dM_isReached_28 (by decide +kernel) ?_
      refine lv_goto (tgt := 33) hx hb dM_isReached_29 (by decide) ?_
      exact W.zret hx hb hr rfl (fun t ht hW => ⟨⟨_, _, rfl, hw, zB_of ht hM⟩, hS.F ht⟩) hS.2.2 dM_isReached_33
abbrev r_M_isThere : Room := { frames := 1, cells := 0, slots := 0, locals := 22 }
abbrev J_M_isThere_38 (p : Program) (l : Launch) (e : Env) (s : State) (m : MethodId) (args : Array Value) (below : List Frame) (meth : Method) (c : Code) (D : va_G) (tc : Nat → ClassId) (A : Nat → Prop) (Q : State → Prop) (K : zM → Prop) : Prop := ∀ (M : zM) (H : Heap) (locs : List Loc) (ls : Array Slot), zP D vwCl tc A M H → va_S A s.heap H locs → lv_has ls 3 [] → K M → W p l e (r_M_isThere) s m args below meth c H locs 0 0 Q (F0 m 38 ls [])
def w_M_isThere_j38 (e0 : Nat) (post : Int32 → zM → Prop) (M : zM) : Prop := post 0 M
set_option maxHeartbeats 4000000 in
set_option maxRecDepth 100000 in
theorem k_M_isThere_j38 {p : Program} {l : Launch} {e : Env} {s : State} {m : MethodId} {args : Array Value} {below : List Frame} {meth : Method} {c : Code} {D : va_G} {tc : Nat → ClassId} {A : Nat → Prop} {post : Int32 → zM → Prop} (C0 : zC R_M cM_isThere 3 (some .boolean) "isThere" D tc A p l s m args meth c) : J_M_isThere_38 p l e s m args below meth c D tc A (MQ below (va_Qi post (zB D tc A) A) args s 0 0 A) (w_M_isThere_j38 (tc 9) post) := by
  obtain ⟨hx, hb, hml, hr, hown, htb, hlk, hA, hG, hin, hex⟩ := id C0
  have hK := hG.1
  intro M H locs ls hM hS hl hw
  refine lv_iconst (v := 0) hx hb dM_isThere_38 (by decide +kernel) ?_
  exact W.zret hx hb hr rfl (fun t ht hW => ⟨⟨_, _, rfl, hw, zB_of ht hM⟩, hS.F ht⟩) hS.2.2 dM_isThere_39
def w_M_isThere (e0 : Nat) (post : Int32 → zM → Prop) (M : zM) (h0 : Nat) (x1 : Int32) (x2 : Int32) : Prop := wIs M h0 4 ∧ w_M_isReached e0 (fun r2 M1 => ((r2 = 0) → w_M_isThere_j38 e0 post M1) ∧ (¬ (r2 = 0) → wGI M1 h0 4 1 (fun v3 => wGR M1 h0 4 15 (fun v7 => wLI M1 v7 0 x1 (fun v13 => wGR M1 h0 4 20 (fun v17 => wLI M1 v17 0 ((x1 * 60) + x2) (fun v23 => ((v3 < (v13 + v23)) → w_M_isThere_j38 e0 post M1) ∧ (¬ (v3 < (v13 + v23)) → post 1 M1)))))))) M h0 x1 x2
set_option maxHeartbeats 4000000 in
set_option maxRecDepth 100000 in
theorem k_M_isThere {l : Launch} {D : va_G} {tc : Nat → ClassId} {A : Nat → Prop} {post : Int32 → zM → Prop} {M : zM} {h0 : Nat} {x1 : Int32} {x2 : Int32} (hw : w_M_isThere (tc 9) post M h0 x1 x2) : Met l yM_isThere (.code yM_isThere cM_isThere 3 (some .boolean) :: zTB) r_M_isThere (va_Pc [.ref h0, .int x1, .int x2] (zI D tc A M)) (va_Qi post (zB D tc A) A) 0 0 A := by
  refine Met.ofW (cc := cM_isThere) (maxL := 3) (ret := (some .boolean)) (by decide +kernel) rfl ?_
  intro p e s m args below meth c s₁ B hml hv
  obtain ⟨rfl, hA, hM, hG⟩ := hv
  have C0 := zC_of (D := D) (tc := tc) (A := A) B hml (zC_ex B) hA hG
  obtain ⟨hx, hb, hml, hr, hown, htb, hlk, hA, hG, hin, hex⟩ := id C0
  have hK := hG.1
  have hS : va_S A s.heap s.heap [] := va_S.rf
  have hl := lv_entry ([.ref h0, .int x1, .int x2]) (n := 3) (Nat.le_of_ble_eq_true rfl)
  rw [lg_entry_eq]
  generalize (lg_sl ([.ref h0, .int x1, .int x2]) ++ List.replicate (3 - (lg_sl ([.ref h0, .int x1, .int x2])).length) Slot.unset).toArray = ls at hl ⊢
  have hl : lv_has ls 3 [(0, .ref h0), (1, .int x1), (2, .int x2)] := hl
  refine lv_aload_n hx hb dM_isThere_0 rfl (lv_at hl 0 rfl) ?_
  refine lv_iload_n hx hb dM_isThere_1 rfl (lv_at hl 1 rfl) ?_
  refine lv_iload_n hx hb dM_isThere_2 rfl (lv_at hl 2 rfl) ?_
  obtain ⟨⟨fs27, h28⟩, hw⟩ := hw
  refine va_calli (va_runV (As := [.int x1, .int x2]) (rest := []) ⟨hx, hb, hml, hown, htb⟩ (k_M_isReached (l := l) (D := D) (tc := tc) (A := A) hw) (cw_M_105 htb ⟨Nat.le_of_ble_eq_true rfl, Nat.le_of_ble_eq_true rfl⟩) (z_preV hG hA hS hM h28 rfl) rfl rfl hl.1 rfl (lv_room (Nat.le_of_ble_eq_true rfl)) dM_isThere_3 ⟨Nat.le_refl _, Nat.le_refl _⟩) hS (fun _ _ h => h) (fun _ h => h) (fun r2 M1 t H locs ht hvm hw hB _ _ hS => ?_)
  have hM : zP D vwCl tc A M1 H := by rw [← ht]; exact hB
  refine lv_if_eq (tgt := 38) hx hb dM_isThere_6 (by decide) (fun hq => ?_) (fun hq => ?_)
  · have hw := hw.1 hq
    exact k_M_isThere_j38 C0  _  _ _ _ hM hS (lv_sub hl [] rfl) hw
  · have hw := hw.2 hq
    refine lv_aload_n hx hb dM_isThere_9 rfl (lv_at hl 0 rfl) ?_
    obtain ⟨fs4, v3, h5, ev6, hw⟩ := hw
    refine z_get hx hb htb inw_M hown hK hM h5 rfl 1 (by decide) (htb _ t_652) (fun _ h9 => h9) ev6 dM_isThere_10 ?_
    refine lv_aload_n hx hb dM_isThere_13 rfl (lv_at hl 0 rfl) ?_
    obtain ⟨fs8, v7, h9, ev10, hw⟩ := hw
    refine z_get hx hb htb inw_M hown hK hM h9 rfl 15 (by decide) (htb _ t_666) (fun _ h9 => h9) ev10 dM_isThere_14 ?_
    refine lv_iload_n hx hb dM_isThere_17 rfl (lv_at hl 1 rfl) ?_
    obtain ⟨n11, f12, v13, h14, hi15, ev16, hw⟩ := hw
    refine z_iald hx hb hK hM 0 0 h14 rfl hi15 ev16 dM_isThere_18 ?_
    refine lv_aload_n hx hb dM_isThere_19 rfl (lv_at hl 0 rfl) ?_
    obtain ⟨fs18, v17, h19, ev20, hw⟩ := hw
    refine z_get hx hb htb inw_M hown hK hM h19 rfl 20 (by decide) (htb _ t_671) (fun _ h9 => h9) ev20 dM_isThere_20 ?_
    refine lv_iload_n hx hb dM_isThere_23 rfl (lv_at hl 1 rfl) ?_
    refine lv_bipush (v := 60) hx hb dM_isThere_24 (by decide +kernel) ?_
    refine lv_imul hx hb dM_isThere_26 ?_
    refine lv_iload_n hx hb dM_isThere_27 rfl (lv_at hl 2 rfl) ?_
    refine lv_iadd hx hb dM_isThere_28 ?_
    obtain ⟨n21, f22, v23, h24, hi25, ev26, hw⟩ := hw
    refine z_iald hx hb hK hM 0 0 h24 rfl hi25 ev26 dM_isThere_29 ?_
    refine lv_iadd hx hb dM_isThere_30 ?_
    refine lv_icmp_lt (tgt := 38) hx hb dM_isThere_31 (by decide) (fun hq => ?_) (fun hq => ?_)
    · have hw := hw.1 hq
      exact k_M_isThere_j38 C0  _  _ _ _ hM hS (lv_sub hl [] rfl) hw
    · have hw := hw.2 hq
      refine lv_iconst (v := 1) hx hb dM_isThere_34 (by decide +kernel) ?_
      refine lv_goto (tgt := 39) hx hb dM_isThere_35 (by decide) ?_
      exact W.zret hx hb hr rfl (fun t ht hW => ⟨⟨_, _, rfl, hw, zB_of ht hM⟩, hS.F ht⟩) hS.2.2 dM_isThere_39
abbrev r_M_answer : Room := { frames := 2, cells := 0, slots := 0, locals := 44 }
abbrev J_M_answer_158 (p : Program) (l : Launch) (e : Env) (s : State) (m : MethodId) (args : Array Value) (below : List Frame) (meth : Method) (c : Code) (D : va_G) (tc : Nat → ClassId) (A : Nat → Prop) (Q : State → Prop) (K : zM → Nat → Int32 → Int32 → Int32 → Int32 → Prop) : Prop := ∀ (M : zM) (l0 : Nat) (l2 : Int32) (l3 : Int32) (l5 : Int32) (l6 : Int32) (H : Heap) (locs : List Loc) (ls : Array Slot), zP D vwCl tc A M H → va_S A s.heap H locs → lv_has ls 7 [(0, .ref l0), (2, .int l2), (3, .int l3), (5, .int l5), (6, .int l6)] → K M l0 l2 l3 l5 l6 → W p l e (r_M_answer) s m args below meth c H locs 0 0 Q (F0 m 158 ls [])
abbrev J_M_answer_120 (p : Program) (l : Launch) (e : Env) (s : State) (m : MethodId) (args : Array Value) (below : List Frame) (meth : Method) (c : Code) (D : va_G) (tc : Nat → ClassId) (A : Nat → Prop) (Q : State → Prop) (K : zM → Nat → Int32 → Int32 → Int32 → Int32 → Prop) : Prop := ∀ (M : zM) (l0 : Nat) (l2 : Int32) (l3 : Int32) (l5 : Int32) (l6 : Int32) (H : Heap) (locs : List Loc) (ls : Array Slot), zP D vwCl tc A M H → va_S A s.heap H locs → lv_has ls 7 [(0, .ref l0), (2, .int l2), (3, .int l3), (5, .int l5), (6, .int l6)] → K M l0 l2 l3 l5 l6 → W p l e (r_M_answer) s m args below meth c H locs 0 0 Q (F0 m 120 ls [])
abbrev J_M_answer_52 (p : Program) (l : Launch) (e : Env) (s : State) (m : MethodId) (args : Array Value) (below : List Frame) (meth : Method) (c : Code) (D : va_G) (tc : Nat → ClassId) (A : Nat → Prop) (Q : State → Prop) (K : zM → Nat → Int32 → Int32 → Int32 → Int32 → Int32 → Int32 → Nat → Prop) : Prop := ∀ (M : zM) (l0 : Nat) (l1 : Int32) (l2 : Int32) (l3 : Int32) (s0 : Int32) (s1 : Int32) (s2 : Int32) (s3 : Nat) (H : Heap) (locs : List Loc) (ls : Array Slot), zP D vwCl tc A M H → va_S A s.heap H locs → lv_has ls 7 [(0, .ref l0), (1, .int l1), (2, .int l2), (3, .int l3)] → K M l0 l1 l2 l3 s0 s1 s2 s3 → W p l e (r_M_answer) s m args below meth c H locs 0 0 Q (F0 m 52 ls [.int s0, .int s1, .int s2, .ref s3])
abbrev J_M_answer_51 (p : Program) (l : Launch) (e : Env) (s : State) (m : MethodId) (args : Array Value) (below : List Frame) (meth : Method) (c : Code) (D : va_G) (tc : Nat → ClassId) (A : Nat → Prop) (Q : State → Prop) (K : zM → Nat → Int32 → Int32 → Int32 → Int32 → Int32 → Nat → Prop) : Prop := ∀ (M : zM) (l0 : Nat) (l1 : Int32) (l2 : Int32) (l3 : Int32) (s0 : Int32) (s1 : Int32) (s2 : Nat) (H : Heap) (locs : List Loc) (ls : Array Slot), zP D vwCl tc A M H → va_S A s.heap H locs → lv_has ls 7 [(0, .ref l0), (1, .int l1), (2, .int l2), (3, .int l3)] → K M l0 l1 l2 l3 s0 s1 s2 → W p l e (r_M_answer) s m args below meth c H locs 0 0 Q (F0 m 51 ls [.int s0, .int s1, .ref s2])
abbrev J_M_answer_21 (p : Program) (l : Launch) (e : Env) (s : State) (m : MethodId) (args : Array Value) (below : List Frame) (meth : Method) (c : Code) (D : va_G) (tc : Nat → ClassId) (A : Nat → Prop) (Q : State → Prop) (K : zM → Nat → Int32 → Int32 → Int32 → Int32 → Prop) : Prop := ∀ (M : zM) (l0 : Nat) (l1 : Int32) (l2 : Int32) (l3 : Int32) (s0 : Int32) (H : Heap) (locs : List Loc) (ls : Array Slot), zP D vwCl tc A M H → va_S A s.heap H locs → lv_has ls 7 [(0, .ref l0), (1, .int l1), (2, .int l2), (3, .int l3)] → K M l0 l1 l2 l3 s0 → W p l e (r_M_answer) s m args below meth c H locs 0 0 Q (F0 m 21 ls [.int s0])
abbrev J_M_answer_20 (p : Program) (l : Launch) (e : Env) (s : State) (m : MethodId) (args : Array Value) (below : List Frame) (meth : Method) (c : Code) (D : va_G) (tc : Nat → ClassId) (A : Nat → Prop) (Q : State → Prop) (K : zM → Nat → Int32 → Int32 → Int32 → Prop) : Prop := ∀ (M : zM) (l0 : Nat) (l1 : Int32) (l2 : Int32) (l3 : Int32) (H : Heap) (locs : List Loc) (ls : Array Slot), zP D vwCl tc A M H → va_S A s.heap H locs → lv_has ls 7 [(0, .ref l0), (1, .int l1), (2, .int l2), (3, .int l3)] → K M l0 l1 l2 l3 → W p l e (r_M_answer) s m args below meth c H locs 0 0 Q (F0 m 20 ls [])
def w_M_answer_j158 (e0 : Nat) (post : Int32 → zM → Prop) (K120 : zM → Nat → Int32 → Int32 → Int32 → Int32 → Prop) (M : zM) (l0 : Nat) (l2 : Int32) (l3 : Int32) (l5 : Int32) (l6 : Int32) : Prop := K120 M l0 l2 l3 l5 (l6 + 1)
set_option maxHeartbeats 4000000 in
set_option maxRecDepth 100000 in
theorem k_M_answer_j158 {p : Program} {l : Launch} {e : Env} {s : State} {m : MethodId} {args : Array Value} {below : List Frame} {meth : Method} {c : Code} {D : va_G} {tc : Nat → ClassId} {A : Nat → Prop} {post : Int32 → zM → Prop} (C0 : zC R_M cM_answer 7 (some .int) "answer" D tc A p l s m args meth c) {K120 : zM → Nat → Int32 → Int32 → Int32 → Int32 → Prop} (hK120 : J_M_answer_120 p l e s m args below meth c D tc A (MQ below (va_Qi post (zB D tc A) A) args s 0 0 A) K120) : J_M_answer_158 p l e s m args below meth c D tc A (MQ below (va_Qi post (zB D tc A) A) args s 0 0 A) (w_M_answer_j158 (tc 9) post K120) := by
  obtain ⟨hx, hb, hml, hr, hown, htb, hlk, hA, hG, hin, hex⟩ := id C0
  have hK := hG.1
  intro M l0 l2 l3 l5 l6 H locs ls hM hS hl hw
  refine lv_iinc (v := (l6 + 1)) (lv' := [(6, .int (l6 + 1)), (0, .ref l0), (2, .int l2), (3, .int l3), (5, .int l5)]) hx hb dM_answer_158 hl (k := 4) rfl rfl (by decide) rfl (fun ls hl => ?_)
  refine lv_goto (tgt := 120) hx hb dM_answer_161 (by decide) ?_
  exact hK120 _ _ _ _ _ _ _ _ _ hM hS (lv_sub hl [1, 2, 3, 4, 0] rfl) hw
def w_M_answer_j120 (e0 : Nat) (post : Int32 → zM → Prop) : Nat → zM → Nat → Int32 → Int32 → Int32 → Int32 → Prop
  | 0 => fun _ _ _ _ _ _ => False
  | n + 1 => fun M l0 l2 l3 l5 l6 => wGI M l0 4 12 (fun v1 => ((v1 ≤ l6) → ((l5 < 0) → post 3 M) ∧ (¬ (l5 < 0) → wIs M l0 4 ∧ w_M_isThere e0 (fun r6 M5 => ((r6 = 0) → post 3 M5) ∧ (¬ (r6 = 0) → wGR M5 l0 4 21 (fun v7 => wSI M5 v7 0 ((l5 * 60) + l2) l3 (fun M15 => post 2 M15)))) M l0 l5 l2)) ∧ (¬ (v1 ≤ l6) → wGR M l0 4 17 (fun v18 => wLI M v18 0 l6 (fun v24 => ((v24 = 0) → wGR M l0 4 18 (fun v28 => wLI M v28 1 ((l6 * 60) + l2) (fun v34 => ((v34 = 0) → w_M_answer_j158 e0 post (w_M_answer_j120 e0 post n) M l0 l2 l3 l5 l6) ∧ (¬ (v34 = 0) → w_M_answer_j158 e0 post (w_M_answer_j120 e0 post n) M l0 l2 l3 l6 l6)))) ∧ (¬ (v24 = 0) → w_M_answer_j158 e0 post (w_M_answer_j120 e0 post n) M l0 l2 l3 l5 l6)))))
set_option maxHeartbeats 4000000 in
set_option maxRecDepth 100000 in
theorem k_M_answer_j120 {p : Program} {l : Launch} {e : Env} {s : State} {m : MethodId} {args : Array Value} {below : List Frame} {meth : Method} {c : Code} {D : va_G} {tc : Nat → ClassId} {A : Nat → Prop} {post : Int32 → zM → Prop} (C0 : zC R_M cM_answer 7 (some .int) "answer" D tc A p l s m args meth c) : ∀ n : Nat, J_M_answer_120 p l e s m args below meth c D tc A (MQ below (va_Qi post (zB D tc A) A) args s 0 0 A) (w_M_answer_j120 (tc 9) post n) := by
  obtain ⟨hx, hb, hml, hr, hown, htb, hlk, hA, hG, hin, hex⟩ := id C0
  have hK := hG.1
  intro n
  induction n with
  | zero => intro M l0 l2 l3 l5 l6 H locs ls hM hS hl hw; exact hw.elim
  | succ n ih =>
    intro M l0 l2 l3 l5 l6 H locs ls hM hS hl hw
    refine lv_iload hx hb dM_answer_120 (lv_at hl 4 rfl) ?_
    refine lv_aload_n hx hb dM_answer_122 rfl (lv_at hl 0 rfl) ?_
    obtain ⟨fs2, v1, h3, ev4, hw⟩ := hw
    refine z_get hx hb htb inw_M hown hK hM h3 rfl 12 (by decide) (htb _ t_663) (fun _ h9 => h9) ev4 dM_answer_123 ?_
    refine lv_icmp_ge (tgt := 164) hx hb dM_answer_126 (by decide) (fun hq => ?_) (fun hq => ?_)
    · have hw := hw.1 hq
      refine lv_iload hx hb dM_answer_164 (lv_at hl 3 rfl) ?_
      refine lv_if_lt (tgt := 179) hx hb dM_answer_166 (by decide) (fun hq => ?_) (fun hq => ?_)
      · have hw := hw.1 hq
        refine lv_iconst (v := 3) hx hb dM_answer_179 (by decide +kernel) ?_
        exact W.iret hx hb hr (fun t ht hW => ⟨⟨_, _, rfl, hw, zB_of ht hM⟩, hS.F ht⟩) hS.2.2 dM_answer_180
      · have hw := hw.2 hq
        refine lv_aload_n hx hb dM_answer_169 rfl (lv_at hl 0 rfl) ?_
        refine lv_iload hx hb dM_answer_170 (lv_at hl 3 rfl) ?_
        refine lv_iload_n hx hb dM_answer_172 rfl (lv_at hl 1 rfl) ?_
        obtain ⟨⟨fs16, h17⟩, hw⟩ := hw
        refine va_calli (va_runV (As := [.int l5, .int l2]) (rest := []) ⟨hx, hb, hml, hown, htb⟩ (k_M_isThere (l := l) (D := D) (tc := tc) (A := A) hw) (cw_M_112 htb ⟨Nat.le_of_ble_eq_true rfl, Nat.le_of_ble_eq_true rfl⟩) (z_preV hG hA hS hM h17 rfl) rfl rfl hl.1 rfl (lv_room (Nat.le_of_ble_eq_true rfl)) dM_answer_173 ⟨Nat.le_refl _, Nat.le_refl _⟩) hS (fun _ _ h => h) (fun _ h => h) (fun r6 M5 t H locs ht hvm hw hB _ _ hS => ?_)
        have hM : zP D vwCl tc A M5 H := by rw [← ht]; exact hB
        refine lv_if_ne (tgt := 181) hx hb dM_answer_176 (by decide) (fun hq => ?_) (fun hq => ?_)
        · have hw := hw.2 hq
          refine lv_aload_n hx hb dM_answer_181 rfl (lv_at hl 0 rfl) ?_
          obtain ⟨fs8, v7, h9, ev10, hw⟩ := hw
          refine z_get hx hb htb inw_M hown hK hM h9 rfl 21 (by decide) (htb _ t_672) (fun _ h9 => h9) ev10 dM_answer_182 ?_
          refine lv_iload hx hb dM_answer_185 (lv_at hl 3 rfl) ?_
          refine lv_bipush (v := 60) hx hb dM_answer_187 (by decide +kernel) ?_
          refine lv_imul hx hb dM_answer_189 ?_
          refine lv_iload_n hx hb dM_answer_190 rfl (lv_at hl 1 rfl) ?_
          refine lv_iadd hx hb dM_answer_191 ?_
          refine lv_iload_n hx hb dM_answer_192 rfl (lv_at hl 2 rfl) ?_
          obtain ⟨n11, f12, h13, hi14, hw⟩ := hw
          refine z_iast hx hb hK hM hS 0 0 h13 rfl hi14 dM_answer_193 (fun H locs hM hS => ?_)
          refine lv_iconst (v := 2) hx hb dM_answer_194 (by decide +kernel) ?_
          exact W.iret hx hb hr (fun t ht hW => ⟨⟨_, _, rfl, hw, zB_of ht hM⟩, hS.F ht⟩) hS.2.2 dM_answer_195
        · have hw := hw.1 hq
          refine lv_iconst (v := 3) hx hb dM_answer_179 (by decide +kernel) ?_
          exact W.iret hx hb hr (fun t ht hW => ⟨⟨_, _, rfl, hw, zB_of ht hM⟩, hS.F ht⟩) hS.2.2 dM_answer_180
    · have hw := hw.2 hq
      refine lv_aload_n hx hb dM_answer_129 rfl (lv_at hl 0 rfl) ?_
      obtain ⟨fs19, v18, h20, ev21, hw⟩ := hw
      refine z_get hx hb htb inw_M hown hK hM h20 rfl 17 (by decide) (htb _ t_668) (fun _ h9 => h9) ev21 dM_answer_130 ?_
      refine lv_iload hx hb dM_answer_133 (lv_at hl 4 rfl) ?_
      obtain ⟨n22, f23, v24, h25, hi26, ev27, hw⟩ := hw
      refine z_iald hx hb hK hM 0 0 h25 rfl hi26 ev27 dM_answer_135 ?_
      refine lv_if_ne (tgt := 158) hx hb dM_answer_136 (by decide) (fun hq => ?_) (fun hq => ?_)
      · have hw := hw.2 hq
        exact k_M_answer_j158 C0 ih _ _ _ _ _ _ _ _ _ hM hS (lv_sub hl [0, 1, 2, 3, 4] rfl) hw
      · have hw := hw.1 hq
        refine lv_aload_n hx hb dM_answer_139 rfl (lv_at hl 0 rfl) ?_
        obtain ⟨fs29, v28, h30, ev31, hw⟩ := hw
        refine z_get hx hb htb inw_M hown hK hM h30 rfl 18 (by decide) (htb _ t_669) (fun _ h9 => h9) ev31 dM_answer_140 ?_
        refine lv_iload hx hb dM_answer_143 (lv_at hl 4 rfl) ?_
        refine lv_bipush (v := 60) hx hb dM_answer_145 (by decide +kernel) ?_
        refine lv_imul hx hb dM_answer_147 ?_
        refine lv_iload_n hx hb dM_answer_148 rfl (lv_at hl 1 rfl) ?_
        refine lv_iadd hx hb dM_answer_149 ?_
        obtain ⟨n32, f33, v34, h35, hi36, ev37, hw⟩ := hw
        refine z_zald hx hb hK hM 1 1 h35 rfl hi36 ev37 dM_answer_150 ?_
        refine lv_if_eq (tgt := 158) hx hb dM_answer_151 (by decide) (fun hq => ?_) (fun hq => ?_)
        · have hw := hw.1 hq
          exact k_M_answer_j158 C0 ih _ _ _ _ _ _ _ _ _ hM hS (lv_sub hl [0, 1, 2, 3, 4] rfl) hw
        · have hw := hw.2 hq
          refine lv_iload hx hb dM_answer_154 (lv_at hl 4 rfl) ?_
          refine lv_istore (lv' := [(5, .int l6), (0, .ref l0), (2, .int l2), (3, .int l3), (6, .int l6)]) hx hb dM_answer_156 hl (by decide) rfl (fun ls hl => ?_)
          exact k_M_answer_j158 C0 ih _ _ _ _ _ _ _ _ _ hM hS (lv_sub hl [1, 2, 3, 0, 4] rfl) hw
def w_M_answer_j52 (e0 : Nat) (post : Int32 → zM → Prop) (M : zM) (l0 : Nat) (l1 : Int32) (l2 : Int32) (l3 : Int32) (s0 : Int32) (s1 : Int32) (s2 : Int32) (s3 : Nat) : Prop := wIs M s3 4 ∧ w_M_goes e0 (fun r2 M1 => ((r2 = 0) → post 0 M1) ∧ (¬ (r2 = 0) → wIs M1 l0 4 ∧ w_M_isThere e0 (fun r4 M3 => ((r4 = 0) → wGI M3 l0 4 23 (fun v32 => wPF M3 l0 4 23 (.int (v32 + 1)) (fun M39 => post 4 M39))) ∧ (¬ (r4 = 0) → wGR M3 l0 4 17 (fun v5 => wLI M3 v5 0 l1 (fun v11 => ((v11 = 0) → wGR M3 l0 4 21 (fun v23 => wSI M3 v23 0 ((l1 * 60) + l2) l3 (fun M31 => post 1 M31))) ∧ (¬ (v11 = 0) → wGI M3 l0 4 22 (fun v15 => wPF M3 l0 4 22 (.int (v15 + 1)) (fun M22 => ∃ nn, w_M_answer_j120 e0 post nn M22 l0 l2 l3 (-1) 0))))))) M1 l0 l1 l2)) M s3 s2 s1 s0
set_option maxHeartbeats 4000000 in
set_option maxRecDepth 100000 in
theorem k_M_answer_j52 {p : Program} {l : Launch} {e : Env} {s : State} {m : MethodId} {args : Array Value} {below : List Frame} {meth : Method} {c : Code} {D : va_G} {tc : Nat → ClassId} {A : Nat → Prop} {post : Int32 → zM → Prop} (C0 : zC R_M cM_answer 7 (some .int) "answer" D tc A p l s m args meth c) : J_M_answer_52 p l e s m args below meth c D tc A (MQ below (va_Qi post (zB D tc A) A) args s 0 0 A) (w_M_answer_j52 (tc 9) post) := by
  obtain ⟨hx, hb, hml, hr, hown, htb, hlk, hA, hG, hin, hex⟩ := id C0
  have hK := hG.1
  intro M l0 l1 l2 l3 s0 s1 s2 s3 H locs ls hM hS hl hw
  obtain ⟨⟨fs42, h43⟩, hw⟩ := hw
  refine va_calli (va_runV (As := [.int s2, .int s1, .int s0]) (rest := []) ⟨hx, hb, hml, hown, htb⟩ (k_M_goes (l := l) (D := D) (tc := tc) (A := A) hw) (cw_M_79 htb ⟨Nat.le_of_ble_eq_true rfl, Nat.le_of_ble_eq_true rfl⟩) (z_preV hG hA hS hM h43 rfl) rfl rfl hl.1 rfl (lv_room (Nat.le_of_ble_eq_true rfl)) dM_answer_52 ⟨Nat.le_refl _, Nat.le_refl _⟩) hS (fun _ _ h => h) (fun _ h => h) (fun r2 M1 t H locs ht hvm hw hB _ _ hS => ?_)
  have hM : zP D vwCl tc A M1 H := by rw [← ht]; exact hB
  refine lv_if_ne (tgt := 60) hx hb dM_answer_55 (by decide) (fun hq => ?_) (fun hq => ?_)
  · have hw := hw.2 hq
    refine lv_aload_n hx hb dM_answer_60 rfl (lv_at hl 0 rfl) ?_
    refine lv_iload_n hx hb dM_answer_61 rfl (lv_at hl 1 rfl) ?_
    refine lv_iload_n hx hb dM_answer_62 rfl (lv_at hl 2 rfl) ?_
    obtain ⟨⟨fs40, h41⟩, hw⟩ := hw
    refine va_calli (va_runV (As := [.int l1, .int l2]) (rest := []) ⟨hx, hb, hml, hown, htb⟩ (k_M_isThere (l := l) (D := D) (tc := tc) (A := A) hw) (cw_M_112 htb ⟨Nat.le_of_ble_eq_true rfl, Nat.le_of_ble_eq_true rfl⟩) (z_preV hG hA hS hM h41 rfl) rfl rfl hl.1 rfl (lv_room (Nat.le_of_ble_eq_true rfl)) dM_answer_63 ⟨Nat.le_refl _, Nat.le_refl _⟩) hS (fun _ _ h => h) (fun _ h => h) (fun r4 M3 t H locs ht hvm hw hB _ _ hS => ?_)
    have hM : zP D vwCl tc A M3 H := by rw [← ht]; exact hB
    refine lv_if_ne (tgt := 81) hx hb dM_answer_66 (by decide) (fun hq => ?_) (fun hq => ?_)
    · have hw := hw.2 hq
      refine lv_aload_n hx hb dM_answer_81 rfl (lv_at hl 0 rfl) ?_
      obtain ⟨fs6, v5, h7, ev8, hw⟩ := hw
      refine z_get hx hb htb inw_M hown hK hM h7 rfl 17 (by decide) (htb _ t_668) (fun _ h9 => h9) ev8 dM_answer_82 ?_
      refine lv_iload_n hx hb dM_answer_85 rfl (lv_at hl 1 rfl) ?_
      obtain ⟨n9, f10, v11, h12, hi13, ev14, hw⟩ := hw
      refine z_iald hx hb hK hM 0 0 h12 rfl hi13 ev14 dM_answer_86 ?_
      refine lv_if_ne (tgt := 104) hx hb dM_answer_87 (by decide) (fun hq => ?_) (fun hq => ?_)
      · have hw := hw.2 hq
        refine lv_aload_n hx hb dM_answer_104 rfl (lv_at hl 0 rfl) ?_
        refine lv_dup hx hb dM_answer_105 rfl ?_
        obtain ⟨fs16, v15, h17, ev18, hw⟩ := hw
        refine z_get hx hb htb inw_M hown hK hM h17 rfl 22 (by decide) (htb _ t_673) (fun _ h9 => h9) ev18 dM_answer_106 ?_
        refine lv_iconst (v := 1) hx hb dM_answer_109 (by decide +kernel) ?_
        refine lv_iadd hx hb dM_answer_110 ?_
        obtain ⟨fs19, h20, hl21, hw⟩ := hw
        refine z_put (ty := .int) hx hb htb inw_M ty_M tyok_M nmok_M hown hK hM hS h20 rfl 22 (by decide) (htb _ t_673) (fun _ h9 => h9) rfl (by decide +kernel) rfl rfl hl21 dM_answer_111 (fun H locs hM hS => ?_)
        refine lv_iconst (v := (-1)) hx hb dM_answer_114 (by decide +kernel) ?_
        refine lv_istore (lv' := [(5, .int (-1)), (0, .ref l0), (1, .int l1), (2, .int l2), (3, .int l3)]) hx hb dM_answer_115 hl (by decide) rfl (fun ls hl => ?_)
        refine lv_iconst (v := 0) hx hb dM_answer_117 (by decide +kernel) ?_
        refine lv_istore (lv' := [(6, .int 0), (5, .int (-1)), (0, .ref l0), (1, .int l1), (2, .int l2), (3, .int l3)]) hx hb dM_answer_118 hl (by decide) rfl (fun ls hl => ?_)
        obtain ⟨nfu, hw⟩ := hw
        exact k_M_answer_j120 C0  nfu _ _ _ _ _ _ _ _ _ hM hS (lv_sub hl [2, 4, 5, 1, 0] rfl) hw
      · have hw := hw.1 hq
        refine lv_aload_n hx hb dM_answer_90 rfl (lv_at hl 0 rfl) ?_
        obtain ⟨fs24, v23, h25, ev26, hw⟩ := hw
        refine z_get hx hb htb inw_M hown hK hM h25 rfl 21 (by decide) (htb _ t_672) (fun _ h9 => h9) ev26 dM_answer_91 ?_
        refine lv_iload_n hx hb dM_answer_94 rfl (lv_at hl 1 rfl) ?_
        refine lv_bipush (v := 60) hx hb dM_answer_95 (by decide +kernel) ?_
        refine lv_imul hx hb dM_answer_97 ?_
        refine lv_iload_n hx hb dM_answer_98 rfl (lv_at hl 2 rfl) ?_
        refine lv_iadd hx hb dM_answer_99 ?_
        refine lv_iload_n hx hb dM_answer_100 rfl (lv_at hl 3 rfl) ?_
        obtain ⟨n27, f28, h29, hi30, hw⟩ := hw
        refine z_iast hx hb hK hM hS 0 0 h29 rfl hi30 dM_answer_101 (fun H locs hM hS => ?_)
        refine lv_iconst (v := 1) hx hb dM_answer_102 (by decide +kernel) ?_
        exact W.iret hx hb hr (fun t ht hW => ⟨⟨_, _, rfl, hw, zB_of ht hM⟩, hS.F ht⟩) hS.2.2 dM_answer_103
    · have hw := hw.1 hq
      refine lv_aload_n hx hb dM_answer_69 rfl (lv_at hl 0 rfl) ?_
      refine lv_dup hx hb dM_answer_70 rfl ?_
      obtain ⟨fs33, v32, h34, ev35, hw⟩ := hw
      refine z_get hx hb htb inw_M hown hK hM h34 rfl 23 (by decide) (htb _ t_674) (fun _ h9 => h9) ev35 dM_answer_71 ?_
      refine lv_iconst (v := 1) hx hb dM_answer_74 (by decide +kernel) ?_
      refine lv_iadd hx hb dM_answer_75 ?_
      obtain ⟨fs36, h37, hl38, hw⟩ := hw
      refine z_put (ty := .int) hx hb htb inw_M ty_M tyok_M nmok_M hown hK hM hS h37 rfl 23 (by decide) (htb _ t_674) (fun _ h9 => h9) rfl (by decide +kernel) rfl rfl hl38 dM_answer_76 (fun H locs hM hS => ?_)
      refine lv_iconst (v := 4) hx hb dM_answer_79 (by decide +kernel) ?_
      exact W.iret hx hb hr (fun t ht hW => ⟨⟨_, _, rfl, hw, zB_of ht hM⟩, hS.F ht⟩) hS.2.2 dM_answer_80
  · have hw := hw.1 hq
    refine lv_iconst (v := 0) hx hb dM_answer_58 (by decide +kernel) ?_
    exact W.iret hx hb hr (fun t ht hW => ⟨⟨_, _, rfl, hw, zB_of ht hM⟩, hS.F ht⟩) hS.2.2 dM_answer_59
def w_M_answer_j51 (e0 : Nat) (post : Int32 → zM → Prop) (M : zM) (l0 : Nat) (l1 : Int32) (l2 : Int32) (l3 : Int32) (s0 : Int32) (s1 : Int32) (s2 : Nat) : Prop := w_M_answer_j52 e0 post M l0 l1 l2 l3 0 s0 s1 s2
set_option maxHeartbeats 4000000 in
set_option maxRecDepth 100000 in
theorem k_M_answer_j51 {p : Program} {l : Launch} {e : Env} {s : State} {m : MethodId} {args : Array Value} {below : List Frame} {meth : Method} {c : Code} {D : va_G} {tc : Nat → ClassId} {A : Nat → Prop} {post : Int32 → zM → Prop} (C0 : zC R_M cM_answer 7 (some .int) "answer" D tc A p l s m args meth c) : J_M_answer_51 p l e s m args below meth c D tc A (MQ below (va_Qi post (zB D tc A) A) args s 0 0 A) (w_M_answer_j51 (tc 9) post) := by
  obtain ⟨hx, hb, hml, hr, hown, htb, hlk, hA, hG, hin, hex⟩ := id C0
  have hK := hG.1
  intro M l0 l1 l2 l3 s0 s1 s2 H locs ls hM hS hl hw
  refine lv_iconst (v := 0) hx hb dM_answer_51 (by decide +kernel) ?_
  exact k_M_answer_j52 C0  _ _ _ _ _ _ _ _ _ _ _ _ hM hS (lv_sub hl [0, 1, 2, 3] rfl) hw
def w_M_answer_j21 (e0 : Nat) (post : Int32 → zM → Prop) (M : zM) (l0 : Nat) (l1 : Int32) (l2 : Int32) (l3 : Int32) (s0 : Int32) : Prop := w_M_in e0 (fun r2 M1 => ((s0 = 0) → w_M_answer_j51 e0 post M1 l0 l1 l2 l3 r2 s0 l0) ∧ (¬ (s0 = 0) → wIs M1 l0 4 ∧ w_M_isReached e0 (fun r4 M3 => ((r4 = 0) → w_M_answer_j51 e0 post M3 l0 l1 l2 l3 r2 s0 l0) ∧ (¬ (r4 = 0) → w_M_answer_j52 e0 post M3 l0 l1 l2 l3 1 r2 s0 l0)) M1 l0 l1 l2)) M l3 (-1) 120
set_option maxHeartbeats 4000000 in
set_option maxRecDepth 100000 in
theorem k_M_answer_j21 {p : Program} {l : Launch} {e : Env} {s : State} {m : MethodId} {args : Array Value} {below : List Frame} {meth : Method} {c : Code} {D : va_G} {tc : Nat → ClassId} {A : Nat → Prop} {post : Int32 → zM → Prop} (C0 : zC R_M cM_answer 7 (some .int) "answer" D tc A p l s m args meth c) : J_M_answer_21 p l e s m args below meth c D tc A (MQ below (va_Qi post (zB D tc A) A) args s 0 0 A) (w_M_answer_j21 (tc 9) post) := by
  obtain ⟨hx, hb, hml, hr, hown, htb, hlk, hA, hG, hin, hex⟩ := id C0
  have hK := hG.1
  intro M l0 l1 l2 l3 s0 H locs ls hM hS hl hw
  refine lv_istore (lv' := [(4, .int s0), (0, .ref l0), (1, .int l1), (2, .int l2), (3, .int l3)]) hx hb dM_answer_21 hl (by decide) rfl (fun ls hl => ?_)
  refine lv_aload_n hx hb dM_answer_23 rfl (lv_at hl 1 rfl) ?_
  refine lv_iload hx hb dM_answer_24 (lv_at hl 0 rfl) ?_
  refine lv_iload_n hx hb dM_answer_26 rfl (lv_at hl 4 rfl) ?_
  refine lv_iconst (v := (-1)) hx hb dM_answer_27 (by decide +kernel) ?_
  refine lv_bipush (v := 120) hx hb dM_answer_28 (by decide +kernel) ?_
  refine va_calli (va_runS (As := [.int l3, .int (-1), .int 120]) (rest := [.int s0, .ref l0]) ⟨hx, hb, hml, hown, htb⟩ (k_M_in (l := l) (D := D) (tc := tc) (A := A) hw) (cw_M_69 htb ⟨Nat.le_of_ble_eq_true rfl, Nat.le_of_ble_eq_true rfl⟩) (z_preS hG hA hS hM) rfl rfl hl.1 rfl (lv_room (Nat.le_of_ble_eq_true rfl)) dM_answer_30 ⟨Nat.le_refl _, Nat.le_refl _⟩) hS (fun _ _ h => h) (fun _ h => h) (fun r2 M1 t H locs ht hvm hw hB _ _ hS => ?_)
  have hM : zP D vwCl tc A M1 H := by rw [← ht]; exact hB
  refine lv_iload hx hb dM_answer_33 (lv_at hl 0 rfl) ?_
  refine lv_if_eq (tgt := 51) hx hb dM_answer_35 (by decide) (fun hq => ?_) (fun hq => ?_)
  · have hw := hw.1 hq
    exact k_M_answer_j51 C0  _ _ _ _ _ _ _ _ _ _ _ hM hS (lv_sub hl [1, 2, 3, 4] rfl) hw
  · have hw := hw.2 hq
    refine lv_aload_n hx hb dM_answer_38 rfl (lv_at hl 1 rfl) ?_
    refine lv_iload_n hx hb dM_answer_39 rfl (lv_at hl 2 rfl) ?_
    refine lv_iload_n hx hb dM_answer_40 rfl (lv_at hl 3 rfl) ?_
    obtain ⟨⟨fs5, h6⟩, hw⟩ := hw
    refine va_calli (va_runV (As := [.int l1, .int l2]) (rest := [.int r2, .int s0, .ref l0]) ⟨hx, hb, hml, hown, htb⟩ (k_M_isReached (l := l) (D := D) (tc := tc) (A := A) hw) (cw_M_105 htb ⟨Nat.le_of_ble_eq_true rfl, Nat.le_of_ble_eq_true rfl⟩) (z_preV hG hA hS hM h6 rfl) rfl rfl hl.1 rfl (lv_room (Nat.le_of_ble_eq_true rfl)) dM_answer_41 ⟨Nat.le_refl _, Nat.le_refl _⟩) hS (fun _ _ h => h) (fun _ h => h) (fun r4 M3 t H locs ht hvm hw hB _ _ hS => ?_)
    have hM : zP D vwCl tc A M3 H := by rw [← ht]; exact hB
    refine lv_if_eq (tgt := 51) hx hb dM_answer_44 (by decide) (fun hq => ?_) (fun hq => ?_)
    · have hw := hw.1 hq
      exact k_M_answer_j51 C0  _ _ _ _ _ _ _ _ _ _ _ hM hS (lv_sub hl [1, 2, 3, 4] rfl) hw
    · have hw := hw.2 hq
      refine lv_iconst (v := 1) hx hb dM_answer_47 (by decide +kernel) ?_
      refine lv_goto (tgt := 52) hx hb dM_answer_48 (by decide) ?_
      exact k_M_answer_j52 C0  _ _ _ _ _ _ _ _ _ _ _ _ hM hS (lv_sub hl [1, 2, 3, 4] rfl) hw
def w_M_answer_j20 (e0 : Nat) (post : Int32 → zM → Prop) (M : zM) (l0 : Nat) (l1 : Int32) (l2 : Int32) (l3 : Int32) : Prop := w_M_answer_j21 e0 post M l0 l1 l2 l3 0
set_option maxHeartbeats 4000000 in
set_option maxRecDepth 100000 in
theorem k_M_answer_j20 {p : Program} {l : Launch} {e : Env} {s : State} {m : MethodId} {args : Array Value} {below : List Frame} {meth : Method} {c : Code} {D : va_G} {tc : Nat → ClassId} {A : Nat → Prop} {post : Int32 → zM → Prop} (C0 : zC R_M cM_answer 7 (some .int) "answer" D tc A p l s m args meth c) : J_M_answer_20 p l e s m args below meth c D tc A (MQ below (va_Qi post (zB D tc A) A) args s 0 0 A) (w_M_answer_j20 (tc 9) post) := by
  obtain ⟨hx, hb, hml, hr, hown, htb, hlk, hA, hG, hin, hex⟩ := id C0
  have hK := hG.1
  intro M l0 l1 l2 l3 H locs ls hM hS hl hw
  refine lv_iconst (v := 0) hx hb dM_answer_20 (by decide +kernel) ?_
  exact k_M_answer_j21 C0  _ _ _ _ _ _ _ _ _ hM hS (lv_sub hl [0, 1, 2, 3] rfl) hw
def w_M_answer (e0 : Nat) (post : Int32 → zM → Prop) (M : zM) (h0 : Nat) (x1 : Int32) (x2 : Int32) (x3 : Int32) : Prop := wIs M h0 4 ∧ w_M_isAlarm e0 (fun r2 M1 => ((r2 = 0) → w_M_answer_j20 e0 post M1 h0 x1 x2 x3) ∧ (¬ (r2 = 0) → wIs M1 h0 4 ∧ w_M_isPerson e0 (fun r4 M3 => ((r4 = 0) → w_M_answer_j20 e0 post M3 h0 x1 x2 x3) ∧ (¬ (r4 = 0) → w_M_answer_j21 e0 post M3 h0 x1 x2 x3 1)) M1 h0 x2)) M h0 x1
set_option maxHeartbeats 4000000 in
set_option maxRecDepth 100000 in
theorem k_M_answer {l : Launch} {D : va_G} {tc : Nat → ClassId} {A : Nat → Prop} {post : Int32 → zM → Prop} {M : zM} {h0 : Nat} {x1 : Int32} {x2 : Int32} {x3 : Int32} (hw : w_M_answer (tc 9) post M h0 x1 x2 x3) : Met l yM_answer (.code yM_answer cM_answer 7 (some .int) :: zTB) r_M_answer (va_Pc [.ref h0, .int x1, .int x2, .int x3] (zI D tc A M)) (va_Qi post (zB D tc A) A) 0 0 A := by
  refine Met.ofW (cc := cM_answer) (maxL := 7) (ret := (some .int)) (by decide +kernel) rfl ?_
  intro p e s m args below meth c s₁ B hml hv
  obtain ⟨rfl, hA, hM, hG⟩ := hv
  have C0 := zC_of (D := D) (tc := tc) (A := A) B hml (zC_ex B) hA hG
  obtain ⟨hx, hb, hml, hr, hown, htb, hlk, hA, hG, hin, hex⟩ := id C0
  have hK := hG.1
  have hS : va_S A s.heap s.heap [] := va_S.rf
  have hl := lv_entry ([.ref h0, .int x1, .int x2, .int x3]) (n := 7) (Nat.le_of_ble_eq_true rfl)
  rw [lg_entry_eq]
  generalize (lg_sl ([.ref h0, .int x1, .int x2, .int x3]) ++ List.replicate (7 - (lg_sl ([.ref h0, .int x1, .int x2, .int x3])).length) Slot.unset).toArray = ls at hl ⊢
  have hl : lv_has ls 7 [(0, .ref h0), (1, .int x1), (2, .int x2), (3, .int x3)] := hl
  refine lv_aload_n hx hb dM_answer_0 rfl (lv_at hl 0 rfl) ?_
  refine lv_iload_n hx hb dM_answer_1 rfl (lv_at hl 1 rfl) ?_
  obtain ⟨⟨fs7, h8⟩, hw⟩ := hw
  refine va_calli (va_runV (As := [.int x1]) (rest := []) ⟨hx, hb, hml, hown, htb⟩ (k_M_isAlarm (l := l) (D := D) (tc := tc) (A := A) hw) (cw_M_109 htb ⟨Nat.le_of_ble_eq_true rfl, Nat.le_of_ble_eq_true rfl⟩) (z_preV hG hA hS hM h8 rfl) rfl rfl hl.1 rfl (lv_room (Nat.le_of_ble_eq_true rfl)) dM_answer_2 ⟨Nat.le_refl _, Nat.le_refl _⟩) hS (fun _ _ h => h) (fun _ h => h) (fun r2 M1 t H locs ht hvm hw hB _ _ hS => ?_)
  have hM : zP D vwCl tc A M1 H := by rw [← ht]; exact hB
  refine lv_if_eq (tgt := 20) hx hb dM_answer_5 (by decide) (fun hq => ?_) (fun hq => ?_)
  · have hw := hw.1 hq
    exact k_M_answer_j20 C0  _ _ _ _ _ _ _ _ hM hS (lv_sub hl [0, 1, 2, 3] rfl) hw
  · have hw := hw.2 hq
    refine lv_aload_n hx hb dM_answer_8 rfl (lv_at hl 0 rfl) ?_
    refine lv_iload_n hx hb dM_answer_9 rfl (lv_at hl 2 rfl) ?_
    obtain ⟨⟨fs5, h6⟩, hw⟩ := hw
    refine va_calli (va_runV (As := [.int x2]) (rest := []) ⟨hx, hb, hml, hown, htb⟩ (k_M_isPerson (l := l) (D := D) (tc := tc) (A := A) hw) (cw_M_87 htb ⟨Nat.le_of_ble_eq_true rfl, Nat.le_of_ble_eq_true rfl⟩) (z_preV hG hA hS hM h6 rfl) rfl rfl hl.1 rfl (lv_room (Nat.le_of_ble_eq_true rfl)) dM_answer_10 ⟨Nat.le_refl _, Nat.le_refl _⟩) hS (fun _ _ h => h) (fun _ h => h) (fun r4 M3 t H locs ht hvm hw hB _ _ hS => ?_)
    have hM : zP D vwCl tc A M3 H := by rw [← ht]; exact hB
    refine lv_if_eq (tgt := 20) hx hb dM_answer_13 (by decide) (fun hq => ?_) (fun hq => ?_)
    · have hw := hw.1 hq
      exact k_M_answer_j20 C0  _ _ _ _ _ _ _ _ hM hS (lv_sub hl [0, 1, 2, 3] rfl) hw
    · have hw := hw.2 hq
      refine lv_iconst (v := 1) hx hb dM_answer_16 (by decide +kernel) ?_
      refine lv_goto (tgt := 21) hx hb dM_answer_17 (by decide) ?_
      exact k_M_answer_j21 C0  _ _ _ _ _ _ _ _ _ hM hS (lv_sub hl [0, 1, 2, 3] rfl) hw
abbrev r_M_many : Room := { frames := 0, cells := 0, slots := 0, locals := 0 }
abbrev J_M_many_89 (p : Program) (l : Launch) (e : Env) (s : State) (m : MethodId) (args : Array Value) (below : List Frame) (meth : Method) (c : Code) (D : va_G) (tc : Nat → ClassId) (A : Nat → Prop) (Q : State → Prop) (K : zM → Nat → Int32 → Int32 → Int32 → Int32 → Prop) : Prop := ∀ (M : zM) (l0 : Nat) (l1 : Int32) (l2 : Int32) (l3 : Int32) (l4 : Int32) (H : Heap) (locs : List Loc) (ls : Array Slot), zP D vwCl tc A M H → va_S A s.heap H locs → lv_has ls 6 [(0, .ref l0), (1, .int l1), (2, .int l2), (3, .int l3), (4, .int l4)] → K M l0 l1 l2 l3 l4 → W p l e (r_M_many) s m args below meth c H locs 0 0 Q (F0 m 89 ls [])
abbrev J_M_many_86 (p : Program) (l : Launch) (e : Env) (s : State) (m : MethodId) (args : Array Value) (below : List Frame) (meth : Method) (c : Code) (D : va_G) (tc : Nat → ClassId) (A : Nat → Prop) (Q : State → Prop) (K : zM → Nat → Int32 → Int32 → Int32 → Int32 → Prop) : Prop := ∀ (M : zM) (l0 : Nat) (l1 : Int32) (l2 : Int32) (l3 : Int32) (l4 : Int32) (H : Heap) (locs : List Loc) (ls : Array Slot), zP D vwCl tc A M H → va_S A s.heap H locs → lv_has ls 6 [(0, .ref l0), (1, .int l1), (2, .int l2), (3, .int l3), (4, .int l4)] → K M l0 l1 l2 l3 l4 → W p l e (r_M_many) s m args below meth c H locs 0 0 Q (F0 m 86 ls [])
abbrev J_M_many_71 (p : Program) (l : Launch) (e : Env) (s : State) (m : MethodId) (args : Array Value) (below : List Frame) (meth : Method) (c : Code) (D : va_G) (tc : Nat → ClassId) (A : Nat → Prop) (Q : State → Prop) (K : zM → Nat → Int32 → Int32 → Int32 → Int32 → Int32 → Prop) : Prop := ∀ (M : zM) (l0 : Nat) (l1 : Int32) (l2 : Int32) (l3 : Int32) (l4 : Int32) (l5 : Int32) (H : Heap) (locs : List Loc) (ls : Array Slot), zP D vwCl tc A M H → va_S A s.heap H locs → lv_has ls 6 [(0, .ref l0), (1, .int l1), (2, .int l2), (3, .int l3), (4, .int l4), (5, .int l5)] → K M l0 l1 l2 l3 l4 l5 → W p l e (r_M_many) s m args below meth c H locs 0 0 Q (F0 m 71 ls [])
abbrev J_M_many_54 (p : Program) (l : Launch) (e : Env) (s : State) (m : MethodId) (args : Array Value) (below : List Frame) (meth : Method) (c : Code) (D : va_G) (tc : Nat → ClassId) (A : Nat → Prop) (Q : State → Prop) (K : zM → Nat → Int32 → Int32 → Int32 → Int32 → Int32 → Prop) : Prop := ∀ (M : zM) (l0 : Nat) (l1 : Int32) (l2 : Int32) (l3 : Int32) (l4 : Int32) (l5 : Int32) (H : Heap) (locs : List Loc) (ls : Array Slot), zP D vwCl tc A M H → va_S A s.heap H locs → lv_has ls 6 [(0, .ref l0), (1, .int l1), (2, .int l2), (3, .int l3), (4, .int l4), (5, .int l5)] → K M l0 l1 l2 l3 l4 l5 → W p l e (r_M_many) s m args below meth c H locs 0 0 Q (F0 m 54 ls [])
abbrev J_M_many_5 (p : Program) (l : Launch) (e : Env) (s : State) (m : MethodId) (args : Array Value) (below : List Frame) (meth : Method) (c : Code) (D : va_G) (tc : Nat → ClassId) (A : Nat → Prop) (Q : State → Prop) (K : zM → Nat → Int32 → Int32 → Int32 → Int32 → Prop) : Prop := ∀ (M : zM) (l0 : Nat) (l1 : Int32) (l2 : Int32) (l3 : Int32) (l4 : Int32) (H : Heap) (locs : List Loc) (ls : Array Slot), zP D vwCl tc A M H → va_S A s.heap H locs → lv_has ls 6 [(0, .ref l0), (1, .int l1), (2, .int l2), (3, .int l3), (4, .int l4)] → K M l0 l1 l2 l3 l4 → W p l e (r_M_many) s m args below meth c H locs 0 0 Q (F0 m 5 ls [])
def w_M_many_j89 (e0 : Nat) (post : Int32 → zM → Prop) (K5 : zM → Nat → Int32 → Int32 → Int32 → Int32 → Prop) (M : zM) (l0 : Nat) (l1 : Int32) (l2 : Int32) (l3 : Int32) (l4 : Int32) : Prop := K5 M l0 l1 l2 l3 (l4 + 1)
set_option maxHeartbeats 4000000 in
set_option maxRecDepth 100000 in
theorem k_M_many_j89 {p : Program} {l : Launch} {e : Env} {s : State} {m : MethodId} {args : Array Value} {below : List Frame} {meth : Method} {c : Code} {D : va_G} {tc : Nat → ClassId} {A : Nat → Prop} {post : Int32 → zM → Prop} (C0 : zC R_M cM_many 6 (some .int) "many" D tc A p l s m args meth c) {K5 : zM → Nat → Int32 → Int32 → Int32 → Int32 → Prop} (hK5 : J_M_many_5 p l e s m args below meth c D tc A (MQ below (va_Qi post (zB D tc A) A) args s 0 0 A) K5) : J_M_many_89 p l e s m args below meth c D tc A (MQ below (va_Qi post (zB D tc A) A) args s 0 0 A) (w_M_many_j89 (tc 9) post K5) := by
  obtain ⟨hx, hb, hml, hr, hown, htb, hlk, hA, hG, hin, hex⟩ := id C0
  have hK := hG.1
  intro M l0 l1 l2 l3 l4 H locs ls hM hS hl hw
  refine lv_iinc (v := (l4 + 1)) (lv' := [(4, .int (l4 + 1)), (0, .ref l0), (1, .int l1), (2, .int l2), (3, .int l3)]) hx hb dM_many_89 hl (k := 4) rfl rfl (by decide) rfl (fun ls hl => ?_)
  refine lv_goto (tgt := 5) hx hb dM_many_92 (by decide) ?_
  exact hK5 _ _ _ _ _ _ _ _ _ hM hS (lv_sub hl [1, 2, 3, 4, 0] rfl) hw
def w_M_many_j86 (e0 : Nat) (post : Int32 → zM → Prop) (K5 : zM → Nat → Int32 → Int32 → Int32 → Int32 → Prop) (M : zM) (l0 : Nat) (l1 : Int32) (l2 : Int32) (l3 : Int32) (l4 : Int32) : Prop := w_M_many_j89 e0 post K5 M l0 l1 l2 (l3 + 1) l4
set_option maxHeartbeats 4000000 in
set_option maxRecDepth 100000 in
theorem k_M_many_j86 {p : Program} {l : Launch} {e : Env} {s : State} {m : MethodId} {args : Array Value} {below : List Frame} {meth : Method} {c : Code} {D : va_G} {tc : Nat → ClassId} {A : Nat → Prop} {post : Int32 → zM → Prop} (C0 : zC R_M cM_many 6 (some .int) "many" D tc A p l s m args meth c) {K5 : zM → Nat → Int32 → Int32 → Int32 → Int32 → Prop} (hK5 : J_M_many_5 p l e s m args below meth c D tc A (MQ below (va_Qi post (zB D tc A) A) args s 0 0 A) K5) : J_M_many_86 p l e s m args below meth c D tc A (MQ below (va_Qi post (zB D tc A) A) args s 0 0 A) (w_M_many_j86 (tc 9) post K5) := by
  obtain ⟨hx, hb, hml, hr, hown, htb, hlk, hA, hG, hin, hex⟩ := id C0
  have hK := hG.1
  intro M l0 l1 l2 l3 l4 H locs ls hM hS hl hw
  refine lv_iinc (v := (l3 + 1)) (lv' := [(3, .int (l3 + 1)), (0, .ref l0), (1, .int l1), (2, .int l2), (4, .int l4)]) hx hb dM_many_86 hl (k := 3) rfl rfl (by decide) rfl (fun ls hl => ?_)
  exact k_M_many_j89 C0 hK5 _ _ _ _ _ _ _ _ _ hM hS (lv_sub hl [1, 2, 3, 0, 4] rfl) hw
def w_M_many_j71 (e0 : Nat) (post : Int32 → zM → Prop) (K5 : zM → Nat → Int32 → Int32 → Int32 → Int32 → Prop) (M : zM) (l0 : Nat) (l1 : Int32) (l2 : Int32) (l3 : Int32) (l4 : Int32) (l5 : Int32) : Prop := ((l2 = 4) → wGR M l0 4 21 (fun v1 => wLI M v1 0 l5 (fun v7 => ((v7 < 0) → w_M_many_j89 e0 post K5 M l0 l1 l2 l3 l4) ∧ (¬ (v7 < 0) → w_M_many_j86 e0 post K5 M l0 l1 l2 l3 l4)))) ∧ (¬ (l2 = 4) → w_M_many_j89 e0 post K5 M l0 l1 l2 l3 l4)
set_option maxHeartbeats 4000000 in
set_option maxRecDepth 100000 in
theorem k_M_many_j71 {p : Program} {l : Launch} {e : Env} {s : State} {m : MethodId} {args : Array Value} {below : List Frame} {meth : Method} {c : Code} {D : va_G} {tc : Nat → ClassId} {A : Nat → Prop} {post : Int32 → zM → Prop} (C0 : zC R_M cM_many 6 (some .int) "many" D tc A p l s m args meth c) {K5 : zM → Nat → Int32 → Int32 → Int32 → Int32 → Prop} (hK5 : J_M_many_5 p l e s m args below meth c D tc A (MQ below (va_Qi post (zB D tc A) A) args s 0 0 A) K5) : J_M_many_71 p l e s m args below meth c D tc A (MQ below (va_Qi post (zB D tc A) A) args s 0 0 A) (w_M_many_j71 (tc 9) post K5) := by
  obtain ⟨hx, hb, hml, hr, hown, htb, hlk, hA, hG, hin, hex⟩ := id C0
  have hK := hG.1
  intro M l0 l1 l2 l3 l4 l5 H locs ls hM hS hl hw
  refine lv_iload_n hx hb dM_many_71 rfl (lv_at hl 2 rfl) ?_
  refine lv_iconst (v := 4) hx hb dM_many_72 (by decide +kernel) ?_
  refine lv_icmp_ne (tgt := 89) hx hb dM_many_73 (by decide) (fun hq => ?_) (fun hq => ?_)
  · have hw := hw.2 hq
    exact k_M_many_j89 C0 hK5 _ _ _ _ _ _ _ _ _ hM hS (lv_sub hl [0, 1, 2, 3, 4] rfl) hw
  · have hw := hw.1 hq
    refine lv_aload_n hx hb dM_many_76 rfl (lv_at hl 0 rfl) ?_
    obtain ⟨fs2, v1, h3, ev4, hw⟩ := hw
    refine z_get hx hb htb inw_M hown hK hM h3 rfl 21 (by decide) (htb _ t_672) (fun _ h9 => h9) ev4 dM_many_77 ?_
    refine lv_iload hx hb dM_many_80 (lv_at hl 5 rfl) ?_
    obtain ⟨n5, f6, v7, h8, hi9, ev10, hw⟩ := hw
    refine z_iald hx hb hK hM 0 0 h8 rfl hi9 ev10 dM_many_82 ?_
    refine lv_if_lt (tgt := 89) hx hb dM_many_83 (by decide) (fun hq => ?_) (fun hq => ?_)
    · have hw := hw.1 hq
      exact k_M_many_j89 C0 hK5 _ _ _ _ _ _ _ _ _ hM hS (lv_sub hl [0, 1, 2, 3, 4] rfl) hw
    · have hw := hw.2 hq
      exact k_M_many_j86 C0 hK5 _ _ _ _ _ _ _ _ _ hM hS (lv_sub hl [0, 1, 2, 3, 4] rfl) hw
def w_M_many_j54 (e0 : Nat) (post : Int32 → zM → Prop) (K5 : zM → Nat → Int32 → Int32 → Int32 → Int32 → Prop) (M : zM) (l0 : Nat) (l1 : Int32) (l2 : Int32) (l3 : Int32) (l4 : Int32) (l5 : Int32) : Prop := ((l2 = 3) → wGR M l0 4 21 (fun v1 => wLI M v1 0 l5 (fun v7 => ((v7 = (-2)) → w_M_many_j71 e0 post K5 M l0 l1 l2 l3 l4 l5) ∧ (¬ (v7 = (-2)) → w_M_many_j86 e0 post K5 M l0 l1 l2 l3 l4)))) ∧ (¬ (l2 = 3) → w_M_many_j71 e0 post K5 M l0 l1 l2 l3 l4 l5)
set_option maxHeartbeats 4000000 in
set_option maxRecDepth 100000 in
theorem k_M_many_j54 {p : Program} {l : Launch} {e : Env} {s : State} {m : MethodId} {args : Array Value} {below : List Frame} {meth : Method} {c : Code} {D : va_G} {tc : Nat → ClassId} {A : Nat → Prop} {post : Int32 → zM → Prop} (C0 : zC R_M cM_many 6 (some .int) "many" D tc A p l s m args meth c) {K5 : zM → Nat → Int32 → Int32 → Int32 → Int32 → Prop} (hK5 : J_M_many_5 p l e s m args below meth c D tc A (MQ below (va_Qi post (zB D tc A) A) args s 0 0 A) K5) : J_M_many_54 p l e s m args below meth c D tc A (MQ below (va_Qi post (zB D tc A) A) args s 0 0 A) (w_M_many_j54 (tc 9) post K5) := by
  obtain ⟨hx, hb, hml, hr, hown, htb, hlk, hA, hG, hin, hex⟩ := id C0
  have hK := hG.1
  intro M l0 l1 l2 l3 l4 l5 H locs ls hM hS hl hw
  refine lv_iload_n hx hb dM_many_54 rfl (lv_at hl 2 rfl) ?_
  refine lv_iconst (v := 3) hx hb dM_many_55 (by decide +kernel) ?_
  refine lv_icmp_ne (tgt := 71) hx hb dM_many_56 (by decide) (fun hq => ?_) (fun hq => ?_)
  · have hw := hw.2 hq
    exact k_M_many_j71 C0 hK5 _ _ _ _ _ _ _ _ _ _ hM hS (lv_sub hl [0, 1, 2, 3, 4, 5] rfl) hw
  · have hw := hw.1 hq
    refine lv_aload_n hx hb dM_many_59 rfl (lv_at hl 0 rfl) ?_
    obtain ⟨fs2, v1, h3, ev4, hw⟩ := hw
    refine z_get hx hb htb inw_M hown hK hM h3 rfl 21 (by decide) (htb _ t_672) (fun _ h9 => h9) ev4 dM_many_60 ?_
    refine lv_iload hx hb dM_many_63 (lv_at hl 5 rfl) ?_
    obtain ⟨n5, f6, v7, h8, hi9, ev10, hw⟩ := hw
    refine z_iald hx hb hK hM 0 0 h8 rfl hi9 ev10 dM_many_65 ?_
    refine lv_bipush (v := (-2)) hx hb dM_many_66 (by decide +kernel) ?_
    refine lv_icmp_ne (tgt := 86) hx hb dM_many_68 (by decide) (fun hq => ?_) (fun hq => ?_)
    · have hw := hw.2 hq
      exact k_M_many_j86 C0 hK5 _ _ _ _ _ _ _ _ _ hM hS (lv_sub hl [0, 1, 2, 3, 4] rfl) hw
    · have hw := hw.1 hq
      exact k_M_many_j71 C0 hK5 _ _ _ _ _ _ _ _ _ _ hM hS (lv_sub hl [0, 1, 2, 3, 4, 5] rfl) hw
def w_M_many_j5 (e0 : Nat) (post : Int32 → zM → Prop) : Nat → zM → Nat → Int32 → Int32 → Int32 → Int32 → Prop
  | 0 => fun _ _ _ _ _ _ => False
  | n + 1 => fun M l0 l1 l2 l3 l4 => ((60 ≤ l4) → post l3 M) ∧ (¬ (60 ≤ l4) → wGR M l0 4 18 (fun v1 => wLI M v1 1 ((l1 * 60) + l4) (fun v7 => ((v7 = 0) → w_M_many_j89 e0 post (w_M_many_j5 e0 post n) M l0 l1 l2 l3 l4) ∧ (¬ (v7 = 0) → ((l2 = 1) → w_M_many_j86 e0 post (w_M_many_j5 e0 post n) M l0 l1 l2 l3 l4) ∧ (¬ (l2 = 1) → ((l2 = 2) → wGR M l0 4 19 (fun v11 => wLI M v11 0 ((l1 * 60) + l4) (fun v17 => ((0 ≤ v17) → w_M_many_j86 e0 post (w_M_many_j5 e0 post n) M l0 l1 l2 l3 l4) ∧ (¬ (0 ≤ v17) → w_M_many_j54 e0 post (w_M_many_j5 e0 post n) M l0 l1 l2 l3 l4 ((l1 * 60) + l4))))) ∧ (¬ (l2 = 2) → w_M_many_j54 e0 post (w_M_many_j5 e0 post n) M l0 l1 l2 l3 l4 ((l1 * 60) + l4)))))))
set_option maxHeartbeats 4000000 in
set_option maxRecDepth 100000 in
theorem k_M_many_j5 {p : Program} {l : Launch} {e : Env} {s : State} {m : MethodId} {args : Array Value} {below : List Frame} {meth : Method} {c : Code} {D : va_G} {tc : Nat → ClassId} {A : Nat → Prop} {post : Int32 → zM → Prop} (C0 : zC R_M cM_many 6 (some .int) "many" D tc A p l s m args meth c) : ∀ n : Nat, J_M_many_5 p l e s m args below meth c D tc A (MQ below (va_Qi post (zB D tc A) A) args s 0 0 A) (w_M_many_j5 (tc 9) post n) := by
  obtain ⟨hx, hb, hml, hr, hown, htb, hlk, hA, hG, hin, hex⟩ := id C0
  have hK := hG.1
  intro n
  induction n with
  | zero => intro M l0 l1 l2 l3 l4 H locs ls hM hS hl hw; exact hw.elim
  | succ n ih =>
    intro M l0 l1 l2 l3 l4 H locs ls hM hS hl hw
    refine lv_iload hx hb dM_many_5 (lv_at hl 4 rfl) ?_
    refine lv_bipush (v := 60) hx hb dM_many_7 (by decide +kernel) ?_
    refine lv_icmp_ge (tgt := 95) hx hb dM_many_9 (by decide) (fun hq => ?_) (fun hq => ?_)
    · have hw := hw.1 hq
      refine lv_iload_n hx hb dM_many_95 rfl (lv_at hl 3 rfl) ?_
      exact W.iret hx hb hr (fun t ht hW => ⟨⟨_, _, rfl, hw, zB_of ht hM⟩, hS.F ht⟩) hS.2.2 dM_many_96
    · have hw := hw.2 hq
      refine lv_iload_n hx hb dM_many_12 rfl (lv_at hl 1 rfl) ?_
      refine lv_bipush (v := 60) hx hb dM_many_13 (by decide +kernel) ?_
      refine lv_imul hx hb dM_many_15 ?_
      refine lv_iload hx hb dM_many_16 (lv_at hl 4 rfl) ?_
      refine lv_iadd hx hb dM_many_18 ?_
      refine lv_istore (lv' := [(5, .int ((l1 * 60) + l4)), (0, .ref l0), (1, .int l1), (2, .int l2), (3, .int l3), (4, .int l4)]) hx hb dM_many_19 hl (by decide) rfl (fun ls hl => ?_)
      refine lv_aload_n hx hb dM_many_21 rfl (lv_at hl 1 rfl) ?_
      obtain ⟨fs2, v1, h3, ev4, hw⟩ := hw
      refine z_get hx hb htb inw_M hown hK hM h3 rfl 18 (by decide) (htb _ t_669) (fun _ h9 => h9) ev4 dM_many_22 ?_
      refine lv_iload hx hb dM_many_25 (lv_at hl 0 rfl) ?_
      obtain ⟨n5, f6, v7, h8, hi9, ev10, hw⟩ := hw
      refine z_zald hx hb hK hM 1 1 h8 rfl hi9 ev10 dM_many_27 ?_
      refine lv_if_ne (tgt := 34) hx hb dM_many_28 (by decide) (fun hq => ?_) (fun hq => ?_)
      · have hw := hw.2 hq
        refine lv_iload_n hx hb dM_many_34 rfl (lv_at hl 3 rfl) ?_
        refine lv_iconst (v := 1) hx hb dM_many_35 (by decide +kernel) ?_
        refine lv_icmp_eq (tgt := 86) hx hb dM_many_36 (by decide) (fun hq => ?_) (fun hq => ?_)
        · have hw := hw.1 hq
          exact k_M_many_j86 C0 ih _ _ _ _ _ _ _ _ _ hM hS (lv_sub hl [1, 2, 3, 4, 5] rfl) hw
        · have hw := hw.2 hq
          refine lv_iload_n hx hb dM_many_39 rfl (lv_at hl 3 rfl) ?_
          refine lv_iconst (v := 2) hx hb dM_many_40 (by decide +kernel) ?_
          refine lv_icmp_ne (tgt := 54) hx hb dM_many_41 (by decide) (fun hq => ?_) (fun hq => ?_)
          · have hw := hw.2 hq
            exact k_M_many_j54 C0 ih _ _ _ _ _ _ _ _ _ _ hM hS (lv_sub hl [1, 2, 3, 4, 5, 0] rfl) hw
          · have hw := hw.1 hq
            refine lv_aload_n hx hb dM_many_44 rfl (lv_at hl 1 rfl) ?_
            obtain ⟨fs12, v11, h13, ev14, hw⟩ := hw
            refine z_get hx hb htb inw_M hown hK hM h13 rfl 19 (by decide) (htb _ t_670) (fun _ h9 => h9) ev14 dM_many_45 ?_
            refine lv_iload hx hb dM_many_48 (lv_at hl 0 rfl) ?_
            obtain ⟨n15, f16, v17, h18, hi19, ev20, hw⟩ := hw
            refine z_iald hx hb hK hM 0 0 h18 rfl hi19 ev20 dM_many_50 ?_
            refine lv_if_ge (tgt := 86) hx hb dM_many_51 (by decide) (fun hq => ?_) (fun hq => ?_)
            · have hw := hw.1 hq
              exact k_M_many_j86 C0 ih _ _ _ _ _ _ _ _ _ hM hS (lv_sub hl [1, 2, 3, 4, 5] rfl) hw
            · have hw := hw.2 hq
              exact k_M_many_j54 C0 ih _ _ _ _ _ _ _ _ _ _ hM hS (lv_sub hl [1, 2, 3, 4, 5, 0] rfl) hw
      · have hw := hw.1 hq
        refine lv_goto (tgt := 89) hx hb dM_many_31 (by decide) ?_
        exact k_M_many_j89 C0 ih _ _ _ _ _ _ _ _ _ hM hS (lv_sub hl [1, 2, 3, 4, 5] rfl) hw
def w_M_many (e0 : Nat) (post : Int32 → zM → Prop) (M : zM) (h0 : Nat) (x1 : Int32) (x2 : Int32) : Prop := ∃ nn, w_M_many_j5 e0 post nn M h0 x1 x2 0 0
set_option maxHeartbeats 4000000 in
set_option maxRecDepth 100000 in
theorem k_M_many {l : Launch} {D : va_G} {tc : Nat → ClassId} {A : Nat → Prop} {post : Int32 → zM → Prop} {M : zM} {h0 : Nat} {x1 : Int32} {x2 : Int32} (hw : w_M_many (tc 9) post M h0 x1 x2) : Met l yM_many (.code yM_many cM_many 6 (some .int) :: zTB) r_M_many (va_Pc [.ref h0, .int x1, .int x2] (zI D tc A M)) (va_Qi post (zB D tc A) A) 0 0 A := by
  refine Met.ofW (cc := cM_many) (maxL := 6) (ret := (some .int)) (by decide +kernel) rfl ?_
  intro p e s m args below meth c s₁ B hml hv
  obtain ⟨rfl, hA, hM, hG⟩ := hv
  have C0 := zC_of (D := D) (tc := tc) (A := A) B hml (zC_ex B) hA hG
  obtain ⟨hx, hb, hml, hr, hown, htb, hlk, hA, hG, hin, hex⟩ := id C0
  have hK := hG.1
  have hS : va_S A s.heap s.heap [] := va_S.rf
  have hl := lv_entry ([.ref h0, .int x1, .int x2]) (n := 6) (Nat.le_of_ble_eq_true rfl)
  rw [lg_entry_eq]
  generalize (lg_sl ([.ref h0, .int x1, .int x2]) ++ List.replicate (6 - (lg_sl ([.ref h0, .int x1, .int x2])).length) Slot.unset).toArray = ls at hl ⊢
  have hl : lv_has ls 6 [(0, .ref h0), (1, .int x1), (2, .int x2)] := hl
  refine lv_iconst (v := 0) hx hb dM_many_0 (by decide +kernel) ?_
  refine lv_istore_n (lv' := [(3, .int 0), (0, .ref h0), (1, .int x1), (2, .int x2)]) hx hb dM_many_1 rfl hl (by decide) rfl (fun ls hl => ?_)
  refine lv_iconst (v := 0) hx hb dM_many_2 (by decide +kernel) ?_
  refine lv_istore (lv' := [(4, .int 0), (3, .int 0), (0, .ref h0), (1, .int x1), (2, .int x2)]) hx hb dM_many_3 hl (by decide) rfl (fun ls hl => ?_)
  obtain ⟨nfu, hw⟩ := hw
  exact k_M_many_j5 C0  nfu _ _ _ _ _ _ _ _ _ hM hS (lv_sub hl [2, 3, 4, 1, 0] rfl) hw
abbrev r_M_tick : Room := { frames := 2, cells := 0, slots := 0, locals := 49 }
abbrev J_M_tick_227 (p : Program) (l : Launch) (e : Env) (s : State) (m : MethodId) (args : Array Value) (below : List Frame) (meth : Method) (c : Code) (D : va_G) (tc : Nat → ClassId) (A : Nat → Prop) (Q : State → Prop) (K : zM → Nat → Int32 → Int32 → Int32 → Int32 → Prop) : Prop := ∀ (M : zM) (l0 : Nat) (l1 : Int32) (l2 : Int32) (l3 : Int32) (l4 : Int32) (H : Heap) (locs : List Loc) (ls : Array Slot), zP D vwCl tc A M H → va_S A s.heap H locs → lv_has ls 6 [(0, .ref l0), (1, .int l1), (2, .int l2), (3, .int l3), (4, .int l4)] → K M l0 l1 l2 l3 l4 → W p l e (r_M_tick) s m args below meth c H locs 0 0 Q (F0 m 227 ls [])
abbrev J_M_tick_145 (p : Program) (l : Launch) (e : Env) (s : State) (m : MethodId) (args : Array Value) (below : List Frame) (meth : Method) (c : Code) (D : va_G) (tc : Nat → ClassId) (A : Nat → Prop) (Q : State → Prop) (K : zM → Nat → Int32 → Int32 → Int32 → Int32 → Int32 → Int32 → Nat → Prop) : Prop := ∀ (M : zM) (l0 : Nat) (l1 : Int32) (l2 : Int32) (l3 : Int32) (l4 : Int32) (s0 : Int32) (s1 : Int32) (s2 : Nat) (H : Heap) (locs : List Loc) (ls : Array Slot), zP D vwCl tc A M H → va_S A s.heap H locs → lv_has ls 6 [(0, .ref l0), (1, .int l1), (2, .int l2), (3, .int l3), (4, .int l4)] → K M l0 l1 l2 l3 l4 s0 s1 s2 → W p l e (r_M_tick) s m args below meth c H locs 0 0 Q (F0 m 145 ls [.int s0, .int s1, .ref s2])
abbrev J_M_tick_63 (p : Program) (l : Launch) (e : Env) (s : State) (m : MethodId) (args : Array Value) (below : List Frame) (meth : Method) (c : Code) (D : va_G) (tc : Nat → ClassId) (A : Nat → Prop) (Q : State → Prop) (K : zM → Nat → Int32 → Int32 → Int32 → Int32 → Prop) : Prop := ∀ (M : zM) (l0 : Nat) (l1 : Int32) (l2 : Int32) (l3 : Int32) (l4 : Int32) (H : Heap) (locs : List Loc) (ls : Array Slot), zP D vwCl tc A M H → va_S A s.heap H locs → lv_has ls 6 [(0, .ref l0), (1, .int l1), (2, .int l2), (3, .int l3), (4, .int l4)] → K M l0 l1 l2 l3 l4 → W p l e (r_M_tick) s m args below meth c H locs 0 0 Q (F0 m 63 ls [])
abbrev J_M_tick_45 (p : Program) (l : Launch) (e : Env) (s : State) (m : MethodId) (args : Array Value) (below : List Frame) (meth : Method) (c : Code) (D : va_G) (tc : Nat → ClassId) (A : Nat → Prop) (Q : State → Prop) (K : zM → Nat → Int32 → Int32 → Int32 → Prop) : Prop := ∀ (M : zM) (l0 : Nat) (l1 : Int32) (l2 : Int32) (l3 : Int32) (H : Heap) (locs : List Loc) (ls : Array Slot), zP D vwCl tc A M H → va_S A s.heap H locs → lv_has ls 6 [(0, .ref l0), (1, .int l1), (2, .int l2), (3, .int l3)] → K M l0 l1 l2 l3 → W p l e (r_M_tick) s m args below meth c H locs 0 0 Q (F0 m 45 ls [])
abbrev J_M_tick_28 (p : Program) (l : Launch) (e : Env) (s : State) (m : MethodId) (args : Array Value) (below : List Frame) (meth : Method) (c : Code) (D : va_G) (tc : Nat → ClassId) (A : Nat → Prop) (Q : State → Prop) (K : zM → Nat → Int32 → Int32 → Nat → Prop) : Prop := ∀ (M : zM) (l0 : Nat) (l1 : Int32) (s0 : Int32) (s1 : Nat) (H : Heap) (locs : List Loc) (ls : Array Slot), zP D vwCl tc A M H → va_S A s.heap H locs → lv_has ls 6 [(0, .ref l0), (1, .int l1)] → K M l0 l1 s0 s1 → W p l e (r_M_tick) s m args below meth c H locs 0 0 Q (F0 m 28 ls [.int s0, .ref s1])
abbrev J_M_tick_27 (p : Program) (l : Launch) (e : Env) (s : State) (m : MethodId) (args : Array Value) (below : List Frame) (meth : Method) (c : Code) (D : va_G) (tc : Nat → ClassId) (A : Nat → Prop) (Q : State → Prop) (K : zM → Nat → Int32 → Nat → Prop) : Prop := ∀ (M : zM) (l0 : Nat) (l1 : Int32) (s0 : Nat) (H : Heap) (locs : List Loc) (ls : Array Slot), zP D vwCl tc A M H → va_S A s.heap H locs → lv_has ls 6 [(0, .ref l0), (1, .int l1)] → K M l0 l1 s0 → W p l e (r_M_tick) s m args below meth c H locs 0 0 Q (F0 m 27 ls [.ref s0])
def w_M_tick_j227 (e0 : Nat) (post : Int32 → zM → Prop) (K45 : zM → Nat → Int32 → Int32 → Int32 → Prop) (K63 : zM → Nat → Int32 → Int32 → Int32 → Int32 → Prop) (M : zM) (l0 : Nat) (l1 : Int32) (l2 : Int32) (l3 : Int32) (l4 : Int32) : Prop := K63 M l0 l1 l2 l3 (l4 + 1)
set_option maxHeartbeats 4000000 in
set_option maxRecDepth 100000 in
theorem k_M_tick_j227 {p : Program} {l : Launch} {e : Env} {s : State} {m : MethodId} {args : Array Value} {below : List Frame} {meth : Method} {c : Code} {D : va_G} {tc : Nat → ClassId} {A : Nat → Prop} {post : Int32 → zM → Prop} (C0 : zC R_M cM_tick 6 (some .int) "tick" D tc A p l s m args meth c) {K45 : zM → Nat → Int32 → Int32 → Int32 → Prop} (hK45 : J_M_tick_45 p l e s m args below meth c D tc A (MQ below (va_Qi post (zB D tc A) A) args s 0 0 A) K45) {K63 : zM → Nat → Int32 → Int32 → Int32 → Int32 → Prop} (hK63 : J_M_tick_63 p l e s m args below meth c D tc A (MQ below (va_Qi post (zB D tc A) A) args s 0 0 A) K63) : J_M_tick_227 p l e s m args below meth c D tc A (MQ below (va_Qi post (zB D tc A) A) args s 0 0 A) (w_M_tick_j227 (tc 9) post K45 K63) := by
  obtain ⟨hx, hb, hml, hr, hown, htb, hlk, hA, hG, hin, hex⟩ := id C0
  have hK := hG.1
  intro M l0 l1 l2 l3 l4 H locs ls hM hS hl hw
  refine lv_iinc (v := (l4 + 1)) (lv' := [(4, .int (l4 + 1)), (0, .ref l0), (1, .int l1), (2, .int l2), (3, .int l3)]) hx hb dM_tick_227 hl (k := 4) rfl rfl (by decide) rfl (fun ls hl => ?_)
  refine lv_goto (tgt := 63) hx hb dM_tick_230 (by decide) ?_
  exact hK63 _ _ _ _ _ _ _ _ _ hM hS (lv_sub hl [1, 2, 3, 4, 0] rfl) hw
def w_M_tick_j145 (e0 : Nat) (post : Int32 → zM → Prop) (K45 : zM → Nat → Int32 → Int32 → Int32 → Prop) (K63 : zM → Nat → Int32 → Int32 → Int32 → Int32 → Prop) (M : zM) (l0 : Nat) (l1 : Int32) (l2 : Int32) (l3 : Int32) (l4 : Int32) (s0 : Int32) (s1 : Int32) (s2 : Nat) : Prop := wSI M s2 0 s1 s0 (fun M5 => wGR M5 l0 4 5 (fun v6 => wGR M5 l0 4 13 (fun v10 => wLI M5 v10 0 l4 (fun v16 => wLI M5 v6 0 v16 (fun v22 => wGR M5 l0 4 17 (fun v26 => wLI M5 v26 0 l4 (fun v32 => ((v32 = 1) → w_M_tick_j227 e0 post K45 K63 M5 l0 l1 l2 l3 l4) ∧ (¬ (v32 = 1) → wGR M5 l0 4 14 (fun v36 => wLI M5 v36 1 l4 (fun v42 => ((v42 = 0) → ((v22 < 0) → w_M_tick_j227 e0 post K45 K63 M5 l0 l1 l2 l3 l4) ∧ (¬ (v22 < 0) → wGI M5 l0 4 12 (fun v46 => ((v46 = 60) → w_M_tick_j227 e0 post K45 K63 M5 l0 l1 l2 l3 l4) ∧ (¬ (v46 = 60) → wIs M5 l0 4 ∧ w_M_asksAny e0 (fun r51 M50 => ((r51 = 0) → w_M_tick_j227 e0 post K45 K63 M50 l0 l1 l2 l3 l4) ∧ (¬ (r51 = 0) → wIs M50 l0 4 ∧ w_M_begin e0 (fun M52 => wGI M52 l0 4 24 (fun v53 => wPF M52 l0 4 24 (.int (v53 + 1)) (fun M60 => w_M_tick_j227 e0 post K45 K63 M60 l0 l1 l2 l3 l4))) M50 l0 v22 0 l4)) M5 l0 v22 0)))) ∧ (¬ (v42 = 0) → w_M_tick_j227 e0 post K45 K63 M5 l0 l1 l2 l3 l4)))))))))))
set_option maxHeartbeats 4000000 in
set_option maxRecDepth 100000 in
theorem k_M_tick_j145 {p : Program} {l : Launch} {e : Env} {s : State} {m : MethodId} {args : Array Value} {below : List Frame} {meth : Method} {c : Code} {D : va_G} {tc : Nat → ClassId} {A : Nat → Prop} {post : Int32 → zM → Prop} (C0 : zC R_M cM_tick 6 (some .int) "tick" D tc A p l s m args meth c) {K45 : zM → Nat → Int32 → Int32 → Int32 → Prop} (hK45 : J_M_tick_45 p l e s m args below meth c D tc A (MQ below (va_Qi post (zB D tc A) A) args s 0 0 A) K45) {K63 : zM → Nat → Int32 → Int32 → Int32 → Int32 → Prop} (hK63 : J_M_tick_63 p l e s m args below meth c D tc A (MQ below (va_Qi post (zB D tc A) A) args s 0 0 A) K63) : J_M_tick_145 p l e s m args below meth c D tc A (MQ below (va_Qi post (zB D tc A) A) args s 0 0 A) (w_M_tick_j145 (tc 9) post K45 K63) := by
  obtain ⟨hx, hb, hml, hr, hown, htb, hlk, hA, hG, hin, hex⟩ := id C0
  have hK := hG.1
  intro M l0 l1 l2 l3 l4 s0 s1 s2 H locs ls hM hS hl hw
  obtain ⟨n1, f2, h3, hi4, hw⟩ := hw
  refine z_iast hx hb hK hM hS 0 0 h3 rfl hi4 dM_tick_145 (fun H locs hM hS => ?_)
  refine lv_aload_n hx hb dM_tick_146 rfl (lv_at hl 0 rfl) ?_
  obtain ⟨fs7, v6, h8, ev9, hw⟩ := hw
  refine z_get hx hb htb inw_M hown hK hM h8 rfl 5 (by decide) (htb _ t_656) (fun _ h9 => h9) ev9 dM_tick_147 ?_
  refine lv_aload_n hx hb dM_tick_150 rfl (lv_at hl 0 rfl) ?_
  obtain ⟨fs11, v10, h12, ev13, hw⟩ := hw
  refine z_get hx hb htb inw_M hown hK hM h12 rfl 13 (by decide) (htb _ t_664) (fun _ h9 => h9) ev13 dM_tick_151 ?_
  refine lv_iload hx hb dM_tick_154 (lv_at hl 4 rfl) ?_
  obtain ⟨n14, f15, v16, h17, hi18, ev19, hw⟩ := hw
  refine z_iald hx hb hK hM 0 0 h17 rfl hi18 ev19 dM_tick_156 ?_
  obtain ⟨n20, f21, v22, h23, hi24, ev25, hw⟩ := hw
  refine z_iald hx hb hK hM 0 0 h23 rfl hi24 ev25 dM_tick_157 ?_
  refine lv_istore (lv' := [(5, .int v22), (0, .ref l0), (1, .int l1), (2, .int l2), (3, .int l3), (4, .int l4)]) hx hb dM_tick_158 hl (by decide) rfl (fun ls hl => ?_)
  refine lv_aload_n hx hb dM_tick_160 rfl (lv_at hl 1 rfl) ?_
  obtain ⟨fs27, v26, h28, ev29, hw⟩ := hw
  refine z_get hx hb htb inw_M hown hK hM h28 rfl 17 (by decide) (htb _ t_668) (fun _ h9 => h9) ev29 dM_tick_161 ?_
  refine lv_iload hx hb dM_tick_164 (lv_at hl 5 rfl) ?_
  obtain ⟨n30, f31, v32, h33, hi34, ev35, hw⟩ := hw
  refine z_iald hx hb hK hM 0 0 h33 rfl hi34 ev35 dM_tick_166 ?_
  refine lv_iconst (v := 1) hx hb dM_tick_167 (by decide +kernel) ?_
  refine lv_icmp_eq (tgt := 227) hx hb dM_tick_168 (by decide) (fun hq => ?_) (fun hq => ?_)
  · have hw := hw.1 hq
    exact k_M_tick_j227 C0 hK45 hK63 _ _ _ _ _ _ _ _ _ hM hS (lv_sub hl [1, 2, 3, 4, 5] rfl) hw
  · have hw := hw.2 hq
    refine lv_aload_n hx hb dM_tick_171 rfl (lv_at hl 1 rfl) ?_
    obtain ⟨fs37, v36, h38, ev39, hw⟩ := hw
    refine z_get hx hb htb inw_M hown hK hM h38 rfl 14 (by decide) (htb _ t_665) (fun _ h9 => h9) ev39 dM_tick_172 ?_
    refine lv_iload hx hb dM_tick_175 (lv_at hl 5 rfl) ?_
    obtain ⟨n40, f41, v42, h43, hi44, ev45, hw⟩ := hw
    refine z_zald hx hb hK hM 1 1 h43 rfl hi44 ev45 dM_tick_177 ?_
    refine lv_if_ne (tgt := 227) hx hb dM_tick_178 (by decide) (fun hq => ?_) (fun hq => ?_)
    · have hw := hw.2 hq
      exact k_M_tick_j227 C0 hK45 hK63 _ _ _ _ _ _ _ _ _ hM hS (lv_sub hl [1, 2, 3, 4, 5] rfl) hw
    · have hw := hw.1 hq
      refine lv_iload hx hb dM_tick_181 (lv_at hl 0 rfl) ?_
      refine lv_if_lt (tgt := 227) hx hb dM_tick_183 (by decide) (fun hq => ?_) (fun hq => ?_)
      · have hw := hw.1 hq
        exact k_M_tick_j227 C0 hK45 hK63 _ _ _ _ _ _ _ _ _ hM hS (lv_sub hl [1, 2, 3, 4, 5] rfl) hw
      · have hw := hw.2 hq
        refine lv_aload_n hx hb dM_tick_186 rfl (lv_at hl 1 rfl) ?_
        obtain ⟨fs47, v46, h48, ev49, hw⟩ := hw
        refine z_get hx hb htb inw_M hown hK hM h48 rfl 12 (by decide) (htb _ t_663) (fun _ h9 => h9) ev49 dM_tick_187 ?_
        refine lv_bipush (v := 60) hx hb dM_tick_190 (by decide +kernel) ?_
        refine lv_icmp_eq (tgt := 227) hx hb dM_tick_192 (by decide) (fun hq => ?_) (fun hq => ?_)
        · have hw := hw.1 hq
          exact k_M_tick_j227 C0 hK45 hK63 _ _ _ _ _ _ _ _ _ hM hS (lv_sub hl [1, 2, 3, 4, 5] rfl) hw
        · have hw := hw.2 hq
          refine lv_aload_n hx hb dM_tick_195 rfl (lv_at hl 1 rfl) ?_
          refine lv_iload hx hb dM_tick_196 (lv_at hl 0 rfl) ?_
          refine lv_iconst (v := 0) hx hb dM_tick_198 (by decide +kernel) ?_
          obtain ⟨⟨fs63, h64⟩, hw⟩ := hw
          refine va_calli (va_runV (As := [.int v22, .int 0]) (rest := []) ⟨hx, hb, hml, hown, htb⟩ (k_M_asksAny (l := l) (D := D) (tc := tc) (A := A) hw) (cw_M_97 htb ⟨Nat.le_of_ble_eq_true rfl, Nat.le_of_ble_eq_true rfl⟩) (z_preV hG hA hS hM h64 rfl) rfl rfl hl.1 rfl (lv_room (Nat.le_of_ble_eq_true rfl)) dM_tick_199 ⟨Nat.le_refl _, Nat.le_refl _⟩) hS (fun _ _ h => h) (fun _ h => h) (fun r51 M50 t H locs ht hvm hw hB _ _ hS => ?_)
          have hM : zP D vwCl tc A M50 H := by rw [← ht]; exact hB
          refine lv_if_ne (tgt := 208) hx hb dM_tick_202 (by decide) (fun hq => ?_) (fun hq => ?_)
          · have hw := hw.2 hq
            refine lv_aload_n hx hb dM_tick_208 rfl (lv_at hl 1 rfl) ?_
            refine lv_iload hx hb dM_tick_209 (lv_at hl 0 rfl) ?_
            refine lv_iconst (v := 0) hx hb dM_tick_211 (by decide +kernel) ?_
            refine lv_iload hx hb dM_tick_212 (lv_at hl 5 rfl) ?_
            obtain ⟨⟨fs61, h62⟩, hw⟩ := hw
            refine va_callv (va_runV (As := [.int v22, .int 0, .int l4]) (rest := []) ⟨hx, hb, hml, hown, htb⟩ (k_M_begin (l := l) (D := D) (tc := tc) (A := A) hw) (cw_M_101 htb ⟨Nat.le_of_ble_eq_true rfl, Nat.le_of_ble_eq_true rfl⟩) (z_preV hG hA hS hM h62 rfl) rfl rfl hl.1 rfl (lv_room (Nat.le_of_ble_eq_true rfl)) dM_tick_214 ⟨Nat.le_refl _, Nat.le_refl _⟩) hS (fun _ _ h => h) (fun _ h => h) (fun M52 t H locs ht hvm hw hB _ _ hS => ?_)
            have hM : zP D vwCl tc A M52 H := by rw [← ht]; exact hB
            refine lv_aload_n hx hb dM_tick_217 rfl (lv_at hl 1 rfl) ?_
            refine lv_dup hx hb dM_tick_218 rfl ?_
            obtain ⟨fs54, v53, h55, ev56, hw⟩ := hw
            refine z_get hx hb htb inw_M hown hK hM h55 rfl 24 (by decide) (htb _ t_675) (fun _ h9 => h9) ev56 dM_tick_219 ?_
            refine lv_iconst (v := 1) hx hb dM_tick_222 (by decide +kernel) ?_
            refine lv_iadd hx hb dM_tick_223 ?_
            obtain ⟨fs57, h58, hl59, hw⟩ := hw
            refine z_put (ty := .int) hx hb htb inw_M ty_M tyok_M nmok_M hown hK hM hS h58 rfl 24 (by decide) (htb _ t_675) (fun _ h9 => h9) rfl (by decide +kernel) rfl rfl hl59 dM_tick_224 (fun H locs hM hS => ?_)
            exact k_M_tick_j227 C0 hK45 hK63 _ _ _ _ _ _ _ _ _ hM hS (lv_sub hl [1, 2, 3, 4, 5] rfl) hw
          · have hw := hw.1 hq
            refine lv_goto (tgt := 227) hx hb dM_tick_205 (by decide) ?_
            exact k_M_tick_j227 C0 hK45 hK63 _ _ _ _ _ _ _ _ _ hM hS (lv_sub hl [1, 2, 3, 4, 5] rfl) hw
def w_M_tick_j63 (e0 : Nat) (post : Int32 → zM → Prop) (K45 : zM → Nat → Int32 → Int32 → Int32 → Prop) : Nat → zM → Nat → Int32 → Int32 → Int32 → Int32 → Prop
  | 0 => fun _ _ _ _ _ _ => False
  | n + 1 => fun M l0 l1 l2 l3 l4 => wGI M l0 4 12 (fun v1 => ((v1 ≤ l4) → K45 M l0 l1 l2 (l3 + 1)) ∧ (¬ (v1 ≤ l4) → wGR M l0 4 17 (fun v5 => wLI M v5 0 l4 (fun v11 => ((v11 = 0) → wGI M l0 4 1 (fun v15 => wGR M l0 4 15 (fun v19 => wLI M v19 0 l4 (fun v25 => wGR M l0 4 4 (fun v29 => wGR M l0 4 13 (fun v33 => wLI M v33 0 l4 (fun v39 => wLI M v29 0 v39 (fun v45 => (((v25 + v45) ≤ v15) → wGR M l0 4 17 (fun v49 => wIs M l0 4 ∧ w_M_many e0 (fun r54 M53 => wGR M53 l0 4 3 (fun v55 => wGR M53 l0 4 13 (fun v59 => wLI M53 v59 0 l4 (fun v65 => wLI M53 v55 0 v65 (fun v71 => ((r54 < v71) → w_M_tick_j145 e0 post K45 (w_M_tick_j63 e0 post K45 n) M53 l0 l1 l2 l3 l4 2 l4 v49) ∧ (¬ (r54 < v71) → w_M_tick_j145 e0 post K45 (w_M_tick_j63 e0 post K45 n) M53 l0 l1 l2 l3 l4 1 l4 v49)))))) M l0 l4 4)) ∧ (¬ ((v25 + v45) ≤ v15) → w_M_tick_j227 e0 post K45 (w_M_tick_j63 e0 post K45 n) M l0 l1 l2 l3 l4))))))))) ∧ (¬ (v11 = 0) → w_M_tick_j227 e0 post K45 (w_M_tick_j63 e0 post K45 n) M l0 l1 l2 l3 l4)))))
set_option maxHeartbeats 4000000 in
set_option maxRecDepth 100000 in
theorem k_M_tick_j63 {p : Program} {l : Launch} {e : Env} {s : State} {m : MethodId} {args : Array Value} {below : List Frame} {meth : Method} {c : Code} {D : va_G} {tc : Nat → ClassId} {A : Nat → Prop} {post : Int32 → zM → Prop} (C0 : zC R_M cM_tick 6 (some .int) "tick" D tc A p l s m args meth c) {K45 : zM → Nat → Int32 → Int32 → Int32 → Prop} (hK45 : J_M_tick_45 p l e s m args below meth c D tc A (MQ below (va_Qi post (zB D tc A) A) args s 0 0 A) K45) : ∀ n : Nat, J_M_tick_63 p l e s m args below meth c D tc A (MQ below (va_Qi post (zB D tc A) A) args s 0 0 A) (w_M_tick_j63 (tc 9) post K45 n) := by
  obtain ⟨hx, hb, hml, hr, hown, htb, hlk, hA, hG, hin, hex⟩ := id C0
  have hK := hG.1
  intro n
  induction n with
  | zero => intro M l0 l1 l2 l3 l4 H locs ls hM hS hl hw; exact hw.elim
  | succ n ih =>
    intro M l0 l1 l2 l3 l4 H locs ls hM hS hl hw
    refine lv_iload hx hb dM_tick_63 (lv_at hl 4 rfl) ?_
    refine lv_aload_n hx hb dM_tick_65 rfl (lv_at hl 0 rfl) ?_
    obtain ⟨fs2, v1, h3, ev4, hw⟩ := hw
    refine z_get hx hb htb inw_M hown hK hM h3 rfl 12 (by decide) (htb _ t_663) (fun _ h9 => h9) ev4 dM_tick_66 ?_
    refine lv_icmp_ge (tgt := 233) hx hb dM_tick_69 (by decide) (fun hq => ?_) (fun hq => ?_)
    · have hw := hw.1 hq
      refine lv_iinc (v := (l3 + 1)) (lv' := [(3, .int (l3 + 1)), (0, .ref l0), (1, .int l1), (2, .int l2), (4, .int l4)]) hx hb dM_tick_233 hl (k := 3) rfl rfl (by decide) rfl (fun ls hl => ?_)
      refine lv_goto (tgt := 45) hx hb dM_tick_236 (by decide) ?_
      exact hK45 _ _ _ _ _ _ _ _ hM hS (lv_sub hl [1, 2, 3, 0] rfl) hw
    · have hw := hw.2 hq
      refine lv_aload_n hx hb dM_tick_72 rfl (lv_at hl 0 rfl) ?_
      obtain ⟨fs6, v5, h7, ev8, hw⟩ := hw
      refine z_get hx hb htb inw_M hown hK hM h7 rfl 17 (by decide) (htb _ t_668) (fun _ h9 => h9) ev8 dM_tick_73 ?_
      refine lv_iload hx hb dM_tick_76 (lv_at hl 4 rfl) ?_
      obtain ⟨n9, f10, v11, h12, hi13, ev14, hw⟩ := hw
      refine z_iald hx hb hK hM 0 0 h12 rfl hi13 ev14 dM_tick_78 ?_
      refine lv_if_ne (tgt := 227) hx hb dM_tick_79 (by decide) (fun hq => ?_) (fun hq => ?_)
      · have hw := hw.2 hq
        exact k_M_tick_j227 C0 hK45 ih _ _ _ _ _ _ _ _ _ hM hS (lv_sub hl [0, 1, 2, 3, 4] rfl) hw
      · have hw := hw.1 hq
        refine lv_aload_n hx hb dM_tick_82 rfl (lv_at hl 0 rfl) ?_
        obtain ⟨fs16, v15, h17, ev18, hw⟩ := hw
        refine z_get hx hb htb inw_M hown hK hM h17 rfl 1 (by decide) (htb _ t_652) (fun _ h9 => h9) ev18 dM_tick_83 ?_
        refine lv_aload_n hx hb dM_tick_86 rfl (lv_at hl 0 rfl) ?_
        obtain ⟨fs20, v19, h21, ev22, hw⟩ := hw
        refine z_get hx hb htb inw_M hown hK hM h21 rfl 15 (by decide) (htb _ t_666) (fun _ h9 => h9) ev22 dM_tick_87 ?_
        refine lv_iload hx hb dM_tick_90 (lv_at hl 4 rfl) ?_
        obtain ⟨n23, f24, v25, h26, hi27, ev28, hw⟩ := hw
        refine z_iald hx hb hK hM 0 0 h26 rfl hi27 ev28 dM_tick_92 ?_
        refine lv_aload_n hx hb dM_tick_93 rfl (lv_at hl 0 rfl) ?_
        obtain ⟨fs30, v29, h31, ev32, hw⟩ := hw
        refine z_get hx hb htb inw_M hown hK hM h31 rfl 4 (by decide) (htb _ t_655) (fun _ h9 => h9) ev32 dM_tick_94 ?_
        refine lv_aload_n hx hb dM_tick_97 rfl (lv_at hl 0 rfl) ?_
        obtain ⟨fs34, v33, h35, ev36, hw⟩ := hw
        refine z_get hx hb htb inw_M hown hK hM h35 rfl 13 (by decide) (htb _ t_664) (fun _ h9 => h9) ev36 dM_tick_98 ?_
        refine lv_iload hx hb dM_tick_101 (lv_at hl 4 rfl) ?_
        obtain ⟨n37, f38, v39, h40, hi41, ev42, hw⟩ := hw
        refine z_iald hx hb hK hM 0 0 h40 rfl hi41 ev42 dM_tick_103 ?_
        obtain ⟨n43, f44, v45, h46, hi47, ev48, hw⟩ := hw
        refine z_iald hx hb hK hM 0 0 h46 rfl hi47 ev48 dM_tick_104 ?_
        refine lv_iadd hx hb dM_tick_105 ?_
        refine lv_icmp_ge (tgt := 112) hx hb dM_tick_106 (by decide) (fun hq => ?_) (fun hq => ?_)
        · have hw := hw.1 hq
          refine lv_aload_n hx hb dM_tick_112 rfl (lv_at hl 0 rfl) ?_
          obtain ⟨fs50, v49, h51, ev52, hw⟩ := hw
          refine z_get hx hb htb inw_M hown hK hM h51 rfl 17 (by decide) (htb _ t_668) (fun _ h9 => h9) ev52 dM_tick_113 ?_
          refine lv_iload hx hb dM_tick_116 (lv_at hl 4 rfl) ?_
          refine lv_aload_n hx hb dM_tick_118 rfl (lv_at hl 0 rfl) ?_
          refine lv_iload hx hb dM_tick_119 (lv_at hl 4 rfl) ?_
          refine lv_iconst (v := 4) hx hb dM_tick_121 (by decide +kernel) ?_
          obtain ⟨⟨fs75, h76⟩, hw⟩ := hw
          refine va_calli (va_runV (As := [.int l4, .int 4]) (rest := [.int l4, .ref v49]) ⟨hx, hb, hml, hown, htb⟩ (k_M_many (l := l) (D := D) (tc := tc) (A := A) hw) (cw_M_125 htb ⟨Nat.le_of_ble_eq_true rfl, Nat.le_of_ble_eq_true rfl⟩) (z_preV hG hA hS hM h76 rfl) rfl rfl hl.1 rfl (lv_room (Nat.le_of_ble_eq_true rfl)) dM_tick_122 ⟨Nat.le_refl _, Nat.le_refl _⟩) hS (fun _ _ h => h) (fun _ h => h) (fun r54 M53 t H locs ht hvm hw hB _ _ hS => ?_)
          have hM : zP D vwCl tc A M53 H := by rw [← ht]; exact hB
          refine lv_aload_n hx hb dM_tick_125 rfl (lv_at hl 0 rfl) ?_
          obtain ⟨fs56, v55, h57, ev58, hw⟩ := hw
          refine z_get hx hb htb inw_M hown hK hM h57 rfl 3 (by decide) (htb _ t_654) (fun _ h9 => h9) ev58 dM_tick_126 ?_
          refine lv_aload_n hx hb dM_tick_129 rfl (lv_at hl 0 rfl) ?_
          obtain ⟨fs60, v59, h61, ev62, hw⟩ := hw
          refine z_get hx hb htb inw_M hown hK hM h61 rfl 13 (by decide) (htb _ t_664) (fun _ h9 => h9) ev62 dM_tick_130 ?_
          refine lv_iload hx hb dM_tick_133 (lv_at hl 4 rfl) ?_
          obtain ⟨n63, f64, v65, h66, hi67, ev68, hw⟩ := hw
          refine z_iald hx hb hK hM 0 0 h66 rfl hi67 ev68 dM_tick_135 ?_
          obtain ⟨n69, f70, v71, h72, hi73, ev74, hw⟩ := hw
          refine z_iald hx hb hK hM 0 0 h72 rfl hi73 ev74 dM_tick_136 ?_
          refine lv_icmp_lt (tgt := 144) hx hb dM_tick_137 (by decide) (fun hq => ?_) (fun hq => ?_)
          · have hw := hw.1 hq
            refine lv_iconst (v := 2) hx hb dM_tick_144 (by decide +kernel) ?_
            exact k_M_tick_j145 C0 hK45 ih _ _ _ _ _ _ _ _ _ _ _ _ hM hS (lv_sub hl [0, 1, 2, 3, 4] rfl) hw
          · have hw := hw.2 hq
            refine lv_iconst (v := 1) hx hb dM_tick_140 (by decide +kernel) ?_
            refine lv_goto (tgt := 145) hx hb dM_tick_141 (by decide) ?_
            exact k_M_tick_j145 C0 hK45 ih _ _ _ _ _ _ _ _ _ _ _ _ hM hS (lv_sub hl [0, 1, 2, 3, 4] rfl) hw
        · have hw := hw.2 hq
          refine lv_goto (tgt := 227) hx hb dM_tick_109 (by decide) ?_
          exact k_M_tick_j227 C0 hK45 ih _ _ _ _ _ _ _ _ _ hM hS (lv_sub hl [0, 1, 2, 3, 4] rfl) hw
def w_M_tick_j45 (e0 : Nat) (post : Int32 → zM → Prop) : Nat → zM → Nat → Int32 → Int32 → Int32 → Prop
  | 0 => fun _ _ _ _ _ => False
  | n + 1 => fun M l0 l1 l2 l3 => ((l1 ≤ l3) → wGI M l0 4 24 (fun v1 => post (v1 - l2) M)) ∧ (¬ (l1 ≤ l3) → wGI M l0 4 1 (fun v5 => wPF M l0 4 1 (.int (v5 + 1)) (fun M12 => ∃ nn, w_M_tick_j63 e0 post (w_M_tick_j45 e0 post n) nn M12 l0 l1 l2 l3 0)))
set_option maxHeartbeats 4000000 in
set_option maxRecDepth 100000 in
theorem k_M_tick_j45 {p : Program} {l : Launch} {e : Env} {s : State} {m : MethodId} {args : Array Value} {below : List Frame} {meth : Method} {c : Code} {D : va_G} {tc : Nat → ClassId} {A : Nat → Prop} {post : Int32 → zM → Prop} (C0 : zC R_M cM_tick 6 (some .int) "tick" D tc A p l s m args meth c) : ∀ n : Nat, J_M_tick_45 p l e s m args below meth c D tc A (MQ below (va_Qi post (zB D tc A) A) args s 0 0 A) (w_M_tick_j45 (tc 9) post n) := by
  obtain ⟨hx, hb, hml, hr, hown, htb, hlk, hA, hG, hin, hex⟩ := id C0
  have hK := hG.1
  intro n
  induction n with
  | zero => intro M l0 l1 l2 l3 H locs ls hM hS hl hw; exact hw.elim
  | succ n ih =>
    intro M l0 l1 l2 l3 H locs ls hM hS hl hw
    refine lv_iload_n hx hb dM_tick_45 rfl (lv_at hl 3 rfl) ?_
    refine lv_iload_n hx hb dM_tick_46 rfl (lv_at hl 1 rfl) ?_
    refine lv_icmp_ge (tgt := 239) hx hb dM_tick_47 (by decide) (fun hq => ?_) (fun hq => ?_)
    · have hw := hw.1 hq
      refine lv_aload_n hx hb dM_tick_239 rfl (lv_at hl 0 rfl) ?_
      obtain ⟨fs2, v1, h3, ev4, hw⟩ := hw
      refine z_get hx hb htb inw_M hown hK hM h3 rfl 24 (by decide) (htb _ t_675) (fun _ h9 => h9) ev4 dM_tick_240 ?_
      refine lv_iload_n hx hb dM_tick_243 rfl (lv_at hl 2 rfl) ?_
      refine lv_isub hx hb dM_tick_244 ?_
      exact W.iret hx hb hr (fun t ht hW => ⟨⟨_, _, rfl, hw, zB_of ht hM⟩, hS.F ht⟩) hS.2.2 dM_tick_245
    · have hw := hw.2 hq
      refine lv_aload_n hx hb dM_tick_50 rfl (lv_at hl 0 rfl) ?_
      refine lv_dup hx hb dM_tick_51 rfl ?_
      obtain ⟨fs6, v5, h7, ev8, hw⟩ := hw
      refine z_get hx hb htb inw_M hown hK hM h7 rfl 1 (by decide) (htb _ t_652) (fun _ h9 => h9) ev8 dM_tick_52 ?_
      refine lv_iconst (v := 1) hx hb dM_tick_55 (by decide +kernel) ?_
      refine lv_iadd hx hb dM_tick_56 ?_
      obtain ⟨fs9, h10, hl11, hw⟩ := hw
      refine z_put (ty := .int) hx hb htb inw_M ty_M tyok_M nmok_M hown hK hM hS h10 rfl 1 (by decide) (htb _ t_652) (fun _ h9 => h9) rfl (by decide +kernel) rfl rfl hl11 dM_tick_57 (fun H locs hM hS => ?_)
      refine lv_iconst (v := 0) hx hb dM_tick_60 (by decide +kernel) ?_
      refine lv_istore (lv' := [(4, .int 0), (0, .ref l0), (1, .int l1), (2, .int l2), (3, .int l3)]) hx hb dM_tick_61 hl (by decide) rfl (fun ls hl => ?_)
      obtain ⟨nfu, hw⟩ := hw
      exact k_M_tick_j63 C0 ih nfu _ _ _ _ _ _ _ _ _ hM hS (lv_sub hl [1, 2, 3, 4, 0] rfl) hw
def w_M_tick_j28 (e0 : Nat) (post : Int32 → zM → Prop) (M : zM) (l0 : Nat) (l1 : Int32) (s0 : Int32) (s1 : Nat) : Prop := wIs M s1 4 ∧ w_M_goes e0 (fun r2 M1 => ((r2 = 0) → post 0 M1) ∧ (¬ (r2 = 0) → wGI M1 l0 4 24 (fun v3 => ∃ nn, w_M_tick_j45 e0 post nn M1 l0 l1 v3 0))) M s1 s0 1 1
set_option maxHeartbeats 4000000 in
set_option maxRecDepth 100000 in
theorem k_M_tick_j28 {p : Program} {l : Launch} {e : Env} {s : State} {m : MethodId} {args : Array Value} {below : List Frame} {meth : Method} {c : Code} {D : va_G} {tc : Nat → ClassId} {A : Nat → Prop} {post : Int32 → zM → Prop} (C0 : zC R_M cM_tick 6 (some .int) "tick" D tc A p l s m args meth c) : J_M_tick_28 p l e s m args below meth c D tc A (MQ below (va_Qi post (zB D tc A) A) args s 0 0 A) (w_M_tick_j28 (tc 9) post) := by
  obtain ⟨hx, hb, hml, hr, hown, htb, hlk, hA, hG, hin, hex⟩ := id C0
  have hK := hG.1
  intro M l0 l1 s0 s1 H locs ls hM hS hl hw
  refine lv_iconst (v := 1) hx hb dM_tick_28 (by decide +kernel) ?_
  refine lv_iconst (v := 1) hx hb dM_tick_29 (by decide +kernel) ?_
  obtain ⟨⟨fs7, h8⟩, hw⟩ := hw
  refine va_calli (va_runV (As := [.int s0, .int 1, .int 1]) (rest := []) ⟨hx, hb, hml, hown, htb⟩ (k_M_goes (l := l) (D := D) (tc := tc) (A := A) hw) (cw_M_79 htb ⟨Nat.le_of_ble_eq_true rfl, Nat.le_of_ble_eq_true rfl⟩) (z_preV hG hA hS hM h8 rfl) rfl rfl hl.1 rfl (lv_room (Nat.le_of_ble_eq_true rfl)) dM_tick_30 ⟨Nat.le_refl _, Nat.le_refl _⟩) hS (fun _ _ h => h) (fun _ h => h) (fun r2 M1 t H locs ht hvm hw hB _ _ hS => ?_)
  have hM : zP D vwCl tc A M1 H := by rw [← ht]; exact hB
  refine lv_if_ne (tgt := 38) hx hb dM_tick_33 (by decide) (fun hq => ?_) (fun hq => ?_)
  · have hw := hw.2 hq
    refine lv_aload_n hx hb dM_tick_38 rfl (lv_at hl 0 rfl) ?_
    obtain ⟨fs4, v3, h5, ev6, hw⟩ := hw
    refine z_get hx hb htb inw_M hown hK hM h5 rfl 24 (by decide) (htb _ t_675) (fun _ h9 => h9) ev6 dM_tick_39 ?_
    refine lv_istore_n (lv' := [(2, .int v3), (0, .ref l0), (1, .int l1)]) hx hb dM_tick_42 rfl hl (by decide) rfl (fun ls hl => ?_)
    refine lv_iconst (v := 0) hx hb dM_tick_43 (by decide +kernel) ?_
    refine lv_istore_n (lv' := [(3, .int 0), (2, .int v3), (0, .ref l0), (1, .int l1)]) hx hb dM_tick_44 rfl hl (by decide) rfl (fun ls hl => ?_)
    obtain ⟨nfu, hw⟩ := hw
    exact k_M_tick_j45 C0  nfu _ _ _ _ _ _ _ _ hM hS (lv_sub hl [2, 3, 1, 0] rfl) hw
  · have hw := hw.1 hq
    refine lv_iconst (v := 0) hx hb dM_tick_36 (by decide +kernel) ?_
    exact W.iret hx hb hr (fun t ht hW => ⟨⟨_, _, rfl, hw, zB_of ht hM⟩, hS.F ht⟩) hS.2.2 dM_tick_37
def w_M_tick_j27 (e0 : Nat) (post : Int32 → zM → Prop) (M : zM) (l0 : Nat) (l1 : Int32) (s0 : Nat) : Prop := w_M_tick_j28 e0 post M l0 l1 0 s0
set_option maxHeartbeats 4000000 in
set_option maxRecDepth 100000 in
theorem k_M_tick_j27 {p : Program} {l : Launch} {e : Env} {s : State} {m : MethodId} {args : Array Value} {below : List Frame} {meth : Method} {c : Code} {D : va_G} {tc : Nat → ClassId} {A : Nat → Prop} {post : Int32 → zM → Prop} (C0 : zC R_M cM_tick 6 (some .int) "tick" D tc A p l s m args meth c) : J_M_tick_27 p l e s m args below meth c D tc A (MQ below (va_Qi post (zB D tc A) A) args s 0 0 A) (w_M_tick_j27 (tc 9) post) := by
  obtain ⟨hx, hb, hml, hr, hown, htb, hlk, hA, hG, hin, hex⟩ := id C0
  have hK := hG.1
  intro M l0 l1 s0 H locs ls hM hS hl hw
  refine lv_iconst (v := 0) hx hb dM_tick_27 (by decide +kernel) ?_
  exact k_M_tick_j28 C0  _ _ _ _ _ _ _ _ hM hS (lv_sub hl [0, 1] rfl) hw
def w_M_tick (e0 : Nat) (post : Int32 → zM → Prop) (M : zM) (h0 : Nat) (x1 : Int32) : Prop := w_M_in e0 (fun r2 M1 => ((r2 = 0) → w_M_tick_j27 e0 post M1 h0 x1 h0) ∧ (¬ (r2 = 0) → wGI M1 h0 4 1 (fun v3 => (((999999 - v3) < x1) → w_M_tick_j27 e0 post M1 h0 x1 h0) ∧ (¬ ((999999 - v3) < x1) → w_M_tick_j28 e0 post M1 h0 x1 1 h0)))) M x1 1 5000
set_option maxHeartbeats 4000000 in
set_option maxRecDepth 100000 in
theorem k_M_tick {l : Launch} {D : va_G} {tc : Nat → ClassId} {A : Nat → Prop} {post : Int32 → zM → Prop} {M : zM} {h0 : Nat} {x1 : Int32} (hw : w_M_tick (tc 9) post M h0 x1) : Met l yM_tick (.code yM_tick cM_tick 6 (some .int) :: zTB) r_M_tick (va_Pc [.ref h0, .int x1] (zI D tc A M)) (va_Qi post (zB D tc A) A) 0 0 A := by
  refine Met.ofW (cc := cM_tick) (maxL := 6) (ret := (some .int)) (by decide +kernel) rfl ?_
  intro p e s m args below meth c s₁ B hml hv
  obtain ⟨rfl, hA, hM, hG⟩ := hv
  have C0 := zC_of (D := D) (tc := tc) (A := A) B hml (zC_ex B) hA hG
  obtain ⟨hx, hb, hml, hr, hown, htb, hlk, hA, hG, hin, hex⟩ := id C0
  have hK := hG.1
  have hS : va_S A s.heap s.heap [] := va_S.rf
  have hl := lv_entry ([.ref h0, .int x1]) (n := 6) (Nat.le_of_ble_eq_true rfl)
  rw [lg_entry_eq]
  generalize (lg_sl ([.ref h0, .int x1]) ++ List.replicate (6 - (lg_sl ([.ref h0, .int x1])).length) Slot.unset).toArray = ls at hl ⊢
  have hl : lv_has ls 6 [(0, .ref h0), (1, .int x1)] := hl
  refine lv_aload_n hx hb dM_tick_0 rfl (lv_at hl 0 rfl) ?_
  refine lv_iload_n hx hb dM_tick_1 rfl (lv_at hl 1 rfl) ?_
  refine lv_iconst (v := 1) hx hb dM_tick_2 (by decide +kernel) ?_
  refine lv_sipush (v := 5000) hx hb dM_tick_3 (by decide +kernel) ?_
  refine va_calli (va_runS (As := [.int x1, .int 1, .int 5000]) (rest := [.ref h0]) ⟨hx, hb, hml, hown, htb⟩ (k_M_in (l := l) (D := D) (tc := tc) (A := A) hw) (cw_M_69 htb ⟨Nat.le_of_ble_eq_true rfl, Nat.le_of_ble_eq_true rfl⟩) (z_preS hG hA hS hM) rfl rfl hl.1 rfl (lv_room (Nat.le_of_ble_eq_true rfl)) dM_tick_6 ⟨Nat.le_refl _, Nat.le_refl _⟩) hS (fun _ _ h => h) (fun _ h => h) (fun r2 M1 t H locs ht hvm hw hB _ _ hS => ?_)
  have hM : zP D vwCl tc A M1 H := by rw [← ht]; exact hB
  refine lv_if_eq (tgt := 27) hx hb dM_tick_9 (by decide) (fun hq => ?_) (fun hq => ?_)
  · have hw := hw.1 hq
    exact k_M_tick_j27 C0  _ _ _ _ _ _ _ hM hS (lv_sub hl [0, 1] rfl) hw
  · have hw := hw.2 hq
    refine lv_iload_n hx hb dM_tick_12 rfl (lv_at hl 1 rfl) ?_
    refine lv_ldc (v := 999999) hx hb hown (htb _ t_802) dM_tick_13 ?_
    refine lv_aload_n hx hb dM_tick_15 rfl (lv_at hl 0 rfl) ?_
    obtain ⟨fs4, v3, h5, ev6, hw⟩ := hw
    refine z_get hx hb htb inw_M hown hK hM h5 rfl 1 (by decide) (htb _ t_652) (fun _ h9 => h9) ev6 dM_tick_16 ?_
    refine lv_isub hx hb dM_tick_19 ?_
    refine lv_icmp_gt (tgt := 27) hx hb dM_tick_20 (by decide) (fun hq => ?_) (fun hq => ?_)
    · have hw := hw.1 hq
      exact k_M_tick_j27 C0  _ _ _ _ _ _ _ hM hS (lv_sub hl [0, 1] rfl) hw
    · have hw := hw.2 hq
      refine lv_iconst (v := 1) hx hb dM_tick_23 (by decide +kernel) ?_
      refine lv_goto (tgt := 28) hx hb dM_tick_24 (by decide) ?_
      exact k_M_tick_j28 C0  _ _ _ _ _ _ _ _ hM hS (lv_sub hl [0, 1] rfl) hw
abbrev r_M_alarmAt : Room := { frames := 2, cells := 0, slots := 0, locals := 43 }
abbrev J_M_alarmAt_24 (p : Program) (l : Launch) (e : Env) (s : State) (m : MethodId) (args : Array Value) (below : List Frame) (meth : Method) (c : Code) (D : va_G) (tc : Nat → ClassId) (A : Nat → Prop) (Q : State → Prop) (K : zM → Nat → Int32 → Int32 → Int32 → Nat → Prop) : Prop := ∀ (M : zM) (l0 : Nat) (l1 : Int32) (l2 : Int32) (s0 : Int32) (s1 : Nat) (H : Heap) (locs : List Loc) (ls : Array Slot), zP D vwCl tc A M H → va_S A s.heap H locs → lv_has ls 3 [(0, .ref l0), (1, .int l1), (2, .int l2)] → K M l0 l1 l2 s0 s1 → W p l e (r_M_alarmAt) s m args below meth c H locs 0 0 Q (F0 m 24 ls [.int s0, .ref s1])
abbrev J_M_alarmAt_23 (p : Program) (l : Launch) (e : Env) (s : State) (m : MethodId) (args : Array Value) (below : List Frame) (meth : Method) (c : Code) (D : va_G) (tc : Nat → ClassId) (A : Nat → Prop) (Q : State → Prop) (K : zM → Nat → Int32 → Int32 → Nat → Prop) : Prop := ∀ (M : zM) (l0 : Nat) (l1 : Int32) (l2 : Int32) (s0 : Nat) (H : Heap) (locs : List Loc) (ls : Array Slot), zP D vwCl tc A M H → va_S A s.heap H locs → lv_has ls 3 [(0, .ref l0), (1, .int l1), (2, .int l2)] → K M l0 l1 l2 s0 → W p l e (r_M_alarmAt) s m args below meth c H locs 0 0 Q (F0 m 23 ls [.ref s0])
def w_M_alarmAt_j24 (e0 : Nat) (post : Int32 → zM → Prop) (M : zM) (l0 : Nat) (l1 : Int32) (l2 : Int32) (s0 : Int32) (s1 : Nat) : Prop := wIs M s1 4 ∧ w_M_goes e0 (fun r2 M1 => ((r2 = 0) → post 0 M1) ∧ (¬ (r2 = 0) → ((l2 = 0) → wGR M1 l0 4 17 (fun v27 => wLI M1 v27 0 l1 (fun v33 => post v33 M1))) ∧ (¬ (l2 = 0) → ((5 ≤ l2) → ((l2 = 5) → wGR M1 l0 4 16 (fun v13 => wLI M1 v13 0 l1 (fun v19 => post v19 M1))) ∧ (¬ (l2 = 5) → wGR M1 l0 4 15 (fun v3 => wLI M1 v3 0 l1 (fun v9 => post v9 M1)))) ∧ (¬ (5 ≤ l2) → wIs M1 l0 4 ∧ w_M_many e0 (fun r24 M23 => post r24 M23) M1 l0 l1 l2)))) M s1 s0 1 1
set_option maxHeartbeats 4000000 in
set_option maxRecDepth 100000 in
theorem k_M_alarmAt_j24 {p : Program} {l : Launch} {e : Env} {s : State} {m : MethodId} {args : Array Value} {below : List Frame} {meth : Method} {c : Code} {D : va_G} {tc : Nat → ClassId} {A : Nat → Prop} {post : Int32 → zM → Prop} (C0 : zC R_M cM_alarmAt 3 (some .int) "alarmAt" D tc A p l s m args meth c) : J_M_alarmAt_24 p l e s m args below meth c D tc A (MQ below (va_Qi post (zB D tc A) A) args s 0 0 A) (w_M_alarmAt_j24 (tc 9) post) := by
  obtain ⟨hx, hb, hml, hr, hown, htb, hlk, hA, hG, hin, hex⟩ := id C0
  have hK := hG.1
  intro M l0 l1 l2 s0 s1 H locs ls hM hS hl hw
  refine lv_iconst (v := 1) hx hb dM_alarmAt_24 (by decide +kernel) ?_
  refine lv_iconst (v := 1) hx hb dM_alarmAt_25 (by decide +kernel) ?_
  obtain ⟨⟨fs37, h38⟩, hw⟩ := hw
  refine va_calli (va_runV (As := [.int s0, .int 1, .int 1]) (rest := []) ⟨hx, hb, hml, hown, htb⟩ (k_M_goes (l := l) (D := D) (tc := tc) (A := A) hw) (cw_M_79 htb ⟨Nat.le_of_ble_eq_true rfl, Nat.le_of_ble_eq_true rfl⟩) (z_preV hG hA hS hM h38 rfl) rfl rfl hl.1 rfl (lv_room (Nat.le_of_ble_eq_true rfl)) dM_alarmAt_26 ⟨Nat.le_refl _, Nat.le_refl _⟩) hS (fun _ _ h => h) (fun _ h => h) (fun r2 M1 t H locs ht hvm hw hB _ _ hS => ?_)
  have hM : zP D vwCl tc A M1 H := by rw [← ht]; exact hB
  refine lv_if_ne (tgt := 34) hx hb dM_alarmAt_29 (by decide) (fun hq => ?_) (fun hq => ?_)
  · have hw := hw.2 hq
    refine lv_iload_n hx hb dM_alarmAt_34 rfl (lv_at hl 2 rfl) ?_
    refine lv_if_ne (tgt := 47) hx hb dM_alarmAt_35 (by decide) (fun hq => ?_) (fun hq => ?_)
    · have hw := hw.2 hq
      refine lv_iload_n hx hb dM_alarmAt_47 rfl (lv_at hl 2 rfl) ?_
      refine lv_iconst (v := 5) hx hb dM_alarmAt_48 (by decide +kernel) ?_
      refine lv_icmp_ge (tgt := 61) hx hb dM_alarmAt_49 (by decide) (fun hq => ?_) (fun hq => ?_)
      · have hw := hw.1 hq
        refine lv_iload_n hx hb dM_alarmAt_61 rfl (lv_at hl 2 rfl) ?_
        refine lv_iconst (v := 5) hx hb dM_alarmAt_62 (by decide +kernel) ?_
        refine lv_icmp_ne (tgt := 75) hx hb dM_alarmAt_63 (by decide) (fun hq => ?_) (fun hq => ?_)
        · have hw := hw.2 hq
          refine lv_aload_n hx hb dM_alarmAt_75 rfl (lv_at hl 0 rfl) ?_
          obtain ⟨fs4, v3, h5, ev6, hw⟩ := hw
          refine z_get hx hb htb inw_M hown hK hM h5 rfl 15 (by decide) (htb _ t_666) (fun _ h9 => h9) ev6 dM_alarmAt_76 ?_
          refine lv_iload_n hx hb dM_alarmAt_79 rfl (lv_at hl 1 rfl) ?_
          obtain ⟨n7, f8, v9, h10, hi11, ev12, hw⟩ := hw
          refine z_iald hx hb hK hM 0 0 h10 rfl hi11 ev12 dM_alarmAt_80 ?_
          exact W.iret hx hb hr (fun t ht hW => ⟨⟨_, _, rfl, hw, zB_of ht hM⟩, hS.F ht⟩) hS.2.2 dM_alarmAt_81
        · have hw := hw.1 hq
          refine lv_aload_n hx hb dM_alarmAt_66 rfl (lv_at hl 0 rfl) ?_
          obtain ⟨fs14, v13, h15, ev16, hw⟩ := hw
          refine z_get hx hb htb inw_M hown hK hM h15 rfl 16 (by decide) (htb _ t_667) (fun _ h9 => h9) ev16 dM_alarmAt_67 ?_
          refine lv_iload_n hx hb dM_alarmAt_70 rfl (lv_at hl 1 rfl) ?_
          obtain ⟨n17, f18, v19, h20, hi21, ev22, hw⟩ := hw
          refine z_iald hx hb hK hM 0 0 h20 rfl hi21 ev22 dM_alarmAt_71 ?_
          refine lv_goto (tgt := 81) hx hb dM_alarmAt_72 (by decide) ?_
          exact W.iret hx hb hr (fun t ht hW => ⟨⟨_, _, rfl, hw, zB_of ht hM⟩, hS.F ht⟩) hS.2.2 dM_alarmAt_81
      · have hw := hw.2 hq
        refine lv_aload_n hx hb dM_alarmAt_52 rfl (lv_at hl 0 rfl) ?_
        refine lv_iload_n hx hb dM_alarmAt_53 rfl (lv_at hl 1 rfl) ?_
        refine lv_iload_n hx hb dM_alarmAt_54 rfl (lv_at hl 2 rfl) ?_
        obtain ⟨⟨fs25, h26⟩, hw⟩ := hw
        refine va_calli (va_runV (As := [.int l1, .int l2]) (rest := []) ⟨hx, hb, hml, hown, htb⟩ (k_M_many (l := l) (D := D) (tc := tc) (A := A) hw) (cw_M_125 htb ⟨Nat.le_of_ble_eq_true rfl, Nat.le_of_ble_eq_true rfl⟩) (z_preV hG hA hS hM h26 rfl) rfl rfl hl.1 rfl (lv_room (Nat.le_of_ble_eq_true rfl)) dM_alarmAt_55 ⟨Nat.le_refl _, Nat.le_refl _⟩) hS (fun _ _ h => h) (fun _ h => h) (fun r24 M23 t H locs ht hvm hw hB _ _ hS => ?_)
        have hM : zP D vwCl tc A M23 H := by rw [← ht]; exact hB
        refine lv_goto (tgt := 81) hx hb dM_alarmAt_58 (by decide) ?_
        exact W.iret hx hb hr (fun t ht hW => ⟨⟨_, _, rfl, hw, zB_of ht hM⟩, hS.F ht⟩) hS.2.2 dM_alarmAt_81
    · have hw := hw.1 hq
      refine lv_aload_n hx hb dM_alarmAt_38 rfl (lv_at hl 0 rfl) ?_
      obtain ⟨fs28, v27, h29, ev30, hw⟩ := hw
      refine z_get hx hb htb inw_M hown hK hM h29 rfl 17 (by decide) (htb _ t_668) (fun _ h9 => h9) ev30 dM_alarmAt_39 ?_
      refine lv_iload_n hx hb dM_alarmAt_42 rfl (lv_at hl 1 rfl) ?_
      obtain ⟨n31, f32, v33, h34, hi35, ev36, hw⟩ := hw
      refine z_iald hx hb hK hM 0 0 h34 rfl hi35 ev36 dM_alarmAt_43 ?_
      refine lv_goto (tgt := 81) hx hb dM_alarmAt_44 (by decide) ?_
      exact W.iret hx hb hr (fun t ht hW => ⟨⟨_, _, rfl, hw, zB_of ht hM⟩, hS.F ht⟩) hS.2.2 dM_alarmAt_81
  · have hw := hw.1 hq
    refine lv_iconst (v := 0) hx hb dM_alarmAt_32 (by decide +kernel) ?_
    exact W.iret hx hb hr (fun t ht hW => ⟨⟨_, _, rfl, hw, zB_of ht hM⟩, hS.F ht⟩) hS.2.2 dM_alarmAt_33
def w_M_alarmAt_j23 (e0 : Nat) (post : Int32 → zM → Prop) (M : zM) (l0 : Nat) (l1 : Int32) (l2 : Int32) (s0 : Nat) : Prop := w_M_alarmAt_j24 e0 post M l0 l1 l2 0 s0
set_option maxHeartbeats 4000000 in
set_option maxRecDepth 100000 in
theorem k_M_alarmAt_j23 {p : Program} {l : Launch} {e : Env} {s : State} {m : MethodId} {args : Array Value} {below : List Frame} {meth : Method} {c : Code} {D : va_G} {tc : Nat → ClassId} {A : Nat → Prop} {post : Int32 → zM → Prop} (C0 : zC R_M cM_alarmAt 3 (some .int) "alarmAt" D tc A p l s m args meth c) : J_M_alarmAt_23 p l e s m args below meth c D tc A (MQ below (va_Qi post (zB D tc A) A) args s 0 0 A) (w_M_alarmAt_j23 (tc 9) post) := by
  obtain ⟨hx, hb, hml, hr, hown, htb, hlk, hA, hG, hin, hex⟩ := id C0
  have hK := hG.1
  intro M l0 l1 l2 s0 H locs ls hM hS hl hw
  refine lv_iconst (v := 0) hx hb dM_alarmAt_23 (by decide +kernel) ?_
  exact k_M_alarmAt_j24 C0  _ _ _ _ _ _ _ _ _ hM hS (lv_sub hl [0, 1, 2] rfl) hw
def w_M_alarmAt (e0 : Nat) (post : Int32 → zM → Prop) (M : zM) (h0 : Nat) (x1 : Int32) (x2 : Int32) : Prop := wIs M h0 4 ∧ w_M_isAlarm e0 (fun r2 M1 => ((r2 = 0) → w_M_alarmAt_j23 e0 post M1 h0 x1 x2 h0) ∧ (¬ (r2 = 0) → w_M_in e0 (fun r4 M3 => ((r4 = 0) → w_M_alarmAt_j23 e0 post M3 h0 x1 x2 h0) ∧ (¬ (r4 = 0) → w_M_alarmAt_j24 e0 post M3 h0 x1 x2 1 h0)) M1 x2 0 6)) M h0 x1
set_option maxHeartbeats 4000000 in
set_option maxRecDepth 100000 in
theorem k_M_alarmAt {l : Launch} {D : va_G} {tc : Nat → ClassId} {A : Nat → Prop} {post : Int32 → zM → Prop} {M : zM} {h0 : Nat} {x1 : Int32} {x2 : Int32} (hw : w_M_alarmAt (tc 9) post M h0 x1 x2) : Met l yM_alarmAt (.code yM_alarmAt cM_alarmAt 3 (some .int) :: zTB) r_M_alarmAt (va_Pc [.ref h0, .int x1, .int x2] (zI D tc A M)) (va_Qi post (zB D tc A) A) 0 0 A := by
  refine Met.ofW (cc := cM_alarmAt) (maxL := 3) (ret := (some .int)) (by decide +kernel) rfl ?_
  intro p e s m args below meth c s₁ B hml hv
  obtain ⟨rfl, hA, hM, hG⟩ := hv
  have C0 := zC_of (D := D) (tc := tc) (A := A) B hml (zC_ex B) hA hG
  obtain ⟨hx, hb, hml, hr, hown, htb, hlk, hA, hG, hin, hex⟩ := id C0
  have hK := hG.1
  have hS : va_S A s.heap s.heap [] := va_S.rf
  have hl := lv_entry ([.ref h0, .int x1, .int x2]) (n := 3) (Nat.le_of_ble_eq_true rfl)
  rw [lg_entry_eq]
  generalize (lg_sl ([.ref h0, .int x1, .int x2]) ++ List.replicate (3 - (lg_sl ([.ref h0, .int x1, .int x2])).length) Slot.unset).toArray = ls at hl ⊢
  have hl : lv_has ls 3 [(0, .ref h0), (1, .int x1), (2, .int x2)] := hl
  refine lv_aload_n hx hb dM_alarmAt_0 rfl (lv_at hl 0 rfl) ?_
  refine lv_aload_n hx hb dM_alarmAt_1 rfl (lv_at hl 0 rfl) ?_
  refine lv_iload_n hx hb dM_alarmAt_2 rfl (lv_at hl 1 rfl) ?_
  obtain ⟨⟨fs5, h6⟩, hw⟩ := hw
  refine va_calli (va_runV (As := [.int x1]) (rest := [.ref h0]) ⟨hx, hb, hml, hown, htb⟩ (k_M_isAlarm (l := l) (D := D) (tc := tc) (A := A) hw) (cw_M_109 htb ⟨Nat.le_of_ble_eq_true rfl, Nat.le_of_ble_eq_true rfl⟩) (z_preV hG hA hS hM h6 rfl) rfl rfl hl.1 rfl (lv_room (Nat.le_of_ble_eq_true rfl)) dM_alarmAt_3 ⟨Nat.le_refl _, Nat.le_refl _⟩) hS (fun _ _ h => h) (fun _ h => h) (fun r2 M1 t H locs ht hvm hw hB _ _ hS => ?_)
  have hM : zP D vwCl tc A M1 H := by rw [← ht]; exact hB
  refine lv_if_eq (tgt := 23) hx hb dM_alarmAt_6 (by decide) (fun hq => ?_) (fun hq => ?_)
  · have hw := hw.1 hq
    exact k_M_alarmAt_j23 C0  _ _ _ _ _ _ _ _ hM hS (lv_sub hl [0, 1, 2] rfl) hw
  · have hw := hw.2 hq
    refine lv_iload_n hx hb dM_alarmAt_9 rfl (lv_at hl 2 rfl) ?_
    refine lv_iconst (v := 0) hx hb dM_alarmAt_10 (by decide +kernel) ?_
    refine lv_bipush (v := 6) hx hb dM_alarmAt_11 (by decide +kernel) ?_
    refine va_calli (va_runS (As := [.int x2, .int 0, .int 6]) (rest := [.ref h0]) ⟨hx, hb, hml, hown, htb⟩ (k_M_in (l := l) (D := D) (tc := tc) (A := A) hw) (cw_M_69 htb ⟨Nat.le_of_ble_eq_true rfl, Nat.le_of_ble_eq_true rfl⟩) (z_preS hG hA hS hM) rfl rfl hl.1 rfl (lv_room (Nat.le_of_ble_eq_true rfl)) dM_alarmAt_13 ⟨Nat.le_refl _, Nat.le_refl _⟩) hS (fun _ _ h => h) (fun _ h => h) (fun r4 M3 t H locs ht hvm hw hB _ _ hS => ?_)
    have hM : zP D vwCl tc A M3 H := by rw [← ht]; exact hB
    refine lv_if_eq (tgt := 23) hx hb dM_alarmAt_16 (by decide) (fun hq => ?_) (fun hq => ?_)
    · have hw := hw.1 hq
      exact k_M_alarmAt_j23 C0  _ _ _ _ _ _ _ _ hM hS (lv_sub hl [0, 1, 2] rfl) hw
    · have hw := hw.2 hq
      refine lv_iconst (v := 1) hx hb dM_alarmAt_19 (by decide +kernel) ?_
      refine lv_goto (tgt := 24) hx hb dM_alarmAt_20 (by decide) ?_
      exact k_M_alarmAt_j24 C0  _ _ _ _ _ _ _ _ _ hM hS (lv_sub hl [0, 1, 2] rfl) hw
abbrev r_M_comes : Room := { frames := 2, cells := 0, slots := 0, locals := 43 }
abbrev J_M_comes_124 (p : Program) (l : Launch) (e : Env) (s : State) (m : MethodId) (args : Array Value) (below : List Frame) (meth : Method) (c : Code) (D : va_G) (tc : Nat → ClassId) (A : Nat → Prop) (Q : State → Prop) (K : zM → Nat → Int32 → Int32 → Int32 → Int32 → Int32 → Int32 → Prop) : Prop := ∀ (M : zM) (l0 : Nat) (l1 : Int32) (l2 : Int32) (l3 : Int32) (l4 : Int32) (l5 : Int32) (l6 : Int32) (H : Heap) (locs : List Loc) (ls : Array Slot), zP D vwCl tc A M H → va_S A s.heap H locs → lv_has ls 9 [(0, .ref l0), (1, .int l1), (2, .int l2), (3, .int l3), (4, .int l4), (5, .int l5), (6, .int l6)] → K M l0 l1 l2 l3 l4 l5 l6 → W p l e (r_M_comes) s m args below meth c H locs 0 0 Q (F0 m 124 ls [])
abbrev J_M_comes_120 (p : Program) (l : Launch) (e : Env) (s : State) (m : MethodId) (args : Array Value) (below : List Frame) (meth : Method) (c : Code) (D : va_G) (tc : Nat → ClassId) (A : Nat → Prop) (Q : State → Prop) (K : zM → Nat → Int32 → Int32 → Int32 → Int32 → Int32 → Int32 → Prop) : Prop := ∀ (M : zM) (l0 : Nat) (l1 : Int32) (l2 : Int32) (l3 : Int32) (l4 : Int32) (l6 : Int32) (l8 : Int32) (H : Heap) (locs : List Loc) (ls : Array Slot), zP D vwCl tc A M H → va_S A s.heap H locs → lv_has ls 9 [(0, .ref l0), (1, .int l1), (2, .int l2), (3, .int l3), (4, .int l4), (6, .int l6), (8, .int l8)] → K M l0 l1 l2 l3 l4 l6 l8 → W p l e (r_M_comes) s m args below meth c H locs 0 0 Q (F0 m 120 ls [])
abbrev J_M_comes_81 (p : Program) (l : Launch) (e : Env) (s : State) (m : MethodId) (args : Array Value) (below : List Frame) (meth : Method) (c : Code) (D : va_G) (tc : Nat → ClassId) (A : Nat → Prop) (Q : State → Prop) (K : zM → Nat → Int32 → Int32 → Int32 → Int32 → Int32 → Int32 → Int32 → Prop) : Prop := ∀ (M : zM) (l0 : Nat) (l1 : Int32) (l2 : Int32) (l3 : Int32) (l4 : Int32) (l5 : Int32) (l6 : Int32) (s0 : Int32) (H : Heap) (locs : List Loc) (ls : Array Slot), zP D vwCl tc A M H → va_S A s.heap H locs → lv_has ls 9 [(0, .ref l0), (1, .int l1), (2, .int l2), (3, .int l3), (4, .int l4), (5, .int l5), (6, .int l6)] → K M l0 l1 l2 l3 l4 l5 l6 s0 → W p l e (r_M_comes) s m args below meth c H locs 0 0 Q (F0 m 81 ls [.int s0])
abbrev J_M_comes_41 (p : Program) (l : Launch) (e : Env) (s : State) (m : MethodId) (args : Array Value) (below : List Frame) (meth : Method) (c : Code) (D : va_G) (tc : Nat → ClassId) (A : Nat → Prop) (Q : State → Prop) (K : zM → Nat → Int32 → Int32 → Int32 → Int32 → Int32 → Int32 → Prop) : Prop := ∀ (M : zM) (l0 : Nat) (l1 : Int32) (l2 : Int32) (l3 : Int32) (l4 : Int32) (l5 : Int32) (l6 : Int32) (H : Heap) (locs : List Loc) (ls : Array Slot), zP D vwCl tc A M H → va_S A s.heap H locs → lv_has ls 9 [(0, .ref l0), (1, .int l1), (2, .int l2), (3, .int l3), (4, .int l4), (5, .int l5), (6, .int l6)] → K M l0 l1 l2 l3 l4 l5 l6 → W p l e (r_M_comes) s m args below meth c H locs 0 0 Q (F0 m 41 ls [])
abbrev J_M_comes_29 (p : Program) (l : Launch) (e : Env) (s : State) (m : MethodId) (args : Array Value) (below : List Frame) (meth : Method) (c : Code) (D : va_G) (tc : Nat → ClassId) (A : Nat → Prop) (Q : State → Prop) (K : zM → Nat → Int32 → Int32 → Int32 → Int32 → Prop) : Prop := ∀ (M : zM) (l0 : Nat) (l1 : Int32) (l2 : Int32) (l3 : Int32) (l4 : Int32) (H : Heap) (locs : List Loc) (ls : Array Slot), zP D vwCl tc A M H → va_S A s.heap H locs → lv_has ls 9 [(0, .ref l0), (1, .int l1), (2, .int l2), (3, .int l3), (4, .int l4)] → K M l0 l1 l2 l3 l4 → W p l e (r_M_comes) s m args below meth c H locs 0 0 Q (F0 m 29 ls [])
abbrev J_M_comes_15 (p : Program) (l : Launch) (e : Env) (s : State) (m : MethodId) (args : Array Value) (below : List Frame) (meth : Method) (c : Code) (D : va_G) (tc : Nat → ClassId) (A : Nat → Prop) (Q : State → Prop) (K : zM → Nat → Int32 → Int32 → Int32 → Int32 → Nat → Prop) : Prop := ∀ (M : zM) (l0 : Nat) (l1 : Int32) (l2 : Int32) (s0 : Int32) (s1 : Int32) (s2 : Nat) (H : Heap) (locs : List Loc) (ls : Array Slot), zP D vwCl tc A M H → va_S A s.heap H locs → lv_has ls 9 [(0, .ref l0), (1, .int l1), (2, .int l2)] → K M l0 l1 l2 s0 s1 s2 → W p l e (r_M_comes) s m args below meth c H locs 0 0 Q (F0 m 15 ls [.int s0, .int s1, .ref s2])
def w_M_comes_j124 (e0 : Nat) (post : Int32 → zM → Prop) (K29 : zM → Nat → Int32 → Int32 → Int32 → Int32 → Prop) (K41 : zM → Nat → Int32 → Int32 → Int32 → Int32 → Int32 → Int32 → Prop) (M : zM) (l0 : Nat) (l1 : Int32) (l2 : Int32) (l3 : Int32) (l4 : Int32) (l5 : Int32) (l6 : Int32) : Prop := K41 M l0 l1 l2 l3 l4 l5 (l6 + 1)
set_option maxHeartbeats 4000000 in
set_option maxRecDepth 100000 in
theorem k_M_comes_j124 {p : Program} {l : Launch} {e : Env} {s : State} {m : MethodId} {args : Array Value} {below : List Frame} {meth : Method} {c : Code} {D : va_G} {tc : Nat → ClassId} {A : Nat → Prop} {post : Int32 → zM → Prop} (C0 : zC R_M cM_comes 9 (some .int) "comes" D tc A p l s m args meth c) {K29 : zM → Nat → Int32 → Int32 → Int32 → Int32 → Prop} (hK29 : J_M_comes_29 p l e s m args below meth c D tc A (MQ below (va_Qi post (zB D tc A) A) args s 0 0 A) K29) {K41 : zM → Nat → Int32 → Int32 → Int32 → Int32 → Int32 → Int32 → Prop} (hK41 : J_M_comes_41 p l e s m args below meth c D tc A (MQ below (va_Qi post (zB D tc A) A) args s 0 0 A) K41) : J_M_comes_124 p l e s m args below meth c D tc A (MQ below (va_Qi post (zB D tc A) A) args s 0 0 A) (w_M_comes_j124 (tc 9) post K29 K41) := by
  obtain ⟨hx, hb, hml, hr, hown, htb, hlk, hA, hG, hin, hex⟩ := id C0
  have hK := hG.1
  intro M l0 l1 l2 l3 l4 l5 l6 H locs ls hM hS hl hw
  refine lv_iinc (v := (l6 + 1)) (lv' := [(6, .int (l6 + 1)), (0, .ref l0), (1, .int l1), (2, .int l2), (3, .int l3), (4, .int l4), (5, .int l5)]) hx hb dM_comes_124 hl (k := 6) rfl rfl (by decide) rfl (fun ls hl => ?_)
  refine lv_goto (tgt := 41) hx hb dM_comes_127 (by decide) ?_
  exact hK41 _ _ _ _ _ _ _ _ _ _ _ hM hS (lv_sub hl [1, 2, 3, 4, 5, 6, 0] rfl) hw
def w_M_comes_j120 (e0 : Nat) (post : Int32 → zM → Prop) (K29 : zM → Nat → Int32 → Int32 → Int32 → Int32 → Prop) (K41 : zM → Nat → Int32 → Int32 → Int32 → Int32 → Int32 → Int32 → Prop) (M : zM) (l0 : Nat) (l1 : Int32) (l2 : Int32) (l3 : Int32) (l4 : Int32) (l6 : Int32) (l8 : Int32) : Prop := w_M_comes_j124 e0 post K29 K41 M l0 l1 l2 l3 l4 l8 l6
set_option maxHeartbeats 4000000 in
set_option maxRecDepth 100000 in
theorem k_M_comes_j120 {p : Program} {l : Launch} {e : Env} {s : State} {m : MethodId} {args : Array Value} {below : List Frame} {meth : Method} {c : Code} {D : va_G} {tc : Nat → ClassId} {A : Nat → Prop} {post : Int32 → zM → Prop} (C0 : zC R_M cM_comes 9 (some .int) "comes" D tc A p l s m args meth c) {K29 : zM → Nat → Int32 → Int32 → Int32 → Int32 → Prop} (hK29 : J_M_comes_29 p l e s m args below meth c D tc A (MQ below (va_Qi post (zB D tc A) A) args s 0 0 A) K29) {K41 : zM → Nat → Int32 → Int32 → Int32 → Int32 → Int32 → Int32 → Prop} (hK41 : J_M_comes_41 p l e s m args below meth c D tc A (MQ below (va_Qi post (zB D tc A) A) args s 0 0 A) K41) : J_M_comes_120 p l e s m args below meth c D tc A (MQ below (va_Qi post (zB D tc A) A) args s 0 0 A) (w_M_comes_j120 (tc 9) post K29 K41) := by
  obtain ⟨hx, hb, hml, hr, hown, htb, hlk, hA, hG, hin, hex⟩ := id C0
  have hK := hG.1
  intro M l0 l1 l2 l3 l4 l6 l8 H locs ls hM hS hl hw
  refine lv_iload hx hb dM_comes_120 (lv_at hl 6 rfl) ?_
  refine lv_istore (lv' := [(5, .int l8), (0, .ref l0), (1, .int l1), (2, .int l2), (3, .int l3), (4, .int l4), (6, .int l6), (8, .int l8)]) hx hb dM_comes_122 hl (by decide) rfl (fun ls hl => ?_)
  exact k_M_comes_j124 C0 hK29 hK41 _ _ _ _ _ _ _ _ _ _ _ hM hS (lv_sub hl [1, 2, 3, 4, 5, 0, 6] rfl) hw
def w_M_comes_j81 (e0 : Nat) (post : Int32 → zM → Prop) (K29 : zM → Nat → Int32 → Int32 → Int32 → Int32 → Prop) (K41 : zM → Nat → Int32 → Int32 → Int32 → Int32 → Int32 → Int32 → Prop) (M : zM) (l0 : Nat) (l1 : Int32) (l2 : Int32) (l3 : Int32) (l4 : Int32) (l5 : Int32) (l6 : Int32) (s0 : Int32) : Prop := ((0 ≤ s0) → ((((1000 * s0) + l6) ≤ l3) → w_M_comes_j124 e0 post K29 K41 M l0 l1 l2 l3 l4 l5 l6) ∧ (¬ (((1000 * s0) + l6) ≤ l3) → ((l5 < 0) → w_M_comes_j120 e0 post K29 K41 M l0 l1 l2 l3 l4 l6 ((1000 * s0) + l6)) ∧ (¬ (l5 < 0) → ((l5 ≤ ((1000 * s0) + l6)) → w_M_comes_j124 e0 post K29 K41 M l0 l1 l2 l3 l4 l5 l6) ∧ (¬ (l5 ≤ ((1000 * s0) + l6)) → w_M_comes_j120 e0 post K29 K41 M l0 l1 l2 l3 l4 l6 ((1000 * s0) + l6))))) ∧ (¬ (0 ≤ s0) → w_M_comes_j124 e0 post K29 K41 M l0 l1 l2 l3 l4 l5 l6)
set_option maxHeartbeats 4000000 in
set_option maxRecDepth 100000 in
theorem k_M_comes_j81 {p : Program} {l : Launch} {e : Env} {s : State} {m : MethodId} {args : Array Value} {below : List Frame} {meth : Method} {c : Code} {D : va_G} {tc : Nat → ClassId} {A : Nat → Prop} {post : Int32 → zM → Prop} (C0 : zC R_M cM_comes 9 (some .int) "comes" D tc A p l s m args meth c) {K29 : zM → Nat → Int32 → Int32 → Int32 → Int32 → Prop} (hK29 : J_M_comes_29 p l e s m args below meth c D tc A (MQ below (va_Qi post (zB D tc A) A) args s 0 0 A) K29) {K41 : zM → Nat → Int32 → Int32 → Int32 → Int32 → Int32 → Int32 → Prop} (hK41 : J_M_comes_41 p l e s m args below meth c D tc A (MQ below (va_Qi post (zB D tc A) A) args s 0 0 A) K41) : J_M_comes_81 p l e s m args below meth c D tc A (MQ below (va_Qi post (zB D tc A) A) args s 0 0 A) (w_M_comes_j81 (tc 9) post K29 K41) := by
  obtain ⟨hx, hb, hml, hr, hown, htb, hlk, hA, hG, hin, hex⟩ := id C0
  have hK := hG.1
  intro M l0 l1 l2 l3 l4 l5 l6 s0 H locs ls hM hS hl hw
  refine lv_istore (lv' := [(7, .int s0), (0, .ref l0), (1, .int l1), (2, .int l2), (3, .int l3), (4, .int l4), (5, .int l5), (6, .int l6)]) hx hb dM_comes_81 hl (by decide) rfl (fun ls hl => ?_)
  refine lv_iload hx hb dM_comes_83 (lv_at hl 0 rfl) ?_
  refine lv_if_ge (tgt := 91) hx hb dM_comes_85 (by decide) (fun hq => ?_) (fun hq => ?_)
  · have hw := hw.1 hq
    refine lv_sipush (v := 1000) hx hb dM_comes_91 (by decide +kernel) ?_
    refine lv_iload hx hb dM_comes_94 (lv_at hl 0 rfl) ?_
    refine lv_imul hx hb dM_comes_96 ?_
    refine lv_iload hx hb dM_comes_97 (lv_at hl 7 rfl) ?_
    refine lv_iadd hx hb dM_comes_99 ?_
    refine lv_istore (lv' := [(8, .int ((1000 * s0) + l6)), (7, .int s0), (0, .ref l0), (1, .int l1), (2, .int l2), (3, .int l3), (4, .int l4), (5, .int l5), (6, .int l6)]) hx hb dM_comes_100 hl (by decide) rfl (fun ls hl => ?_)
    refine lv_iload hx hb dM_comes_102 (lv_at hl 0 rfl) ?_
    refine lv_iload_n hx hb dM_comes_104 rfl (lv_at hl 5 rfl) ?_
    refine lv_icmp_le (tgt := 124) hx hb dM_comes_105 (by decide) (fun hq => ?_) (fun hq => ?_)
    · have hw := hw.1 hq
      exact k_M_comes_j124 C0 hK29 hK41 _ _ _ _ _ _ _ _ _ _ _ hM hS (lv_sub hl [2, 3, 4, 5, 6, 7, 8] rfl) hw
    · have hw := hw.2 hq
      refine lv_iload hx hb dM_comes_108 (lv_at hl 7 rfl) ?_
      refine lv_if_lt (tgt := 120) hx hb dM_comes_110 (by decide) (fun hq => ?_) (fun hq => ?_)
      · have hw := hw.1 hq
        exact k_M_comes_j120 C0 hK29 hK41 _ _ _ _ _ _ _ _ _ _ _ hM hS (lv_sub hl [2, 3, 4, 5, 6, 8, 0] rfl) hw
      · have hw := hw.2 hq
        refine lv_iload hx hb dM_comes_113 (lv_at hl 0 rfl) ?_
        refine lv_iload hx hb dM_comes_115 (lv_at hl 7 rfl) ?_
        refine lv_icmp_ge (tgt := 124) hx hb dM_comes_117 (by decide) (fun hq => ?_) (fun hq => ?_)
        · have hw := hw.1 hq
          exact k_M_comes_j124 C0 hK29 hK41 _ _ _ _ _ _ _ _ _ _ _ hM hS (lv_sub hl [2, 3, 4, 5, 6, 7, 8] rfl) hw
        · have hw := hw.2 hq
          exact k_M_comes_j120 C0 hK29 hK41 _ _ _ _ _ _ _ _ _ _ _ hM hS (lv_sub hl [2, 3, 4, 5, 6, 8, 0] rfl) hw
  · have hw := hw.2 hq
    refine lv_goto (tgt := 124) hx hb dM_comes_88 (by decide) ?_
    exact k_M_comes_j124 C0 hK29 hK41 _ _ _ _ _ _ _ _ _ _ _ hM hS (lv_sub hl [1, 2, 3, 4, 5, 6, 7] rfl) hw
def w_M_comes_j41 (e0 : Nat) (post : Int32 → zM → Prop) (K29 : zM → Nat → Int32 → Int32 → Int32 → Int32 → Prop) : Nat → zM → Nat → Int32 → Int32 → Int32 → Int32 → Int32 → Int32 → Prop
  | 0 => fun _ _ _ _ _ _ _ _ => False
  | n + 1 => fun M l0 l1 l2 l3 l4 l5 l6 => wGI M l0 4 6 (fun v1 => ((v1 ≤ l6) → ((0 ≤ l5) → K29 M l0 l1 l2 l5 (l4 + 1)) ∧ (¬ (0 ≤ l5) → post (-1) M)) ∧ (¬ (v1 ≤ l6) → wGR M l0 4 18 (fun v5 => wLI M v5 1 ((l1 * 60) + l6) (fun v11 => ((v11 = 0) → w_M_comes_j81 e0 post K29 (w_M_comes_j41 e0 post K29 n) M l0 l1 l2 l3 l4 l5 l6 (-1)) ∧ (¬ (v11 = 0) → wGR M l0 4 21 (fun v15 => wLI M v15 0 ((l1 * 60) + l6) (fun v21 => w_M_comes_j81 e0 post K29 (w_M_comes_j41 e0 post K29 n) M l0 l1 l2 l3 l4 l5 l6 v21)))))))
set_option maxHeartbeats 4000000 in
set_option maxRecDepth 100000 in
theorem k_M_comes_j41 {p : Program} {l : Launch} {e : Env} {s : State} {m : MethodId} {args : Array Value} {below : List Frame} {meth : Method} {c : Code} {D : va_G} {tc : Nat → ClassId} {A : Nat → Prop} {post : Int32 → zM → Prop} (C0 : zC R_M cM_comes 9 (some .int) "comes" D tc A p l s m args meth c) {K29 : zM → Nat → Int32 → Int32 → Int32 → Int32 → Prop} (hK29 : J_M_comes_29 p l e s m args below meth c D tc A (MQ below (va_Qi post (zB D tc A) A) args s 0 0 A) K29) : ∀ n : Nat, J_M_comes_41 p l e s m args below meth c D tc A (MQ below (va_Qi post (zB D tc A) A) args s 0 0 A) (w_M_comes_j41 (tc 9) post K29 n) := by
  obtain ⟨hx, hb, hml, hr, hown, htb, hlk, hA, hG, hin, hex⟩ := id C0
  have hK := hG.1
  intro n
  induction n with
  | zero => intro M l0 l1 l2 l3 l4 l5 l6 H locs ls hM hS hl hw; exact hw.elim
  | succ n ih =>
    intro M l0 l1 l2 l3 l4 l5 l6 H locs ls hM hS hl hw
    refine lv_iload hx hb dM_comes_41 (lv_at hl 6 rfl) ?_
    refine lv_aload_n hx hb dM_comes_43 rfl (lv_at hl 0 rfl) ?_
    obtain ⟨fs2, v1, h3, ev4, hw⟩ := hw
    refine z_get hx hb htb inw_M hown hK hM h3 rfl 6 (by decide) (htb _ t_657) (fun _ h9 => h9) ev4 dM_comes_44 ?_
    refine lv_icmp_ge (tgt := 130) hx hb dM_comes_47 (by decide) (fun hq => ?_) (fun hq => ?_)
    · have hw := hw.1 hq
      refine lv_iload hx hb dM_comes_130 (lv_at hl 5 rfl) ?_
      refine lv_if_ge (tgt := 137) hx hb dM_comes_132 (by decide) (fun hq => ?_) (fun hq => ?_)
      · have hw := hw.1 hq
        refine lv_iload hx hb dM_comes_137 (lv_at hl 5 rfl) ?_
        refine lv_istore_n (lv' := [(3, .int l5), (0, .ref l0), (1, .int l1), (2, .int l2), (4, .int l4), (5, .int l5), (6, .int l6)]) hx hb dM_comes_139 rfl hl (by decide) rfl (fun ls hl => ?_)
        refine lv_iinc (v := (l4 + 1)) (lv' := [(4, .int (l4 + 1)), (3, .int l5), (0, .ref l0), (1, .int l1), (2, .int l2), (5, .int l5), (6, .int l6)]) hx hb dM_comes_140 hl (k := 4) rfl rfl (by decide) rfl (fun ls hl => ?_)
        refine lv_goto (tgt := 29) hx hb dM_comes_143 (by decide) ?_
        exact hK29 _ _ _ _ _ _ _ _ _ hM hS (lv_sub hl [2, 3, 4, 1, 0] rfl) hw
      · have hw := hw.2 hq
        refine lv_iconst (v := (-1)) hx hb dM_comes_135 (by decide +kernel) ?_
        exact W.iret hx hb hr (fun t ht hW => ⟨⟨_, _, rfl, hw, zB_of ht hM⟩, hS.F ht⟩) hS.2.2 dM_comes_136
    · have hw := hw.2 hq
      refine lv_aload_n hx hb dM_comes_50 rfl (lv_at hl 0 rfl) ?_
      obtain ⟨fs6, v5, h7, ev8, hw⟩ := hw
      refine z_get hx hb htb inw_M hown hK hM h7 rfl 18 (by decide) (htb _ t_669) (fun _ h9 => h9) ev8 dM_comes_51 ?_
      refine lv_iload_n hx hb dM_comes_54 rfl (lv_at hl 1 rfl) ?_
      refine lv_bipush (v := 60) hx hb dM_comes_55 (by decide +kernel) ?_
      refine lv_imul hx hb dM_comes_57 ?_
      refine lv_iload hx hb dM_comes_58 (lv_at hl 6 rfl) ?_
      refine lv_iadd hx hb dM_comes_60 ?_
      obtain ⟨n9, f10, v11, h12, hi13, ev14, hw⟩ := hw
      refine z_zald hx hb hK hM 1 1 h12 rfl hi13 ev14 dM_comes_61 ?_
      refine lv_if_eq (tgt := 80) hx hb dM_comes_62 (by decide) (fun hq => ?_) (fun hq => ?_)
      · have hw := hw.1 hq
        refine lv_iconst (v := (-1)) hx hb dM_comes_80 (by decide +kernel) ?_
        exact k_M_comes_j81 C0 hK29 ih _ _ _ _ _ _ _ _ _ _ _ _ hM hS (lv_sub hl [0, 1, 2, 3, 4, 5, 6] rfl) hw
      · have hw := hw.2 hq
        refine lv_aload_n hx hb dM_comes_65 rfl (lv_at hl 0 rfl) ?_
        obtain ⟨fs16, v15, h17, ev18, hw⟩ := hw
        refine z_get hx hb htb inw_M hown hK hM h17 rfl 21 (by decide) (htb _ t_672) (fun _ h9 => h9) ev18 dM_comes_66 ?_
        refine lv_iload_n hx hb dM_comes_69 rfl (lv_at hl 1 rfl) ?_
        refine lv_bipush (v := 60) hx hb dM_comes_70 (by decide +kernel) ?_
        refine lv_imul hx hb dM_comes_72 ?_
        refine lv_iload hx hb dM_comes_73 (lv_at hl 6 rfl) ?_
        refine lv_iadd hx hb dM_comes_75 ?_
        obtain ⟨n19, f20, v21, h22, hi23, ev24, hw⟩ := hw
        refine z_iald hx hb hK hM 0 0 h22 rfl hi23 ev24 dM_comes_76 ?_
        refine lv_goto (tgt := 81) hx hb dM_comes_77 (by decide) ?_
        exact k_M_comes_j81 C0 hK29 ih _ _ _ _ _ _ _ _ _ _ _ _ hM hS (lv_sub hl [0, 1, 2, 3, 4, 5, 6] rfl) hw
def w_M_comes_j29 (e0 : Nat) (post : Int32 → zM → Prop) : Nat → zM → Nat → Int32 → Int32 → Int32 → Int32 → Prop
  | 0 => fun _ _ _ _ _ _ => False
  | n + 1 => fun M l0 l1 l2 l3 l4 => ((l2 < l4) → post ((1000 * (l3 - l3 / 1000 * 1000)) + (l3 / 1000)) M) ∧ (¬ (l2 < l4) → ∃ nn, w_M_comes_j41 e0 post (w_M_comes_j29 e0 post n) nn M l0 l1 l2 l3 l4 (-1) 0)
set_option maxHeartbeats 4000000 in
set_option maxRecDepth 100000 in
theorem k_M_comes_j29 {p : Program} {l : Launch} {e : Env} {s : State} {m : MethodId} {args : Array Value} {below : List Frame} {meth : Method} {c : Code} {D : va_G} {tc : Nat → ClassId} {A : Nat → Prop} {post : Int32 → zM → Prop} (C0 : zC R_M cM_comes 9 (some .int) "comes" D tc A p l s m args meth c) : ∀ n : Nat, J_M_comes_29 p l e s m args below meth c D tc A (MQ below (va_Qi post (zB D tc A) A) args s 0 0 A) (w_M_comes_j29 (tc 9) post n) := by
  obtain ⟨hx, hb, hml, hr, hown, htb, hlk, hA, hG, hin, hex⟩ := id C0
  have hK := hG.1
  intro n
  induction n with
  | zero => intro M l0 l1 l2 l3 l4 H locs ls hM hS hl hw; exact hw.elim
  | succ n ih =>
    intro M l0 l1 l2 l3 l4 H locs ls hM hS hl hw
    refine lv_iload hx hb dM_comes_29 (lv_at hl 4 rfl) ?_
    refine lv_iload_n hx hb dM_comes_31 rfl (lv_at hl 2 rfl) ?_
    refine lv_icmp_gt (tgt := 146) hx hb dM_comes_32 (by decide) (fun hq => ?_) (fun hq => ?_)
    · have hw := hw.1 hq
      refine lv_sipush (v := 1000) hx hb dM_comes_146 (by decide +kernel) ?_
      refine lv_iload_n hx hb dM_comes_149 rfl (lv_at hl 3 rfl) ?_
      refine lv_sipush (v := 1000) hx hb dM_comes_150 (by decide +kernel) ?_
      refine lv_irem hx hb dM_comes_153 (by decide) ?_
      refine lv_imul hx hb dM_comes_154 ?_
      refine lv_iload_n hx hb dM_comes_155 rfl (lv_at hl 3 rfl) ?_
      refine lv_sipush (v := 1000) hx hb dM_comes_156 (by decide +kernel) ?_
      refine lv_idiv hx hb dM_comes_159 (by decide) ?_
      refine lv_iadd hx hb dM_comes_160 ?_
      exact W.iret hx hb hr (fun t ht hW => ⟨⟨_, _, rfl, hw, zB_of ht hM⟩, hS.F ht⟩) hS.2.2 dM_comes_161
    · have hw := hw.2 hq
      refine lv_iconst (v := (-1)) hx hb dM_comes_35 (by decide +kernel) ?_
      refine lv_istore (lv' := [(5, .int (-1)), (0, .ref l0), (1, .int l1), (2, .int l2), (3, .int l3), (4, .int l4)]) hx hb dM_comes_36 hl (by decide) rfl (fun ls hl => ?_)
      refine lv_iconst (v := 0) hx hb dM_comes_38 (by decide +kernel) ?_
      refine lv_istore (lv' := [(6, .int 0), (5, .int (-1)), (0, .ref l0), (1, .int l1), (2, .int l2), (3, .int l3), (4, .int l4)]) hx hb dM_comes_39 hl (by decide) rfl (fun ls hl => ?_)
      obtain ⟨nfu, hw⟩ := hw
      exact k_M_comes_j41 C0 ih nfu _ _ _ _ _ _ _ _ _ _ _ hM hS (lv_sub hl [2, 3, 4, 5, 6, 1, 0] rfl) hw
def w_M_comes_j15 (e0 : Nat) (post : Int32 → zM → Prop) (M : zM) (l0 : Nat) (l1 : Int32) (l2 : Int32) (s0 : Int32) (s1 : Int32) (s2 : Nat) : Prop := wIs M s2 4 ∧ w_M_goes e0 (fun r2 M1 => ((r2 = 0) → post 0 M1) ∧ (¬ (r2 = 0) → ∃ nn, w_M_comes_j29 e0 post nn M1 l0 l1 l2 (-1) 0)) M s2 s1 s0 1
set_option maxHeartbeats 4000000 in
set_option maxRecDepth 100000 in
theorem k_M_comes_j15 {p : Program} {l : Launch} {e : Env} {s : State} {m : MethodId} {args : Array Value} {below : List Frame} {meth : Method} {c : Code} {D : va_G} {tc : Nat → ClassId} {A : Nat → Prop} {post : Int32 → zM → Prop} (C0 : zC R_M cM_comes 9 (some .int) "comes" D tc A p l s m args meth c) : J_M_comes_15 p l e s m args below meth c D tc A (MQ below (va_Qi post (zB D tc A) A) args s 0 0 A) (w_M_comes_j15 (tc 9) post) := by
  obtain ⟨hx, hb, hml, hr, hown, htb, hlk, hA, hG, hin, hex⟩ := id C0
  have hK := hG.1
  intro M l0 l1 l2 s0 s1 s2 H locs ls hM hS hl hw
  refine lv_iconst (v := 1) hx hb dM_comes_15 (by decide +kernel) ?_
  obtain ⟨⟨fs3, h4⟩, hw⟩ := hw
  refine va_calli (va_runV (As := [.int s1, .int s0, .int 1]) (rest := []) ⟨hx, hb, hml, hown, htb⟩ (k_M_goes (l := l) (D := D) (tc := tc) (A := A) hw) (cw_M_79 htb ⟨Nat.le_of_ble_eq_true rfl, Nat.le_of_ble_eq_true rfl⟩) (z_preV hG hA hS hM h4 rfl) rfl rfl hl.1 rfl (lv_room (Nat.le_of_ble_eq_true rfl)) dM_comes_16 ⟨Nat.le_refl _, Nat.le_refl _⟩) hS (fun _ _ h => h) (fun _ h => h) (fun r2 M1 t H locs ht hvm hw hB _ _ hS => ?_)
  have hM : zP D vwCl tc A M1 H := by rw [← ht]; exact hB
  refine lv_if_ne (tgt := 24) hx hb dM_comes_19 (by decide) (fun hq => ?_) (fun hq => ?_)
  · have hw := hw.2 hq
    refine lv_iconst (v := (-1)) hx hb dM_comes_24 (by decide +kernel) ?_
    refine lv_istore_n (lv' := [(3, .int (-1)), (0, .ref l0), (1, .int l1), (2, .int l2)]) hx hb dM_comes_25 rfl hl (by decide) rfl (fun ls hl => ?_)
    refine lv_iconst (v := 0) hx hb dM_comes_26 (by decide +kernel) ?_
    refine lv_istore (lv' := [(4, .int 0), (3, .int (-1)), (0, .ref l0), (1, .int l1), (2, .int l2)]) hx hb dM_comes_27 hl (by decide) rfl (fun ls hl => ?_)
    obtain ⟨nfu, hw⟩ := hw
    exact k_M_comes_j29 C0  nfu _ _ _ _ _ _ _ _ _ hM hS (lv_sub hl [2, 3, 4, 1, 0] rfl) hw
  · have hw := hw.1 hq
    refine lv_iconst (v := 0) hx hb dM_comes_22 (by decide +kernel) ?_
    exact W.iret hx hb hr (fun t ht hW => ⟨⟨_, _, rfl, hw, zB_of ht hM⟩, hS.F ht⟩) hS.2.2 dM_comes_23
def w_M_comes (e0 : Nat) (post : Int32 → zM → Prop) (M : zM) (h0 : Nat) (x1 : Int32) (x2 : Int32) : Prop := wIs M h0 4 ∧ w_M_isAlarm e0 (fun r2 M1 => ((x2 < 0) → w_M_comes_j15 e0 post M1 h0 x1 x2 0 r2 h0) ∧ (¬ (x2 < 0) → w_M_comes_j15 e0 post M1 h0 x1 x2 1 r2 h0)) M h0 x1
set_option maxHeartbeats 4000000 in
set_option maxRecDepth 100000 in
theorem k_M_comes {l : Launch} {D : va_G} {tc : Nat → ClassId} {A : Nat → Prop} {post : Int32 → zM → Prop} {M : zM} {h0 : Nat} {x1 : Int32} {x2 : Int32} (hw : w_M_comes (tc 9) post M h0 x1 x2) : Met l yM_comes (.code yM_comes cM_comes 9 (some .int) :: zTB) r_M_comes (va_Pc [.ref h0, .int x1, .int x2] (zI D tc A M)) (va_Qi post (zB D tc A) A) 0 0 A := by
  refine Met.ofW (cc := cM_comes) (maxL := 9) (ret := (some .int)) (by decide +kernel) rfl ?_
  intro p e s m args below meth c s₁ B hml hv
  obtain ⟨rfl, hA, hM, hG⟩ := hv
  have C0 := zC_of (D := D) (tc := tc) (A := A) B hml (zC_ex B) hA hG
  obtain ⟨hx, hb, hml, hr, hown, htb, hlk, hA, hG, hin, hex⟩ := id C0
  have hK := hG.1
  have hS : va_S A s.heap s.heap [] := va_S.rf
  have hl := lv_entry ([.ref h0, .int x1, .int x2]) (n := 9) (Nat.le_of_ble_eq_true rfl)
  rw [lg_entry_eq]
  generalize (lg_sl ([.ref h0, .int x1, .int x2]) ++ List.replicate (9 - (lg_sl ([.ref h0, .int x1, .int x2])).length) Slot.unset).toArray = ls at hl ⊢
  have hl : lv_has ls 9 [(0, .ref h0), (1, .int x1), (2, .int x2)] := hl
  refine lv_aload_n hx hb dM_comes_0 rfl (lv_at hl 0 rfl) ?_
  refine lv_aload_n hx hb dM_comes_1 rfl (lv_at hl 0 rfl) ?_
  refine lv_iload_n hx hb dM_comes_2 rfl (lv_at hl 1 rfl) ?_
  obtain ⟨⟨fs3, h4⟩, hw⟩ := hw
  refine va_calli (va_runV (As := [.int x1]) (rest := [.ref h0]) ⟨hx, hb, hml, hown, htb⟩ (k_M_isAlarm (l := l) (D := D) (tc := tc) (A := A) hw) (cw_M_109 htb ⟨Nat.le_of_ble_eq_true rfl, Nat.le_of_ble_eq_true rfl⟩) (z_preV hG hA hS hM h4 rfl) rfl rfl hl.1 rfl (lv_room (Nat.le_of_ble_eq_true rfl)) dM_comes_3 ⟨Nat.le_refl _, Nat.le_refl _⟩) hS (fun _ _ h => h) (fun _ h => h) (fun r2 M1 t H locs ht hvm hw hB _ _ hS => ?_)
  have hM : zP D vwCl tc A M1 H := by rw [← ht]; exact hB
  refine lv_iload_n hx hb dM_comes_6 rfl (lv_at hl 2 rfl) ?_
  refine lv_if_lt (tgt := 14) hx hb dM_comes_7 (by decide) (fun hq => ?_) (fun hq => ?_)
  · have hw := hw.1 hq
    refine lv_iconst (v := 0) hx hb dM_comes_14 (by decide +kernel) ?_
    exact k_M_comes_j15 C0  _ _ _ _ _ _ _ _ _ _ hM hS (lv_sub hl [0, 1, 2] rfl) hw
  · have hw := hw.2 hq
    refine lv_iconst (v := 1) hx hb dM_comes_10 (by decide +kernel) ?_
    refine lv_goto (tgt := 15) hx hb dM_comes_11 (by decide) ?_
    exact k_M_comes_j15 C0  _ _ _ _ _ _ _ _ _ _ hM hS (lv_sub hl [0, 1, 2] rfl) hw
abbrev r_M_reached : Room := { frames := 2, cells := 0, slots := 0, locals := 43 }
abbrev J_M_reached_22 (p : Program) (l : Launch) (e : Env) (s : State) (m : MethodId) (args : Array Value) (below : List Frame) (meth : Method) (c : Code) (D : va_G) (tc : Nat → ClassId) (A : Nat → Prop) (Q : State → Prop) (K : zM → Nat → Int32 → Int32 → Int32 → Nat → Prop) : Prop := ∀ (M : zM) (l0 : Nat) (l1 : Int32) (l2 : Int32) (s0 : Int32) (s1 : Nat) (H : Heap) (locs : List Loc) (ls : Array Slot), zP D vwCl tc A M H → va_S A s.heap H locs → lv_has ls 3 [(0, .ref l0), (1, .int l1), (2, .int l2)] → K M l0 l1 l2 s0 s1 → W p l e (r_M_reached) s m args below meth c H locs 0 0 Q (F0 m 22 ls [.int s0, .ref s1])
abbrev J_M_reached_21 (p : Program) (l : Launch) (e : Env) (s : State) (m : MethodId) (args : Array Value) (below : List Frame) (meth : Method) (c : Code) (D : va_G) (tc : Nat → ClassId) (A : Nat → Prop) (Q : State → Prop) (K : zM → Nat → Int32 → Int32 → Nat → Prop) : Prop := ∀ (M : zM) (l0 : Nat) (l1 : Int32) (l2 : Int32) (s0 : Nat) (H : Heap) (locs : List Loc) (ls : Array Slot), zP D vwCl tc A M H → va_S A s.heap H locs → lv_has ls 3 [(0, .ref l0), (1, .int l1), (2, .int l2)] → K M l0 l1 l2 s0 → W p l e (r_M_reached) s m args below meth c H locs 0 0 Q (F0 m 21 ls [.ref s0])
def w_M_reached_j22 (e0 : Nat) (post : Int32 → zM → Prop) (M : zM) (l0 : Nat) (l1 : Int32) (l2 : Int32) (s0 : Int32) (s1 : Nat) : Prop := wIs M s1 4 ∧ w_M_goes e0 (fun r2 M1 => ((r2 = 0) → post 0 M1) ∧ (¬ (r2 = 0) → wIs M1 l0 4 ∧ w_M_isReached e0 (fun r4 M3 => ((r4 = 0) → post (-1) M3) ∧ (¬ (r4 = 0) → wGR M3 l0 4 20 (fun v5 => wLI M3 v5 0 ((l1 * 60) + l2) (fun v11 => wGR M3 l0 4 19 (fun v15 => wLI M3 v15 0 ((l1 * 60) + l2) (fun v21 => post ((10 * v11) + v21) M3)))))) M1 l0 l1 l2)) M s1 s0 1 1
set_option maxHeartbeats 4000000 in
set_option maxRecDepth 100000 in
theorem k_M_reached_j22 {p : Program} {l : Launch} {e : Env} {s : State} {m : MethodId} {args : Array Value} {below : List Frame} {meth : Method} {c : Code} {D : va_G} {tc : Nat → ClassId} {A : Nat → Prop} {post : Int32 → zM → Prop} (C0 : zC R_M cM_reached 3 (some .int) "reached" D tc A p l s m args meth c) : J_M_reached_22 p l e s m args below meth c D tc A (MQ below (va_Qi post (zB D tc A) A) args s 0 0 A) (w_M_reached_j22 (tc 9) post) := by
  obtain ⟨hx, hb, hml, hr, hown, htb, hlk, hA, hG, hin, hex⟩ := id C0
  have hK := hG.1
  intro M l0 l1 l2 s0 s1 H locs ls hM hS hl hw
  refine lv_iconst (v := 1) hx hb dM_reached_22 (by decide +kernel) ?_
  refine lv_iconst (v := 1) hx hb dM_reached_23 (by decide +kernel) ?_
  obtain ⟨⟨fs27, h28⟩, hw⟩ := hw
  refine va_calli (va_runV (As := [.int s0, .int 1, .int 1]) (rest := []) ⟨hx, hb, hml, hown, htb⟩ (k_M_goes (l := l) (D := D) (tc := tc) (A := A) hw) (cw_M_79 htb ⟨Nat.le_of_ble_eq_true rfl, Nat.le_of_ble_eq_true rfl⟩) (z_preV hG hA hS hM h28 rfl) rfl rfl hl.1 rfl (lv_room (Nat.le_of_ble_eq_true rfl)) dM_reached_24 ⟨Nat.le_refl _, Nat.le_refl _⟩) hS (fun _ _ h => h) (fun _ h => h) (fun r2 M1 t H locs ht hvm hw hB _ _ hS => ?_)
  have hM : zP D vwCl tc A M1 H := by rw [← ht]; exact hB
  refine lv_if_ne (tgt := 32) hx hb dM_reached_27 (by decide) (fun hq => ?_) (fun hq => ?_)
  · have hw := hw.2 hq
    refine lv_aload_n hx hb dM_reached_32 rfl (lv_at hl 0 rfl) ?_
    refine lv_iload_n hx hb dM_reached_33 rfl (lv_at hl 1 rfl) ?_
    refine lv_iload_n hx hb dM_reached_34 rfl (lv_at hl 2 rfl) ?_
    obtain ⟨⟨fs25, h26⟩, hw⟩ := hw
    refine va_calli (va_runV (As := [.int l1, .int l2]) (rest := []) ⟨hx, hb, hml, hown, htb⟩ (k_M_isReached (l := l) (D := D) (tc := tc) (A := A) hw) (cw_M_105 htb ⟨Nat.le_of_ble_eq_true rfl, Nat.le_of_ble_eq_true rfl⟩) (z_preV hG hA hS hM h26 rfl) rfl rfl hl.1 rfl (lv_room (Nat.le_of_ble_eq_true rfl)) dM_reached_35 ⟨Nat.le_refl _, Nat.le_refl _⟩) hS (fun _ _ h => h) (fun _ h => h) (fun r4 M3 t H locs ht hvm hw hB _ _ hS => ?_)
    have hM : zP D vwCl tc A M3 H := by rw [← ht]; exact hB
    refine lv_if_eq (tgt := 70) hx hb dM_reached_38 (by decide) (fun hq => ?_) (fun hq => ?_)
    · have hw := hw.1 hq
      refine lv_iconst (v := (-1)) hx hb dM_reached_70 (by decide +kernel) ?_
      exact W.iret hx hb hr (fun t ht hW => ⟨⟨_, _, rfl, hw, zB_of ht hM⟩, hS.F ht⟩) hS.2.2 dM_reached_71
    · have hw := hw.2 hq
      refine lv_bipush (v := 10) hx hb dM_reached_41 (by decide +kernel) ?_
      refine lv_aload_n hx hb dM_reached_43 rfl (lv_at hl 0 rfl) ?_
      obtain ⟨fs6, v5, h7, ev8, hw⟩ := hw
      refine z_get hx hb htb inw_M hown hK hM h7 rfl 20 (by decide) (htb _ t_671) (fun _ h9 => h9) ev8 dM_reached_44 ?_
      refine lv_iload_n hx hb dM_reached_47 rfl (lv_at hl 1 rfl) ?_
      refine lv_bipush (v := 60) hx hb dM_reached_48 (by decide +kernel) ?_
      refine lv_imul hx hb dM_reached_50 ?_
      refine lv_iload_n hx hb dM_reached_51 rfl (lv_at hl 2 rfl) ?_
      refine lv_iadd hx hb dM_reached_52 ?_
      obtain ⟨n9, f10, v11, h12, hi13, ev14, hw⟩ := hw
      refine z_iald hx hb hK hM 0 0 h12 rfl hi13 ev14 dM_reached_53 ?_
      refine lv_imul hx hb dM_reached_54 ?_
      refine lv_aload_n hx hb dM_reached_55 rfl (lv_at hl 0 rfl) ?_
      obtain ⟨fs16, v15, h17, ev18, hw⟩ := hw
      refine z_get hx hb htb inw_M hown hK hM h17 rfl 19 (by decide) (htb _ t_670) (fun _ h9 => h9) ev18 dM_reached_56 ?_
      refine lv_iload_n hx hb dM_reached_59 rfl (lv_at hl 1 rfl) ?_
      refine lv_bipush (v := 60) hx hb dM_reached_60 (by decide +kernel) ?_
      refine lv_imul hx hb dM_reached_62 ?_
      refine lv_iload_n hx hb dM_reached_63 rfl (lv_at hl 2 rfl) ?_
      refine lv_iadd hx hb dM_reached_64 ?_
      obtain ⟨n19, f20, v21, h22, hi23, ev24, hw⟩ := hw
      refine z_iald hx hb hK hM 0 0 h22 rfl hi23 ev24 dM_reached_65 ?_
      refine lv_iadd hx hb dM_reached_66 ?_
      refine lv_goto (tgt := 71) hx hb dM_reached_67 (by decide) ?_
      exact W.iret hx hb hr (fun t ht hW => ⟨⟨_, _, rfl, hw, zB_of ht hM⟩, hS.F ht⟩) hS.2.2 dM_reached_71
  · have hw := hw.1 hq
    refine lv_iconst (v := 0) hx hb dM_reached_30 (by decide +kernel) ?_
    exact W.iret hx hb hr (fun t ht hW => ⟨⟨_, _, rfl, hw, zB_of ht hM⟩, hS.F ht⟩) hS.2.2 dM_reached_31
def w_M_reached_j21 (e0 : Nat) (post : Int32 → zM → Prop) (M : zM) (l0 : Nat) (l1 : Int32) (l2 : Int32) (s0 : Nat) : Prop := w_M_reached_j22 e0 post M l0 l1 l2 0 s0
set_option maxHeartbeats 4000000 in
set_option maxRecDepth 100000 in
theorem k_M_reached_j21 {p : Program} {l : Launch} {e : Env} {s : State} {m : MethodId} {args : Array Value} {below : List Frame} {meth : Method} {c : Code} {D : va_G} {tc : Nat → ClassId} {A : Nat → Prop} {post : Int32 → zM → Prop} (C0 : zC R_M cM_reached 3 (some .int) "reached" D tc A p l s m args meth c) : J_M_reached_21 p l e s m args below meth c D tc A (MQ below (va_Qi post (zB D tc A) A) args s 0 0 A) (w_M_reached_j21 (tc 9) post) := by
  obtain ⟨hx, hb, hml, hr, hown, htb, hlk, hA, hG, hin, hex⟩ := id C0
  have hK := hG.1
  intro M l0 l1 l2 s0 H locs ls hM hS hl hw
  refine lv_iconst (v := 0) hx hb dM_reached_21 (by decide +kernel) ?_
  exact k_M_reached_j22 C0  _ _ _ _ _ _ _ _ _ hM hS (lv_sub hl [0, 1, 2] rfl) hw
def w_M_reached (e0 : Nat) (post : Int32 → zM → Prop) (M : zM) (h0 : Nat) (x1 : Int32) (x2 : Int32) : Prop := wIs M h0 4 ∧ w_M_isAlarm e0 (fun r2 M1 => ((r2 = 0) → w_M_reached_j21 e0 post M1 h0 x1 x2 h0) ∧ (¬ (r2 = 0) → wIs M1 h0 4 ∧ w_M_isPerson e0 (fun r4 M3 => ((r4 = 0) → w_M_reached_j21 e0 post M3 h0 x1 x2 h0) ∧ (¬ (r4 = 0) → w_M_reached_j22 e0 post M3 h0 x1 x2 1 h0)) M1 h0 x2)) M h0 x1
set_option maxHeartbeats 4000000 in
set_option maxRecDepth 100000 in
theorem k_M_reached {l : Launch} {D : va_G} {tc : Nat → ClassId} {A : Nat → Prop} {post : Int32 → zM → Prop} {M : zM} {h0 : Nat} {x1 : Int32} {x2 : Int32} (hw : w_M_reached (tc 9) post M h0 x1 x2) : Met l yM_reached (.code yM_reached cM_reached 3 (some .int) :: zTB) r_M_reached (va_Pc [.ref h0, .int x1, .int x2] (zI D tc A M)) (va_Qi post (zB D tc A) A) 0 0 A := by
  refine Met.ofW (cc := cM_reached) (maxL := 3) (ret := (some .int)) (by decide +kernel) rfl ?_
  intro p e s m args below meth c s₁ B hml hv
  obtain ⟨rfl, hA, hM, hG⟩ := hv
  have C0 := zC_of (D := D) (tc := tc) (A := A) B hml (zC_ex B) hA hG
  obtain ⟨hx, hb, hml, hr, hown, htb, hlk, hA, hG, hin, hex⟩ := id C0
  have hK := hG.1
  have hS : va_S A s.heap s.heap [] := va_S.rf
  have hl := lv_entry ([.ref h0, .int x1, .int x2]) (n := 3) (Nat.le_of_ble_eq_true rfl)
  rw [lg_entry_eq]
  generalize (lg_sl ([.ref h0, .int x1, .int x2]) ++ List.replicate (3 - (lg_sl ([.ref h0, .int x1, .int x2])).length) Slot.unset).toArray = ls at hl ⊢
  have hl : lv_has ls 3 [(0, .ref h0), (1, .int x1), (2, .int x2)] := hl
  refine lv_aload_n hx hb dM_reached_0 rfl (lv_at hl 0 rfl) ?_
  refine lv_aload_n hx hb dM_reached_1 rfl (lv_at hl 0 rfl) ?_
  refine lv_iload_n hx hb dM_reached_2 rfl (lv_at hl 1 rfl) ?_
  obtain ⟨⟨fs7, h8⟩, hw⟩ := hw
  refine va_calli (va_runV (As := [.int x1]) (rest := [.ref h0]) ⟨hx, hb, hml, hown, htb⟩ (k_M_isAlarm (l := l) (D := D) (tc := tc) (A := A) hw) (cw_M_109 htb ⟨Nat.le_of_ble_eq_true rfl, Nat.le_of_ble_eq_true rfl⟩) (z_preV hG hA hS hM h8 rfl) rfl rfl hl.1 rfl (lv_room (Nat.le_of_ble_eq_true rfl)) dM_reached_3 ⟨Nat.le_refl _, Nat.le_refl _⟩) hS (fun _ _ h => h) (fun _ h => h) (fun r2 M1 t H locs ht hvm hw hB _ _ hS => ?_)
  have hM : zP D vwCl tc A M1 H := by rw [← ht]; exact hB
  refine lv_if_eq (tgt := 21) hx hb dM_reached_6 (by decide) (fun hq => ?_) (fun hq => ?_)
  · have hw := hw.1 hq
    exact k_M_reached_j21 C0  _ _ _ _ _ _ _ _ hM hS (lv_sub hl [0, 1, 2] rfl) hw
  · have hw := hw.2 hq
    refine lv_aload_n hx hb dM_reached_9 rfl (lv_at hl 0 rfl) ?_
    refine lv_iload_n hx hb dM_reached_10 rfl (lv_at hl 2 rfl) ?_
    obtain ⟨⟨fs5, h6⟩, hw⟩ := hw
    refine va_calli (va_runV (As := [.int x2]) (rest := [.ref h0]) ⟨hx, hb, hml, hown, htb⟩ (k_M_isPerson (l := l) (D := D) (tc := tc) (A := A) hw) (cw_M_87 htb ⟨Nat.le_of_ble_eq_true rfl, Nat.le_of_ble_eq_true rfl⟩) (z_preV hG hA hS hM h6 rfl) rfl rfl hl.1 rfl (lv_room (Nat.le_of_ble_eq_true rfl)) dM_reached_11 ⟨Nat.le_refl _, Nat.le_refl _⟩) hS (fun _ _ h => h) (fun _ h => h) (fun r4 M3 t H locs ht hvm hw hB _ _ hS => ?_)
    have hM : zP D vwCl tc A M3 H := by rw [← ht]; exact hB
    refine lv_if_eq (tgt := 21) hx hb dM_reached_14 (by decide) (fun hq => ?_) (fun hq => ?_)
    · have hw := hw.1 hq
      exact k_M_reached_j21 C0  _ _ _ _ _ _ _ _ hM hS (lv_sub hl [0, 1, 2] rfl) hw
    · have hw := hw.2 hq
      refine lv_iconst (v := 1) hx hb dM_reached_17 (by decide +kernel) ?_
      refine lv_goto (tgt := 22) hx hb dM_reached_18 (by decide) ?_
      exact k_M_reached_j22 C0  _ _ _ _ _ _ _ _ _ hM hS (lv_sub hl [0, 1, 2] rfl) hw
abbrev r_M_share : Room := { frames := 2, cells := 0, slots := 0, locals := 43 }
abbrev J_M_share_117 (p : Program) (l : Launch) (e : Env) (s : State) (m : MethodId) (args : Array Value) (below : List Frame) (meth : Method) (c : Code) (D : va_G) (tc : Nat → ClassId) (A : Nat → Prop) (Q : State → Prop) (K : zM → Int32 → Int32 → Int32 → Int32 → Int32 → Prop) : Prop := ∀ (M : zM) (l2 : Int32) (l3 : Int32) (l4 : Int32) (l5 : Int32) (l6 : Int32) (H : Heap) (locs : List Loc) (ls : Array Slot), zP D vwCl tc A M H → va_S A s.heap H locs → lv_has ls 8 [(2, .int l2), (3, .int l3), (4, .int l4), (5, .int l5), (6, .int l6)] → K M l2 l3 l4 l5 l6 → W p l e (r_M_share) s m args below meth c H locs 0 0 Q (F0 m 117 ls [])
abbrev J_M_share_101 (p : Program) (l : Launch) (e : Env) (s : State) (m : MethodId) (args : Array Value) (below : List Frame) (meth : Method) (c : Code) (D : va_G) (tc : Nat → ClassId) (A : Nat → Prop) (Q : State → Prop) (K : zM → Int32 → Int32 → Int32 → Int32 → Int32 → Nat → Prop) : Prop := ∀ (M : zM) (l2 : Int32) (l3 : Int32) (l4 : Int32) (s0 : Int32) (s1 : Int32) (s2 : Nat) (H : Heap) (locs : List Loc) (ls : Array Slot), zP D vwCl tc A M H → va_S A s.heap H locs → lv_has ls 8 [(2, .int l2), (3, .int l3), (4, .int l4)] → K M l2 l3 l4 s0 s1 s2 → W p l e (r_M_share) s m args below meth c H locs 0 0 Q (F0 m 101 ls [.int s0, .int s1, .ref s2])
abbrev J_M_share_92 (p : Program) (l : Launch) (e : Env) (s : State) (m : MethodId) (args : Array Value) (below : List Frame) (meth : Method) (c : Code) (D : va_G) (tc : Nat → ClassId) (A : Nat → Prop) (Q : State → Prop) (K : zM → Int32 → Int32 → Int32 → Int32 → Nat → Prop) : Prop := ∀ (M : zM) (l2 : Int32) (l3 : Int32) (l4 : Int32) (s0 : Int32) (s1 : Nat) (H : Heap) (locs : List Loc) (ls : Array Slot), zP D vwCl tc A M H → va_S A s.heap H locs → lv_has ls 8 [(2, .int l2), (3, .int l3), (4, .int l4)] → K M l2 l3 l4 s0 s1 → W p l e (r_M_share) s m args below meth c H locs 0 0 Q (F0 m 92 ls [.int s0, .ref s1])
abbrev J_M_share_91 (p : Program) (l : Launch) (e : Env) (s : State) (m : MethodId) (args : Array Value) (below : List Frame) (meth : Method) (c : Code) (D : va_G) (tc : Nat → ClassId) (A : Nat → Prop) (Q : State → Prop) (K : zM → Int32 → Int32 → Int32 → Nat → Prop) : Prop := ∀ (M : zM) (l2 : Int32) (l3 : Int32) (l4 : Int32) (s0 : Nat) (H : Heap) (locs : List Loc) (ls : Array Slot), zP D vwCl tc A M H → va_S A s.heap H locs → lv_has ls 8 [(2, .int l2), (3, .int l3), (4, .int l4)] → K M l2 l3 l4 s0 → W p l e (r_M_share) s m args below meth c H locs 0 0 Q (F0 m 91 ls [.ref s0])
abbrev J_M_share_63 (p : Program) (l : Launch) (e : Env) (s : State) (m : MethodId) (args : Array Value) (below : List Frame) (meth : Method) (c : Code) (D : va_G) (tc : Nat → ClassId) (A : Nat → Prop) (Q : State → Prop) (K : zM → Nat → Int32 → Int32 → Int32 → Int32 → Int32 → Prop) : Prop := ∀ (M : zM) (l0 : Nat) (l1 : Int32) (l2 : Int32) (l3 : Int32) (l4 : Int32) (l5 : Int32) (H : Heap) (locs : List Loc) (ls : Array Slot), zP D vwCl tc A M H → va_S A s.heap H locs → lv_has ls 8 [(0, .ref l0), (1, .int l1), (2, .int l2), (3, .int l3), (4, .int l4), (5, .int l5)] → K M l0 l1 l2 l3 l4 l5 → W p l e (r_M_share) s m args below meth c H locs 0 0 Q (F0 m 63 ls [])
abbrev J_M_share_8 (p : Program) (l : Launch) (e : Env) (s : State) (m : MethodId) (args : Array Value) (below : List Frame) (meth : Method) (c : Code) (D : va_G) (tc : Nat → ClassId) (A : Nat → Prop) (Q : State → Prop) (K : zM → Nat → Int32 → Int32 → Int32 → Int32 → Int32 → Prop) : Prop := ∀ (M : zM) (l0 : Nat) (l1 : Int32) (l2 : Int32) (l3 : Int32) (l4 : Int32) (l5 : Int32) (H : Heap) (locs : List Loc) (ls : Array Slot), zP D vwCl tc A M H → va_S A s.heap H locs → lv_has ls 8 [(0, .ref l0), (1, .int l1), (2, .int l2), (3, .int l3), (4, .int l4), (5, .int l5)] → K M l0 l1 l2 l3 l4 l5 → W p l e (r_M_share) s m args below meth c H locs 0 0 Q (F0 m 8 ls [])
def w_M_share_j117 (e0 : Nat) (post : Int32 → zM → Prop) : Nat → zM → Int32 → Int32 → Int32 → Int32 → Int32 → Prop
  | 0 => fun _ _ _ _ _ _ => False
  | n + 1 => fun M l2 l3 l4 l5 l6 => ((l6 ≤ 0) → ((l2 = 0) → (¬ l5 = 0) ∧ post (l4 / l5) M) ∧ (¬ (l2 = 0) → (¬ l5 = 0) ∧ post (l3 / l5) M)) ∧ (¬ (l6 ≤ 0) → (¬ l6 = 0) ∧ w_M_share_j117 e0 post n M l2 l3 l4 l6 (l5 - l5 / l6 * l6))
set_option maxHeartbeats 4000000 in
set_option maxRecDepth 100000 in
theorem k_M_share_j117 {p : Program} {l : Launch} {e : Env} {s : State} {m : MethodId} {args : Array Value} {below : List Frame} {meth : Method} {c : Code} {D : va_G} {tc : Nat → ClassId} {A : Nat → Prop} {post : Int32 → zM → Prop} (C0 : zC R_M cM_share 8 (some .int) "share" D tc A p l s m args meth c) : ∀ n : Nat, J_M_share_117 p l e s m args below meth c D tc A (MQ below (va_Qi post (zB D tc A) A) args s 0 0 A) (w_M_share_j117 (tc 9) post n) := by
  obtain ⟨hx, hb, hml, hr, hown, htb, hlk, hA, hG, hin, hex⟩ := id C0
  have hK := hG.1
  intro n
  induction n with
  | zero => intro M l2 l3 l4 l5 l6 H locs ls hM hS hl hw; exact hw.elim
  | succ n ih =>
    intro M l2 l3 l4 l5 l6 H locs ls hM hS hl hw
    refine lv_iload hx hb dM_share_117 (lv_at hl 4 rfl) ?_
    refine lv_if_le (tgt := 140) hx hb dM_share_119 (by decide) (fun hq => ?_) (fun hq => ?_)
    · have hw := hw.1 hq
      refine lv_iload_n hx hb dM_share_140 rfl (lv_at hl 0 rfl) ?_
      refine lv_if_ne (tgt := 149) hx hb dM_share_141 (by decide) (fun hq => ?_) (fun hq => ?_)
      · have hw := hw.2 hq
        refine lv_iload_n hx hb dM_share_149 rfl (lv_at hl 1 rfl) ?_
        refine lv_iload hx hb dM_share_150 (lv_at hl 3 rfl) ?_
        obtain ⟨hne, hw⟩ := hw
        refine lv_idiv hx hb dM_share_152 hne ?_
        exact W.iret hx hb hr (fun t ht hW => ⟨⟨_, _, rfl, hw, zB_of ht hM⟩, hS.F ht⟩) hS.2.2 dM_share_153
      · have hw := hw.1 hq
        refine lv_iload hx hb dM_share_144 (lv_at hl 2 rfl) ?_
        refine lv_goto (tgt := 150) hx hb dM_share_146 (by decide) ?_
        refine lv_iload hx hb dM_share_150 (lv_at hl 3 rfl) ?_
        obtain ⟨hne, hw⟩ := hw
        refine lv_idiv hx hb dM_share_152 hne ?_
        exact W.iret hx hb hr (fun t ht hW => ⟨⟨_, _, rfl, hw, zB_of ht hM⟩, hS.F ht⟩) hS.2.2 dM_share_153
    · have hw := hw.2 hq
      refine lv_iload hx hb dM_share_122 (lv_at hl 3 rfl) ?_
      refine lv_iload hx hb dM_share_124 (lv_at hl 4 rfl) ?_
      obtain ⟨hne, hw⟩ := hw
      refine lv_irem hx hb dM_share_126 hne ?_
      refine lv_istore (lv' := [(7, .int (l5 - l5 / l6 * l6)), (2, .int l2), (3, .int l3), (4, .int l4), (5, .int l5), (6, .int l6)]) hx hb dM_share_127 hl (by decide) rfl (fun ls hl => ?_)
      refine lv_iload hx hb dM_share_129 (lv_at hl 5 rfl) ?_
      refine lv_istore (lv' := [(5, .int l6), (7, .int (l5 - l5 / l6 * l6)), (2, .int l2), (3, .int l3), (4, .int l4), (6, .int l6)]) hx hb dM_share_131 hl (by decide) rfl (fun ls hl => ?_)
      refine lv_iload hx hb dM_share_133 (lv_at hl 1 rfl) ?_
      refine lv_istore (lv' := [(6, .int (l5 - l5 / l6 * l6)), (5, .int l6), (7, .int (l5 - l5 / l6 * l6)), (2, .int l2), (3, .int l3), (4, .int l4)]) hx hb dM_share_135 hl (by decide) rfl (fun ls hl => ?_)
      refine lv_goto (tgt := 117) hx hb dM_share_137 (by decide) ?_
      exact ih _ _ _ _ _ _ _ _ _ hM hS (lv_sub hl [3, 4, 5, 1, 0] rfl) hw
def w_M_share_j101 (e0 : Nat) (post : Int32 → zM → Prop) (M : zM) (l2 : Int32) (l3 : Int32) (l4 : Int32) (s0 : Int32) (s1 : Int32) (s2 : Nat) : Prop := wIs M s2 4 ∧ w_M_goes e0 (fun r2 M1 => ((r2 = 0) → post 0 M1) ∧ (¬ (r2 = 0) → ∃ nn, w_M_share_j117 e0 post nn M1 l2 l3 l4 l3 l4)) M s2 s1 s0 1
set_option maxHeartbeats 4000000 in
set_option maxRecDepth 100000 in
theorem k_M_share_j101 {p : Program} {l : Launch} {e : Env} {s : State} {m : MethodId} {args : Array Value} {below : List Frame} {meth : Method} {c : Code} {D : va_G} {tc : Nat → ClassId} {A : Nat → Prop} {post : Int32 → zM → Prop} (C0 : zC R_M cM_share 8 (some .int) "share" D tc A p l s m args meth c) : J_M_share_101 p l e s m args below meth c D tc A (MQ below (va_Qi post (zB D tc A) A) args s 0 0 A) (w_M_share_j101 (tc 9) post) := by
  obtain ⟨hx, hb, hml, hr, hown, htb, hlk, hA, hG, hin, hex⟩ := id C0
  have hK := hG.1
  intro M l2 l3 l4 s0 s1 s2 H locs ls hM hS hl hw
  refine lv_iconst (v := 1) hx hb dM_share_101 (by decide +kernel) ?_
  obtain ⟨⟨fs3, h4⟩, hw⟩ := hw
  refine va_calli (va_runV (As := [.int s1, .int s0, .int 1]) (rest := []) ⟨hx, hb, hml, hown, htb⟩ (k_M_goes (l := l) (D := D) (tc := tc) (A := A) hw) (cw_M_79 htb ⟨Nat.le_of_ble_eq_true rfl, Nat.le_of_ble_eq_true rfl⟩) (z_preV hG hA hS hM h4 rfl) rfl rfl hl.1 rfl (lv_room (Nat.le_of_ble_eq_true rfl)) dM_share_102 ⟨Nat.le_refl _, Nat.le_refl _⟩) hS (fun _ _ h => h) (fun _ h => h) (fun r2 M1 t H locs ht hvm hw hB _ _ hS => ?_)
  have hM : zP D vwCl tc A M1 H := by rw [← ht]; exact hB
  refine lv_if_ne (tgt := 110) hx hb dM_share_105 (by decide) (fun hq => ?_) (fun hq => ?_)
  · have hw := hw.2 hq
    refine lv_iload_n hx hb dM_share_110 rfl (lv_at hl 1 rfl) ?_
    refine lv_istore (lv' := [(5, .int l3), (2, .int l2), (3, .int l3), (4, .int l4)]) hx hb dM_share_111 hl (by decide) rfl (fun ls hl => ?_)
    refine lv_iload hx hb dM_share_113 (lv_at hl 3 rfl) ?_
    refine lv_istore (lv' := [(6, .int l4), (5, .int l3), (2, .int l2), (3, .int l3), (4, .int l4)]) hx hb dM_share_115 hl (by decide) rfl (fun ls hl => ?_)
    obtain ⟨nfu, hw⟩ := hw
    exact k_M_share_j117 C0  nfu _ _ _ _ _ _ _ _ _ hM hS (lv_sub hl [2, 3, 4, 1, 0] rfl) hw
  · have hw := hw.1 hq
    refine lv_iconst (v := 0) hx hb dM_share_108 (by decide +kernel) ?_
    exact W.iret hx hb hr (fun t ht hW => ⟨⟨_, _, rfl, hw, zB_of ht hM⟩, hS.F ht⟩) hS.2.2 dM_share_109
def w_M_share_j92 (e0 : Nat) (post : Int32 → zM → Prop) (M : zM) (l2 : Int32) (l3 : Int32) (l4 : Int32) (s0 : Int32) (s1 : Nat) : Prop := ((l3 ≤ 0) → w_M_share_j101 e0 post M l2 l3 l4 0 s0 s1) ∧ (¬ (l3 ≤ 0) → w_M_share_j101 e0 post M l2 l3 l4 1 s0 s1)
set_option maxHeartbeats 4000000 in
set_option maxRecDepth 100000 in
theorem k_M_share_j92 {p : Program} {l : Launch} {e : Env} {s : State} {m : MethodId} {args : Array Value} {below : List Frame} {meth : Method} {c : Code} {D : va_G} {tc : Nat → ClassId} {A : Nat → Prop} {post : Int32 → zM → Prop} (C0 : zC R_M cM_share 8 (some .int) "share" D tc A p l s m args meth c) : J_M_share_92 p l e s m args below meth c D tc A (MQ below (va_Qi post (zB D tc A) A) args s 0 0 A) (w_M_share_j92 (tc 9) post) := by
  obtain ⟨hx, hb, hml, hr, hown, htb, hlk, hA, hG, hin, hex⟩ := id C0
  have hK := hG.1
  intro M l2 l3 l4 s0 s1 H locs ls hM hS hl hw
  refine lv_iload_n hx hb dM_share_92 rfl (lv_at hl 1 rfl) ?_
  refine lv_if_le (tgt := 100) hx hb dM_share_93 (by decide) (fun hq => ?_) (fun hq => ?_)
  · have hw := hw.1 hq
    refine lv_iconst (v := 0) hx hb dM_share_100 (by decide +kernel) ?_
    exact k_M_share_j101 C0  _ _ _ _ _ _ _ _ _ _ hM hS (lv_sub hl [0, 1, 2] rfl) hw
  · have hw := hw.2 hq
    refine lv_iconst (v := 1) hx hb dM_share_96 (by decide +kernel) ?_
    refine lv_goto (tgt := 101) hx hb dM_share_97 (by decide) ?_
    exact k_M_share_j101 C0  _ _ _ _ _ _ _ _ _ _ hM hS (lv_sub hl [0, 1, 2] rfl) hw
def w_M_share_j91 (e0 : Nat) (post : Int32 → zM → Prop) (M : zM) (l2 : Int32) (l3 : Int32) (l4 : Int32) (s0 : Nat) : Prop := w_M_share_j92 e0 post M l2 l3 l4 0 s0
set_option maxHeartbeats 4000000 in
set_option maxRecDepth 100000 in
theorem k_M_share_j91 {p : Program} {l : Launch} {e : Env} {s : State} {m : MethodId} {args : Array Value} {below : List Frame} {meth : Method} {c : Code} {D : va_G} {tc : Nat → ClassId} {A : Nat → Prop} {post : Int32 → zM → Prop} (C0 : zC R_M cM_share 8 (some .int) "share" D tc A p l s m args meth c) : J_M_share_91 p l e s m args below meth c D tc A (MQ below (va_Qi post (zB D tc A) A) args s 0 0 A) (w_M_share_j91 (tc 9) post) := by
  obtain ⟨hx, hb, hml, hr, hown, htb, hlk, hA, hG, hin, hex⟩ := id C0
  have hK := hG.1
  intro M l2 l3 l4 s0 H locs ls hM hS hl hw
  refine lv_iconst (v := 0) hx hb dM_share_91 (by decide +kernel) ?_
  exact k_M_share_j92 C0  _ _ _ _ _ _ _ _ _ hM hS (lv_sub hl [0, 1, 2] rfl) hw
def w_M_share_j63 (e0 : Nat) (post : Int32 → zM → Prop) (K8 : zM → Nat → Int32 → Int32 → Int32 → Int32 → Int32 → Prop) (M : zM) (l0 : Nat) (l1 : Int32) (l2 : Int32) (l3 : Int32) (l4 : Int32) (l5 : Int32) : Prop := K8 M l0 l1 l2 l3 l4 (l5 + 1)
set_option maxHeartbeats 4000000 in
set_option maxRecDepth 100000 in
theorem k_M_share_j63 {p : Program} {l : Launch} {e : Env} {s : State} {m : MethodId} {args : Array Value} {below : List Frame} {meth : Method} {c : Code} {D : va_G} {tc : Nat → ClassId} {A : Nat → Prop} {post : Int32 → zM → Prop} (C0 : zC R_M cM_share 8 (some .int) "share" D tc A p l s m args meth c) {K8 : zM → Nat → Int32 → Int32 → Int32 → Int32 → Int32 → Prop} (hK8 : J_M_share_8 p l e s m args below meth c D tc A (MQ below (va_Qi post (zB D tc A) A) args s 0 0 A) K8) : J_M_share_63 p l e s m args below meth c D tc A (MQ below (va_Qi post (zB D tc A) A) args s 0 0 A) (w_M_share_j63 (tc 9) post K8) := by
  obtain ⟨hx, hb, hml, hr, hown, htb, hlk, hA, hG, hin, hex⟩ := id C0
  have hK := hG.1
  intro M l0 l1 l2 l3 l4 l5 H locs ls hM hS hl hw
  refine lv_iinc (v := (l5 + 1)) (lv' := [(5, .int (l5 + 1)), (0, .ref l0), (1, .int l1), (2, .int l2), (3, .int l3), (4, .int l4)]) hx hb dM_share_63 hl (k := 5) rfl rfl (by decide) rfl (fun ls hl => ?_)
  refine lv_goto (tgt := 8) hx hb dM_share_66 (by decide) ?_
  exact hK8 _ _ _ _ _ _ _ _ _ _ hM hS (lv_sub hl [1, 2, 3, 4, 5, 0] rfl) hw
def w_M_share_j8 (e0 : Nat) (post : Int32 → zM → Prop) : Nat → zM → Nat → Int32 → Int32 → Int32 → Int32 → Int32 → Prop
  | 0 => fun _ _ _ _ _ _ _ => False
  | n + 1 => fun M l0 l1 l2 l3 l4 l5 => wGI M l0 4 12 (fun v1 => ((v1 ≤ l5) → wIs M l0 4 ∧ w_M_isGroup e0 (fun r6 M5 => ((r6 = 0) → w_M_share_j91 e0 post M5 l2 l3 l4 l0) ∧ (¬ (r6 = 0) → w_M_in e0 (fun r8 M7 => ((r8 = 0) → w_M_share_j91 e0 post M7 l2 l3 l4 l0) ∧ (¬ (r8 = 0) → w_M_share_j92 e0 post M7 l2 l3 l4 1 l0)) M5 l2 0 1)) M l0 l1) ∧ (¬ (v1 ≤ l5) → wGR M l0 4 13 (fun v11 => wLI M v11 0 l5 (fun v17 => ((v17 = l1) → wGR M l0 4 17 (fun v21 => wLI M v21 0 l5 (fun v27 => ((v27 = 0) → w_M_share_j63 e0 post (w_M_share_j8 e0 post n) M l0 l1 l2 l3 l4 l5) ∧ (¬ (v27 = 0) → wIs M l0 4 ∧ w_M_many e0 (fun r32 M31 => wIs M31 l0 4 ∧ w_M_many e0 (fun r34 M33 => w_M_share_j63 e0 post (w_M_share_j8 e0 post n) M33 l0 l1 l2 (l3 + r32) (l4 + r34) l5) M31 l0 l5 3) M l0 l5 1)))) ∧ (¬ (v17 = l1) → w_M_share_j63 e0 post (w_M_share_j8 e0 post n) M l0 l1 l2 l3 l4 l5)))))
set_option maxHeartbeats 4000000 in
set_option maxRecDepth 100000 in
theorem k_M_share_j8 {p : Program} {l : Launch} {e : Env} {s : State} {m : MethodId} {args : Array Value} {below : List Frame} {meth : Method} {c : Code} {D : va_G} {tc : Nat → ClassId} {A : Nat → Prop} {post : Int32 → zM → Prop} (C0 : zC R_M cM_share 8 (some .int) "share" D tc A p l s m args meth c) : ∀ n : Nat, J_M_share_8 p l e s m args below meth c D tc A (MQ below (va_Qi post (zB D tc A) A) args s 0 0 A) (w_M_share_j8 (tc 9) post n) := by
  obtain ⟨hx, hb, hml, hr, hown, htb, hlk, hA, hG, hin, hex⟩ := id C0
  have hK := hG.1
  intro n
  induction n with
  | zero => intro M l0 l1 l2 l3 l4 l5 H locs ls hM hS hl hw; exact hw.elim
  | succ n ih =>
    intro M l0 l1 l2 l3 l4 l5 H locs ls hM hS hl hw
    refine lv_iload hx hb dM_share_8 (lv_at hl 5 rfl) ?_
    refine lv_aload_n hx hb dM_share_10 rfl (lv_at hl 0 rfl) ?_
    obtain ⟨fs2, v1, h3, ev4, hw⟩ := hw
    refine z_get hx hb htb inw_M hown hK hM h3 rfl 12 (by decide) (htb _ t_663) (fun _ h9 => h9) ev4 dM_share_11 ?_
    refine lv_icmp_ge (tgt := 69) hx hb dM_share_14 (by decide) (fun hq => ?_) (fun hq => ?_)
    · have hw := hw.1 hq
      refine lv_aload_n hx hb dM_share_69 rfl (lv_at hl 0 rfl) ?_
      refine lv_aload_n hx hb dM_share_70 rfl (lv_at hl 0 rfl) ?_
      refine lv_iload_n hx hb dM_share_71 rfl (lv_at hl 1 rfl) ?_
      obtain ⟨⟨fs9, h10⟩, hw⟩ := hw
      refine va_calli (va_runV (As := [.int l1]) (rest := [.ref l0]) ⟨hx, hb, hml, hown, htb⟩ (k_M_isGroup (l := l) (D := D) (tc := tc) (A := A) hw) (cw_M_83 htb ⟨Nat.le_of_ble_eq_true rfl, Nat.le_of_ble_eq_true rfl⟩) (z_preV hG hA hS hM h10 rfl) rfl rfl hl.1 rfl (lv_room (Nat.le_of_ble_eq_true rfl)) dM_share_72 ⟨Nat.le_refl _, Nat.le_refl _⟩) hS (fun _ _ h => h) (fun _ h => h) (fun r6 M5 t H locs ht hvm hw hB _ _ hS => ?_)
      have hM : zP D vwCl tc A M5 H := by rw [← ht]; exact hB
      refine lv_if_eq (tgt := 91) hx hb dM_share_75 (by decide) (fun hq => ?_) (fun hq => ?_)
      · have hw := hw.1 hq
        exact k_M_share_j91 C0  _ _ _ _ _ _ _ _ hM hS (lv_sub hl [2, 3, 4] rfl) hw
      · have hw := hw.2 hq
        refine lv_iload_n hx hb dM_share_78 rfl (lv_at hl 2 rfl) ?_
        refine lv_iconst (v := 0) hx hb dM_share_79 (by decide +kernel) ?_
        refine lv_iconst (v := 1) hx hb dM_share_80 (by decide +kernel) ?_
        refine va_calli (va_runS (As := [.int l2, .int 0, .int 1]) (rest := [.ref l0]) ⟨hx, hb, hml, hown, htb⟩ (k_M_in (l := l) (D := D) (tc := tc) (A := A) hw) (cw_M_69 htb ⟨Nat.le_of_ble_eq_true rfl, Nat.le_of_ble_eq_true rfl⟩) (z_preS hG hA hS hM) rfl rfl hl.1 rfl (lv_room (Nat.le_of_ble_eq_true rfl)) dM_share_81 ⟨Nat.le_refl _, Nat.le_refl _⟩) hS (fun _ _ h => h) (fun _ h => h) (fun r8 M7 t H locs ht hvm hw hB _ _ hS => ?_)
        have hM : zP D vwCl tc A M7 H := by rw [← ht]; exact hB
        refine lv_if_eq (tgt := 91) hx hb dM_share_84 (by decide) (fun hq => ?_) (fun hq => ?_)
        · have hw := hw.1 hq
          exact k_M_share_j91 C0  _ _ _ _ _ _ _ _ hM hS (lv_sub hl [2, 3, 4] rfl) hw
        · have hw := hw.2 hq
          refine lv_iconst (v := 1) hx hb dM_share_87 (by decide +kernel) ?_
          refine lv_goto (tgt := 92) hx hb dM_share_88 (by decide) ?_
          exact k_M_share_j92 C0  _ _ _ _ _ _ _ _ _ hM hS (lv_sub hl [2, 3, 4] rfl) hw
    · have hw := hw.2 hq
      refine lv_aload_n hx hb dM_share_17 rfl (lv_at hl 0 rfl) ?_
      obtain ⟨fs12, v11, h13, ev14, hw⟩ := hw
      refine z_get hx hb htb inw_M hown hK hM h13 rfl 13 (by decide) (htb _ t_664) (fun _ h9 => h9) ev14 dM_share_18 ?_
      refine lv_iload hx hb dM_share_21 (lv_at hl 5 rfl) ?_
      obtain ⟨n15, f16, v17, h18, hi19, ev20, hw⟩ := hw
      refine z_iald hx hb hK hM 0 0 h18 rfl hi19 ev20 dM_share_23 ?_
      refine lv_iload_n hx hb dM_share_24 rfl (lv_at hl 1 rfl) ?_
      refine lv_icmp_ne (tgt := 63) hx hb dM_share_25 (by decide) (fun hq => ?_) (fun hq => ?_)
      · have hw := hw.2 hq
        exact k_M_share_j63 C0 ih _ _ _ _ _ _ _ _ _ _ hM hS (lv_sub hl [0, 1, 2, 3, 4, 5] rfl) hw
      · have hw := hw.1 hq
        refine lv_aload_n hx hb dM_share_28 rfl (lv_at hl 0 rfl) ?_
        obtain ⟨fs22, v21, h23, ev24, hw⟩ := hw
        refine z_get hx hb htb inw_M hown hK hM h23 rfl 17 (by decide) (htb _ t_668) (fun _ h9 => h9) ev24 dM_share_29 ?_
        refine lv_iload hx hb dM_share_32 (lv_at hl 5 rfl) ?_
        obtain ⟨n25, f26, v27, h28, hi29, ev30, hw⟩ := hw
        refine z_iald hx hb hK hM 0 0 h28 rfl hi29 ev30 dM_share_34 ?_
        refine lv_if_ne (tgt := 41) hx hb dM_share_35 (by decide) (fun hq => ?_) (fun hq => ?_)
        · have hw := hw.2 hq
          refine lv_iload_n hx hb dM_share_41 rfl (lv_at hl 3 rfl) ?_
          refine lv_aload_n hx hb dM_share_42 rfl (lv_at hl 0 rfl) ?_
          refine lv_iload hx hb dM_share_43 (lv_at hl 5 rfl) ?_
          refine lv_iconst (v := 1) hx hb dM_share_45 (by decide +kernel) ?_
          obtain ⟨⟨fs37, h38⟩, hw⟩ := hw
          refine va_calli (va_runV (As := [.int l5, .int 1]) (rest := [.int l3]) ⟨hx, hb, hml, hown, htb⟩ (k_M_many (l := l) (D := D) (tc := tc) (A := A) hw) (cw_M_125 htb ⟨Nat.le_of_ble_eq_true rfl, Nat.le_of_ble_eq_true rfl⟩) (z_preV hG hA hS hM h38 rfl) rfl rfl hl.1 rfl (lv_room (Nat.le_of_ble_eq_true rfl)) dM_share_46 ⟨Nat.le_refl _, Nat.le_refl _⟩) hS (fun _ _ h => h) (fun _ h => h) (fun r32 M31 t H locs ht hvm hw hB _ _ hS => ?_)
          have hM : zP D vwCl tc A M31 H := by rw [← ht]; exact hB
          refine lv_iadd hx hb dM_share_49 ?_
          refine lv_istore_n (lv' := [(3, .int (l3 + r32)), (0, .ref l0), (1, .int l1), (2, .int l2), (4, .int l4), (5, .int l5)]) hx hb dM_share_50 rfl hl (by decide) rfl (fun ls hl => ?_)
          refine lv_iload hx hb dM_share_51 (lv_at hl 4 rfl) ?_
          refine lv_aload_n hx hb dM_share_53 rfl (lv_at hl 1 rfl) ?_
          refine lv_iload hx hb dM_share_54 (lv_at hl 5 rfl) ?_
          refine lv_iconst (v := 3) hx hb dM_share_56 (by decide +kernel) ?_
          obtain ⟨⟨fs35, h36⟩, hw⟩ := hw
          refine va_calli (va_runV (As := [.int l5, .int 3]) (rest := [.int l4]) ⟨hx, hb, hml, hown, htb⟩ (k_M_many (l := l) (D := D) (tc := tc) (A := A) hw) (cw_M_125 htb ⟨Nat.le_of_ble_eq_true rfl, Nat.le_of_ble_eq_true rfl⟩) (z_preV hG hA hS hM h36 rfl) rfl rfl hl.1 rfl (lv_room (Nat.le_of_ble_eq_true rfl)) dM_share_57 ⟨Nat.le_refl _, Nat.le_refl _⟩) hS (fun _ _ h => h) (fun _ h => h) (fun r34 M33 t H locs ht hvm hw hB _ _ hS => ?_)
          have hM : zP D vwCl tc A M33 H := by rw [← ht]; exact hB
          refine lv_iadd hx hb dM_share_60 ?_
          refine lv_istore (lv' := [(4, .int (l4 + r34)), (3, .int (l3 + r32)), (0, .ref l0), (1, .int l1), (2, .int l2), (5, .int l5)]) hx hb dM_share_61 hl (by decide) rfl (fun ls hl => ?_)
          exact k_M_share_j63 C0 ih _ _ _ _ _ _ _ _ _ _ hM hS (lv_sub hl [2, 3, 4, 1, 0, 5] rfl) hw
        · have hw := hw.1 hq
          refine lv_goto (tgt := 63) hx hb dM_share_38 (by decide) ?_
          exact k_M_share_j63 C0 ih _ _ _ _ _ _ _ _ _ _ hM hS (lv_sub hl [0, 1, 2, 3, 4, 5] rfl) hw
def w_M_share (e0 : Nat) (post : Int32 → zM → Prop) (M : zM) (h0 : Nat) (x1 : Int32) (x2 : Int32) : Prop := ∃ nn, w_M_share_j8 e0 post nn M h0 x1 x2 0 0 0
set_option maxHeartbeats 4000000 in
set_option maxRecDepth 100000 in
theorem k_M_share {l : Launch} {D : va_G} {tc : Nat → ClassId} {A : Nat → Prop} {post : Int32 → zM → Prop} {M : zM} {h0 : Nat} {x1 : Int32} {x2 : Int32} (hw : w_M_share (tc 9) post M h0 x1 x2) : Met l yM_share (.code yM_share cM_share 8 (some .int) :: zTB) r_M_share (va_Pc [.ref h0, .int x1, .int x2] (zI D tc A M)) (va_Qi post (zB D tc A) A) 0 0 A := by
  refine Met.ofW (cc := cM_share) (maxL := 8) (ret := (some .int)) (by decide +kernel) rfl ?_
  intro p e s m args below meth c s₁ B hml hv
  obtain ⟨rfl, hA, hM, hG⟩ := hv
  have C0 := zC_of (D := D) (tc := tc) (A := A) B hml (zC_ex B) hA hG
  obtain ⟨hx, hb, hml, hr, hown, htb, hlk, hA, hG, hin, hex⟩ := id C0
  have hK := hG.1
  have hS : va_S A s.heap s.heap [] := va_S.rf
  have hl := lv_entry ([.ref h0, .int x1, .int x2]) (n := 8) (Nat.le_of_ble_eq_true rfl)
  rw [lg_entry_eq]
  generalize (lg_sl ([.ref h0, .int x1, .int x2]) ++ List.replicate (8 - (lg_sl ([.ref h0, .int x1, .int x2])).length) Slot.unset).toArray = ls at hl ⊢
  have hl : lv_has ls 8 [(0, .ref h0), (1, .int x1), (2, .int x2)] := hl
  refine lv_iconst (v := 0) hx hb dM_share_0 (by decide +kernel) ?_
  refine lv_istore_n (lv' := [(3, .int 0), (0, .ref h0), (1, .int x1), (2, .int x2)]) hx hb dM_share_1 rfl hl (by decide) rfl (fun ls hl => ?_)
  refine lv_iconst (v := 0) hx hb dM_share_2 (by decide +kernel) ?_
  refine lv_istore (lv' := [(4, .int 0), (3, .int 0), (0, .ref h0), (1, .int x1), (2, .int x2)]) hx hb dM_share_3 hl (by decide) rfl (fun ls hl => ?_)
  refine lv_iconst (v := 0) hx hb dM_share_5 (by decide +kernel) ?_
  refine lv_istore (lv' := [(5, .int 0), (4, .int 0), (3, .int 0), (0, .ref h0), (1, .int x1), (2, .int x2)]) hx hb dM_share_6 hl (by decide) rfl (fun ls hl => ?_)
  obtain ⟨nfu, hw⟩ := hw
  exact k_M_share_j8 C0  nfu _ _ _ _ _ _ _ _ _ _ hM hS (lv_sub hl [3, 4, 5, 2, 1, 0] rfl) hw
abbrev r_M_isSilent : Room := { frames := 0, cells := 0, slots := 0, locals := 0 }
abbrev J_M_isSilent_59 (p : Program) (l : Launch) (e : Env) (s : State) (m : MethodId) (args : Array Value) (below : List Frame) (meth : Method) (c : Code) (D : va_G) (tc : Nat → ClassId) (A : Nat → Prop) (Q : State → Prop) (K : zM → Nat → Int32 → Int32 → Int32 → Prop) : Prop := ∀ (M : zM) (l0 : Nat) (l1 : Int32) (l2 : Int32) (l3 : Int32) (H : Heap) (locs : List Loc) (ls : Array Slot), zP D vwCl tc A M H → va_S A s.heap H locs → lv_has ls 4 [(0, .ref l0), (1, .int l1), (2, .int l2), (3, .int l3)] → K M l0 l1 l2 l3 → W p l e (r_M_isSilent) s m args below meth c H locs 0 0 Q (F0 m 59 ls [])
abbrev J_M_isSilent_4 (p : Program) (l : Launch) (e : Env) (s : State) (m : MethodId) (args : Array Value) (below : List Frame) (meth : Method) (c : Code) (D : va_G) (tc : Nat → ClassId) (A : Nat → Prop) (Q : State → Prop) (K : zM → Nat → Int32 → Int32 → Int32 → Prop) : Prop := ∀ (M : zM) (l0 : Nat) (l1 : Int32) (l2 : Int32) (l3 : Int32) (H : Heap) (locs : List Loc) (ls : Array Slot), zP D vwCl tc A M H → va_S A s.heap H locs → lv_has ls 4 [(0, .ref l0), (1, .int l1), (2, .int l2), (3, .int l3)] → K M l0 l1 l2 l3 → W p l e (r_M_isSilent) s m args below meth c H locs 0 0 Q (F0 m 4 ls [])
def w_M_isSilent_j59 (e0 : Nat) (post : Int32 → zM → Prop) (K4 : zM → Nat → Int32 → Int32 → Int32 → Prop) (M : zM) (l0 : Nat) (l1 : Int32) (l2 : Int32) (l3 : Int32) : Prop := K4 M l0 l1 l2 (l3 + 1)
set_option maxHeartbeats 4000000 in
set_option maxRecDepth 100000 in
theorem k_M_isSilent_j59 {p : Program} {l : Launch} {e : Env} {s : State} {m : MethodId} {args : Array Value} {below : List Frame} {meth : Method} {c : Code} {D : va_G} {tc : Nat → ClassId} {A : Nat → Prop} {post : Int32 → zM → Prop} (C0 : zC R_M cM_isSilent 4 (some .boolean) "isSilent" D tc A p l s m args meth c) {K4 : zM → Nat → Int32 → Int32 → Int32 → Prop} (hK4 : J_M_isSilent_4 p l e s m args below meth c D tc A (MQ below (va_Qi post (zB D tc A) A) args s 0 0 A) K4) : J_M_isSilent_59 p l e s m args below meth c D tc A (MQ below (va_Qi post (zB D tc A) A) args s 0 0 A) (w_M_isSilent_j59 (tc 9) post K4) := by
  obtain ⟨hx, hb, hml, hr, hown, htb, hlk, hA, hG, hin, hex⟩ := id C0
  have hK := hG.1
  intro M l0 l1 l2 l3 H locs ls hM hS hl hw
  refine lv_iinc (v := (l3 + 1)) (lv' := [(3, .int (l3 + 1)), (0, .ref l0), (1, .int l1), (2, .int l2)]) hx hb dM_isSilent_59 hl (k := 3) rfl rfl (by decide) rfl (fun ls hl => ?_)
  refine lv_goto (tgt := 4) hx hb dM_isSilent_62 (by decide) ?_
  exact hK4 _ _ _ _ _ _ _ _ hM hS (lv_sub hl [1, 2, 3, 0] rfl) hw
def w_M_isSilent_j4 (e0 : Nat) (post : Int32 → zM → Prop) : Nat → zM → Nat → Int32 → Int32 → Int32 → Prop
  | 0 => fun _ _ _ _ _ => False
  | n + 1 => fun M l0 l1 l2 l3 => wGI M l0 4 12 (fun v1 => ((v1 ≤ l3) → ((l2 ≤ 2) → post 0 M) ∧ (¬ (l2 ≤ 2) → post 1 M)) ∧ (¬ (v1 ≤ l3) → wGR M l0 4 17 (fun v5 => wLI M v5 0 l3 (fun v11 => ((v11 = 0) → w_M_isSilent_j59 e0 post (w_M_isSilent_j4 e0 post n) M l0 l1 l2 l3) ∧ (¬ (v11 = 0) → wGR M l0 4 18 (fun v15 => wLI M v15 1 ((l3 * 60) + l1) (fun v21 => ((v21 = 0) → w_M_isSilent_j59 e0 post (w_M_isSilent_j4 e0 post n) M l0 l1 l2 l3) ∧ (¬ (v21 = 0) → wGR M l0 4 21 (fun v25 => wLI M v25 0 ((l3 * 60) + l1) (fun v31 => ((v31 = (-2)) → w_M_isSilent_j59 e0 post (w_M_isSilent_j4 e0 post n) M l0 l1 (l2 + 1) l3) ∧ (¬ (v31 = (-2)) → post 0 M)))))))))))
set_option maxHeartbeats 4000000 in
set_option maxRecDepth 100000 in
theorem k_M_isSilent_j4 {p : Program} {l : Launch} {e : Env} {s : State} {m : MethodId} {args : Array Value} {below : List Frame} {meth : Method} {c : Code} {D : va_G} {tc : Nat → ClassId} {A : Nat → Prop} {post : Int32 → zM → Prop} (C0 : zC R_M cM_isSilent 4 (some .boolean) "isSilent" D tc A p l s m args meth c) : ∀ n : Nat, J_M_isSilent_4 p l e s m args below meth c D tc A (MQ below (va_Qi post (zB D tc A) A) args s 0 0 A) (w_M_isSilent_j4 (tc 9) post n) := by
  obtain ⟨hx, hb, hml, hr, hown, htb, hlk, hA, hG, hin, hex⟩ := id C0
  have hK := hG.1
  intro n
  induction n with
  | zero => intro M l0 l1 l2 l3 H locs ls hM hS hl hw; exact hw.elim
  | succ n ih =>
    intro M l0 l1 l2 l3 H locs ls hM hS hl hw
    refine lv_iload_n hx hb dM_isSilent_4 rfl (lv_at hl 3 rfl) ?_
    refine lv_aload_n hx hb dM_isSilent_5 rfl (lv_at hl 0 rfl) ?_
    obtain ⟨fs2, v1, h3, ev4, hw⟩ := hw
    refine z_get hx hb htb inw_M hown hK hM h3 rfl 12 (by decide) (htb _ t_663) (fun _ h9 => h9) ev4 dM_isSilent_6 ?_
    refine lv_icmp_ge (tgt := 65) hx hb dM_isSilent_9 (by decide) (fun hq => ?_) (fun hq => ?_)
    · have hw := hw.1 hq
      refine lv_iload_n hx hb dM_isSilent_65 rfl (lv_at hl 2 rfl) ?_
      refine lv_iconst (v := 2) hx hb dM_isSilent_66 (by decide +kernel) ?_
      refine lv_icmp_le (tgt := 74) hx hb dM_isSilent_67 (by decide) (fun hq => ?_) (fun hq => ?_)
      · have hw := hw.1 hq
        refine lv_iconst (v := 0) hx hb dM_isSilent_74 (by decide +kernel) ?_
        exact W.zret hx hb hr rfl (fun t ht hW => ⟨⟨_, _, rfl, hw, zB_of ht hM⟩, hS.F ht⟩) hS.2.2 dM_isSilent_75
      · have hw := hw.2 hq
        refine lv_iconst (v := 1) hx hb dM_isSilent_70 (by decide +kernel) ?_
        refine lv_goto (tgt := 75) hx hb dM_isSilent_71 (by decide) ?_
        exact W.zret hx hb hr rfl (fun t ht hW => ⟨⟨_, _, rfl, hw, zB_of ht hM⟩, hS.F ht⟩) hS.2.2 dM_isSilent_75
    · have hw := hw.2 hq
      refine lv_aload_n hx hb dM_isSilent_12 rfl (lv_at hl 0 rfl) ?_
      obtain ⟨fs6, v5, h7, ev8, hw⟩ := hw
      refine z_get hx hb htb inw_M hown hK hM h7 rfl 17 (by decide) (htb _ t_668) (fun _ h9 => h9) ev8 dM_isSilent_13 ?_
      refine lv_iload_n hx hb dM_isSilent_16 rfl (lv_at hl 3 rfl) ?_
      obtain ⟨n9, f10, v11, h12, hi13, ev14, hw⟩ := hw
      refine z_iald hx hb hK hM 0 0 h12 rfl hi13 ev14 dM_isSilent_17 ?_
      refine lv_if_eq (tgt := 59) hx hb dM_isSilent_18 (by decide) (fun hq => ?_) (fun hq => ?_)
      · have hw := hw.1 hq
        exact k_M_isSilent_j59 C0 ih _ _ _ _ _ _ _ _ hM hS (lv_sub hl [0, 1, 2, 3] rfl) hw
      · have hw := hw.2 hq
        refine lv_aload_n hx hb dM_isSilent_21 rfl (lv_at hl 0 rfl) ?_
        obtain ⟨fs16, v15, h17, ev18, hw⟩ := hw
        refine z_get hx hb htb inw_M hown hK hM h17 rfl 18 (by decide) (htb _ t_669) (fun _ h9 => h9) ev18 dM_isSilent_22 ?_
        refine lv_iload_n hx hb dM_isSilent_25 rfl (lv_at hl 3 rfl) ?_
        refine lv_bipush (v := 60) hx hb dM_isSilent_26 (by decide +kernel) ?_
        refine lv_imul hx hb dM_isSilent_28 ?_
        refine lv_iload_n hx hb dM_isSilent_29 rfl (lv_at hl 1 rfl) ?_
        refine lv_iadd hx hb dM_isSilent_30 ?_
        obtain ⟨n19, f20, v21, h22, hi23, ev24, hw⟩ := hw
        refine z_zald hx hb hK hM 1 1 h22 rfl hi23 ev24 dM_isSilent_31 ?_
        refine lv_if_ne (tgt := 38) hx hb dM_isSilent_32 (by decide) (fun hq => ?_) (fun hq => ?_)
        · have hw := hw.2 hq
          refine lv_aload_n hx hb dM_isSilent_38 rfl (lv_at hl 0 rfl) ?_
          obtain ⟨fs26, v25, h27, ev28, hw⟩ := hw
          refine z_get hx hb htb inw_M hown hK hM h27 rfl 21 (by decide) (htb _ t_672) (fun _ h9 => h9) ev28 dM_isSilent_39 ?_
          refine lv_iload_n hx hb dM_isSilent_42 rfl (lv_at hl 3 rfl) ?_
          refine lv_bipush (v := 60) hx hb dM_isSilent_43 (by decide +kernel) ?_
          refine lv_imul hx hb dM_isSilent_45 ?_
          refine lv_iload_n hx hb dM_isSilent_46 rfl (lv_at hl 1 rfl) ?_
          refine lv_iadd hx hb dM_isSilent_47 ?_
          obtain ⟨n29, f30, v31, h32, hi33, ev34, hw⟩ := hw
          refine z_iald hx hb hK hM 0 0 h32 rfl hi33 ev34 dM_isSilent_48 ?_
          refine lv_bipush (v := (-2)) hx hb dM_isSilent_49 (by decide +kernel) ?_
          refine lv_icmp_eq (tgt := 56) hx hb dM_isSilent_51 (by decide) (fun hq => ?_) (fun hq => ?_)
          · have hw := hw.1 hq
            refine lv_iinc (v := (l2 + 1)) (lv' := [(2, .int (l2 + 1)), (0, .ref l0), (1, .int l1), (3, .int l3)]) hx hb dM_isSilent_56 hl (k := 2) rfl rfl (by decide) rfl (fun ls hl => ?_)
            exact k_M_isSilent_j59 C0 ih _ _ _ _ _ _ _ _ hM hS (lv_sub hl [1, 2, 0, 3] rfl) hw
          · have hw := hw.2 hq
            refine lv_iconst (v := 0) hx hb dM_isSilent_54 (by decide +kernel) ?_
            exact W.zret hx hb hr rfl (fun t ht hW => ⟨⟨_, _, rfl, hw, zB_of ht hM⟩, hS.F ht⟩) hS.2.2 dM_isSilent_55
        · have hw := hw.1 hq
          refine lv_goto (tgt := 59) hx hb dM_isSilent_35 (by decide) ?_
          exact k_M_isSilent_j59 C0 ih _ _ _ _ _ _ _ _ hM hS (lv_sub hl [0, 1, 2, 3] rfl) hw
def w_M_isSilent (e0 : Nat) (post : Int32 → zM → Prop) (M : zM) (h0 : Nat) (x1 : Int32) : Prop := ∃ nn, w_M_isSilent_j4 e0 post nn M h0 x1 0 0
set_option maxHeartbeats 4000000 in
set_option maxRecDepth 100000 in
theorem k_M_isSilent {l : Launch} {D : va_G} {tc : Nat → ClassId} {A : Nat → Prop} {post : Int32 → zM → Prop} {M : zM} {h0 : Nat} {x1 : Int32} (hw : w_M_isSilent (tc 9) post M h0 x1) : Met l yM_isSilent (.code yM_isSilent cM_isSilent 4 (some .boolean) :: zTB) r_M_isSilent (va_Pc [.ref h0, .int x1] (zI D tc A M)) (va_Qi post (zB D tc A) A) 0 0 A := by
  refine Met.ofW (cc := cM_isSilent) (maxL := 4) (ret := (some .boolean)) (by decide +kernel) rfl ?_
  intro p e s m args below meth c s₁ B hml hv
  obtain ⟨rfl, hA, hM, hG⟩ := hv
  have C0 := zC_of (D := D) (tc := tc) (A := A) B hml (zC_ex B) hA hG
  obtain ⟨hx, hb, hml, hr, hown, htb, hlk, hA, hG, hin, hex⟩ := id C0
  have hK := hG.1
  have hS : va_S A s.heap s.heap [] := va_S.rf
  have hl := lv_entry ([.ref h0, .int x1]) (n := 4) (Nat.le_of_ble_eq_true rfl)
  rw [lg_entry_eq]
  generalize (lg_sl ([.ref h0, .int x1]) ++ List.replicate (4 - (lg_sl ([.ref h0, .int x1])).length) Slot.unset).toArray = ls at hl ⊢
  have hl : lv_has ls 4 [(0, .ref h0), (1, .int x1)] := hl
  refine lv_iconst (v := 0) hx hb dM_isSilent_0 (by decide +kernel) ?_
  refine lv_istore_n (lv' := [(2, .int 0), (0, .ref h0), (1, .int x1)]) hx hb dM_isSilent_1 rfl hl (by decide) rfl (fun ls hl => ?_)
  refine lv_iconst (v := 0) hx hb dM_isSilent_2 (by decide +kernel) ?_
  refine lv_istore_n (lv' := [(3, .int 0), (2, .int 0), (0, .ref h0), (1, .int x1)]) hx hb dM_isSilent_3 rfl hl (by decide) rfl (fun ls hl => ?_)
  obtain ⟨nfu, hw⟩ := hw
  exact k_M_isSilent_j4 C0  nfu _ _ _ _ _ _ _ _ hM hS (lv_sub hl [2, 3, 1, 0] rfl) hw
abbrev r_M_never : Room := { frames := 1, cells := 0, slots := 0, locals := 23 }
abbrev J_M_never_52 (p : Program) (l : Launch) (e : Env) (s : State) (m : MethodId) (args : Array Value) (below : List Frame) (meth : Method) (c : Code) (D : va_G) (tc : Nat → ClassId) (A : Nat → Prop) (Q : State → Prop) (K : zM → Nat → Int32 → Int32 → Prop) : Prop := ∀ (M : zM) (l0 : Nat) (l2 : Int32) (l3 : Int32) (H : Heap) (locs : List Loc) (ls : Array Slot), zP D vwCl tc A M H → va_S A s.heap H locs → lv_has ls 4 [(0, .ref l0), (2, .int l2), (3, .int l3)] → K M l0 l2 l3 → W p l e (r_M_never) s m args below meth c H locs 0 0 Q (F0 m 52 ls [])
abbrev J_M_never_24 (p : Program) (l : Launch) (e : Env) (s : State) (m : MethodId) (args : Array Value) (below : List Frame) (meth : Method) (c : Code) (D : va_G) (tc : Nat → ClassId) (A : Nat → Prop) (Q : State → Prop) (K : zM → Nat → Int32 → Int32 → Prop) : Prop := ∀ (M : zM) (l0 : Nat) (l2 : Int32) (l3 : Int32) (H : Heap) (locs : List Loc) (ls : Array Slot), zP D vwCl tc A M H → va_S A s.heap H locs → lv_has ls 4 [(0, .ref l0), (2, .int l2), (3, .int l3)] → K M l0 l2 l3 → W p l e (r_M_never) s m args below meth c H locs 0 0 Q (F0 m 24 ls [])
abbrev J_M_never_10 (p : Program) (l : Launch) (e : Env) (s : State) (m : MethodId) (args : Array Value) (below : List Frame) (meth : Method) (c : Code) (D : va_G) (tc : Nat → ClassId) (A : Nat → Prop) (Q : State → Prop) (K : zM → Nat → Int32 → Int32 → Nat → Prop) : Prop := ∀ (M : zM) (l0 : Nat) (l1 : Int32) (s0 : Int32) (s1 : Nat) (H : Heap) (locs : List Loc) (ls : Array Slot), zP D vwCl tc A M H → va_S A s.heap H locs → lv_has ls 4 [(0, .ref l0), (1, .int l1)] → K M l0 l1 s0 s1 → W p l e (r_M_never) s m args below meth c H locs 0 0 Q (F0 m 10 ls [.int s0, .ref s1])
def w_M_never_j52 (e0 : Nat) (post : Int32 → zM → Prop) (K24 : zM → Nat → Int32 → Int32 → Prop) (M : zM) (l0 : Nat) (l2 : Int32) (l3 : Int32) : Prop := K24 M l0 l2 (l3 + 1)
set_option maxHeartbeats 4000000 in
set_option maxRecDepth 100000 in
theorem k_M_never_j52 {p : Program} {l : Launch} {e : Env} {s : State} {m : MethodId} {args : Array Value} {below : List Frame} {meth : Method} {c : Code} {D : va_G} {tc : Nat → ClassId} {A : Nat → Prop} {post : Int32 → zM → Prop} (C0 : zC R_M cM_never 4 (some .int) "never" D tc A p l s m args meth c) {K24 : zM → Nat → Int32 → Int32 → Prop} (hK24 : J_M_never_24 p l e s m args below meth c D tc A (MQ below (va_Qi post (zB D tc A) A) args s 0 0 A) K24) : J_M_never_52 p l e s m args below meth c D tc A (MQ below (va_Qi post (zB D tc A) A) args s 0 0 A) (w_M_never_j52 (tc 9) post K24) := by
  obtain ⟨hx, hb, hml, hr, hown, htb, hlk, hA, hG, hin, hex⟩ := id C0
  have hK := hG.1
  intro M l0 l2 l3 H locs ls hM hS hl hw
  refine lv_iinc (v := (l3 + 1)) (lv' := [(3, .int (l3 + 1)), (0, .ref l0), (2, .int l2)]) hx hb dM_never_52 hl (k := 2) rfl rfl (by decide) rfl (fun ls hl => ?_)
  refine lv_goto (tgt := 24) hx hb dM_never_55 (by decide) ?_
  exact hK24 _ _ _ _ _ _ _ hM hS (lv_sub hl [1, 2, 0] rfl) hw
def w_M_never_j24 (e0 : Nat) (post : Int32 → zM → Prop) : Nat → zM → Nat → Int32 → Int32 → Prop
  | 0 => fun _ _ _ _ => False
  | n + 1 => fun M l0 l2 l3 => wGI M l0 4 6 (fun v1 => ((v1 ≤ l3) → post (-1) M) ∧ (¬ (v1 ≤ l3) → wIs M l0 4 ∧ w_M_isSilent e0 (fun r6 M5 => ((r6 = 0) → w_M_never_j52 e0 post (w_M_never_j24 e0 post n) M5 l0 l2 l3) ∧ (¬ (r6 = 0) → ((l2 = 0) → post l3 M5) ∧ (¬ (l2 = 0) → w_M_never_j52 e0 post (w_M_never_j24 e0 post n) M5 l0 (l2 + (-1)) l3))) M l0 l3))
set_option maxHeartbeats 4000000 in
set_option maxRecDepth 100000 in
theorem k_M_never_j24 {p : Program} {l : Launch} {e : Env} {s : State} {m : MethodId} {args : Array Value} {below : List Frame} {meth : Method} {c : Code} {D : va_G} {tc : Nat → ClassId} {A : Nat → Prop} {post : Int32 → zM → Prop} (C0 : zC R_M cM_never 4 (some .int) "never" D tc A p l s m args meth c) : ∀ n : Nat, J_M_never_24 p l e s m args below meth c D tc A (MQ below (va_Qi post (zB D tc A) A) args s 0 0 A) (w_M_never_j24 (tc 9) post n) := by
  obtain ⟨hx, hb, hml, hr, hown, htb, hlk, hA, hG, hin, hex⟩ := id C0
  have hK := hG.1
  intro n
  induction n with
  | zero => intro M l0 l2 l3 H locs ls hM hS hl hw; exact hw.elim
  | succ n ih =>
    intro M l0 l2 l3 H locs ls hM hS hl hw
    refine lv_iload_n hx hb dM_never_24 rfl (lv_at hl 2 rfl) ?_
    refine lv_aload_n hx hb dM_never_25 rfl (lv_at hl 0 rfl) ?_
    obtain ⟨fs2, v1, h3, ev4, hw⟩ := hw
    refine z_get hx hb htb inw_M hown hK hM h3 rfl 6 (by decide) (htb _ t_657) (fun _ h9 => h9) ev4 dM_never_26 ?_
    refine lv_icmp_ge (tgt := 58) hx hb dM_never_29 (by decide) (fun hq => ?_) (fun hq => ?_)
    · have hw := hw.1 hq
      refine lv_iconst (v := (-1)) hx hb dM_never_58 (by decide +kernel) ?_
      exact W.iret hx hb hr (fun t ht hW => ⟨⟨_, _, rfl, hw, zB_of ht hM⟩, hS.F ht⟩) hS.2.2 dM_never_59
    · have hw := hw.2 hq
      refine lv_aload_n hx hb dM_never_32 rfl (lv_at hl 0 rfl) ?_
      refine lv_iload_n hx hb dM_never_33 rfl (lv_at hl 2 rfl) ?_
      obtain ⟨⟨fs7, h8⟩, hw⟩ := hw
      refine va_calli (va_runV (As := [.int l3]) (rest := []) ⟨hx, hb, hml, hown, htb⟩ (k_M_isSilent (l := l) (D := D) (tc := tc) (A := A) hw) (cw_M_129 htb ⟨Nat.le_of_ble_eq_true rfl, Nat.le_of_ble_eq_true rfl⟩) (z_preV hG hA hS hM h8 rfl) rfl rfl hl.1 rfl (lv_room (Nat.le_of_ble_eq_true rfl)) dM_never_34 ⟨Nat.le_refl _, Nat.le_refl _⟩) hS (fun _ _ h => h) (fun _ h => h) (fun r6 M5 t H locs ht hvm hw hB _ _ hS => ?_)
      have hM : zP D vwCl tc A M5 H := by rw [← ht]; exact hB
      refine lv_if_ne (tgt := 43) hx hb dM_never_37 (by decide) (fun hq => ?_) (fun hq => ?_)
      · have hw := hw.2 hq
        refine lv_iload_n hx hb dM_never_43 rfl (lv_at hl 1 rfl) ?_
        refine lv_if_ne (tgt := 49) hx hb dM_never_44 (by decide) (fun hq => ?_) (fun hq => ?_)
        · have hw := hw.2 hq
          refine lv_iinc (v := (l2 + (-1))) (lv' := [(2, .int (l2 + (-1))), (0, .ref l0), (3, .int l3)]) hx hb dM_never_49 hl (k := 1) rfl rfl (by decide) rfl (fun ls hl => ?_)
          exact k_M_never_j52 C0 ih _ _ _ _ _ _ _ hM hS (lv_sub hl [1, 0, 2] rfl) hw
        · have hw := hw.1 hq
          refine lv_iload_n hx hb dM_never_47 rfl (lv_at hl 2 rfl) ?_
          exact W.iret hx hb hr (fun t ht hW => ⟨⟨_, _, rfl, hw, zB_of ht hM⟩, hS.F ht⟩) hS.2.2 dM_never_48
      · have hw := hw.1 hq
        refine lv_goto (tgt := 52) hx hb dM_never_40 (by decide) ?_
        exact k_M_never_j52 C0 ih _ _ _ _ _ _ _ hM hS (lv_sub hl [0, 1, 2] rfl) hw
def w_M_never_j10 (e0 : Nat) (post : Int32 → zM → Prop) (M : zM) (l0 : Nat) (l1 : Int32) (s0 : Int32) (s1 : Nat) : Prop := wIs M s1 4 ∧ w_M_goes e0 (fun r2 M1 => ((r2 = 0) → post 0 M1) ∧ (¬ (r2 = 0) → ∃ nn, w_M_never_j24 e0 post nn M1 l0 l1 0)) M s1 s0 1 1
set_option maxHeartbeats 4000000 in
set_option maxRecDepth 100000 in
theorem k_M_never_j10 {p : Program} {l : Launch} {e : Env} {s : State} {m : MethodId} {args : Array Value} {below : List Frame} {meth : Method} {c : Code} {D : va_G} {tc : Nat → ClassId} {A : Nat → Prop} {post : Int32 → zM → Prop} (C0 : zC R_M cM_never 4 (some .int) "never" D tc A p l s m args meth c) : J_M_never_10 p l e s m args below meth c D tc A (MQ below (va_Qi post (zB D tc A) A) args s 0 0 A) (w_M_never_j10 (tc 9) post) := by
  obtain ⟨hx, hb, hml, hr, hown, htb, hlk, hA, hG, hin, hex⟩ := id C0
  have hK := hG.1
  intro M l0 l1 s0 s1 H locs ls hM hS hl hw
  refine lv_iconst (v := 1) hx hb dM_never_10 (by decide +kernel) ?_
  refine lv_iconst (v := 1) hx hb dM_never_11 (by decide +kernel) ?_
  obtain ⟨⟨fs3, h4⟩, hw⟩ := hw
  refine va_calli (va_runV (As := [.int s0, .int 1, .int 1]) (rest := []) ⟨hx, hb, hml, hown, htb⟩ (k_M_goes (l := l) (D := D) (tc := tc) (A := A) hw) (cw_M_79 htb ⟨Nat.le_of_ble_eq_true rfl, Nat.le_of_ble_eq_true rfl⟩) (z_preV hG hA hS hM h4 rfl) rfl rfl hl.1 rfl (lv_room (Nat.le_of_ble_eq_true rfl)) dM_never_12 ⟨Nat.le_refl _, Nat.le_refl _⟩) hS (fun _ _ h => h) (fun _ h => h) (fun r2 M1 t H locs ht hvm hw hB _ _ hS => ?_)
  have hM : zP D vwCl tc A M1 H := by rw [← ht]; exact hB
  refine lv_if_ne (tgt := 20) hx hb dM_never_15 (by decide) (fun hq => ?_) (fun hq => ?_)
  · have hw := hw.2 hq
    refine lv_iload_n hx hb dM_never_20 rfl (lv_at hl 1 rfl) ?_
    refine lv_istore_n (lv' := [(2, .int l1), (0, .ref l0), (1, .int l1)]) hx hb dM_never_21 rfl hl (by decide) rfl (fun ls hl => ?_)
    refine lv_iconst (v := 0) hx hb dM_never_22 (by decide +kernel) ?_
    refine lv_istore_n (lv' := [(3, .int 0), (2, .int l1), (0, .ref l0), (1, .int l1)]) hx hb dM_never_23 rfl hl (by decide) rfl (fun ls hl => ?_)
    obtain ⟨nfu, hw⟩ := hw
    exact k_M_never_j24 C0  nfu _ _ _ _ _ _ _ hM hS (lv_sub hl [2, 1, 0] rfl) hw
  · have hw := hw.1 hq
    refine lv_iconst (v := 0) hx hb dM_never_18 (by decide +kernel) ?_
    exact W.iret hx hb hr (fun t ht hW => ⟨⟨_, _, rfl, hw, zB_of ht hM⟩, hS.F ht⟩) hS.2.2 dM_never_19
def w_M_never (e0 : Nat) (post : Int32 → zM → Prop) (M : zM) (h0 : Nat) (x1 : Int32) : Prop := ((x1 < 0) → w_M_never_j10 e0 post M h0 x1 0 h0) ∧ (¬ (x1 < 0) → w_M_never_j10 e0 post M h0 x1 1 h0)
set_option maxHeartbeats 4000000 in
set_option maxRecDepth 100000 in
theorem k_M_never {l : Launch} {D : va_G} {tc : Nat → ClassId} {A : Nat → Prop} {post : Int32 → zM → Prop} {M : zM} {h0 : Nat} {x1 : Int32} (hw : w_M_never (tc 9) post M h0 x1) : Met l yM_never (.code yM_never cM_never 4 (some .int) :: zTB) r_M_never (va_Pc [.ref h0, .int x1] (zI D tc A M)) (va_Qi post (zB D tc A) A) 0 0 A := by
  refine Met.ofW (cc := cM_never) (maxL := 4) (ret := (some .int)) (by decide +kernel) rfl ?_
  intro p e s m args below meth c s₁ B hml hv
  obtain ⟨rfl, hA, hM, hG⟩ := hv
  have C0 := zC_of (D := D) (tc := tc) (A := A) B hml (zC_ex B) hA hG
  obtain ⟨hx, hb, hml, hr, hown, htb, hlk, hA, hG, hin, hex⟩ := id C0
  have hK := hG.1
  have hS : va_S A s.heap s.heap [] := va_S.rf
  have hl := lv_entry ([.ref h0, .int x1]) (n := 4) (Nat.le_of_ble_eq_true rfl)
  rw [lg_entry_eq]
  generalize (lg_sl ([.ref h0, .int x1]) ++ List.replicate (4 - (lg_sl ([.ref h0, .int x1])).length) Slot.unset).toArray = ls at hl ⊢
  have hl : lv_has ls 4 [(0, .ref h0), (1, .int x1)] := hl
  refine lv_aload_n hx hb dM_never_0 rfl (lv_at hl 0 rfl) ?_
  refine lv_iload_n hx hb dM_never_1 rfl (lv_at hl 1 rfl) ?_
  refine lv_if_lt (tgt := 9) hx hb dM_never_2 (by decide) (fun hq => ?_) (fun hq => ?_)
  · have hw := hw.1 hq
    refine lv_iconst (v := 0) hx hb dM_never_9 (by decide +kernel) ?_
    exact k_M_never_j10 C0  _ _ _ _ _ _ _ _ hM hS (lv_sub hl [0, 1] rfl) hw
  · have hw := hw.2 hq
    refine lv_iconst (v := 1) hx hb dM_never_5 (by decide +kernel) ?_
    refine lv_goto (tgt := 10) hx hb dM_never_6 (by decide) ?_
    exact k_M_never_j10 C0  _ _ _ _ _ _ _ _ hM hS (lv_sub hl [0, 1] rfl) hw
abbrev r_M_count : Room := { frames := 1, cells := 0, slots := 0, locals := 23 }
abbrev J_M_count_41 (p : Program) (l : Launch) (e : Env) (s : State) (m : MethodId) (args : Array Value) (below : List Frame) (meth : Method) (c : Code) (D : va_G) (tc : Nat → ClassId) (A : Nat → Prop) (Q : State → Prop) (K : zM → Nat → Int32 → Int32 → Int32 → Prop) : Prop := ∀ (M : zM) (l0 : Nat) (l1 : Int32) (l2 : Int32) (l3 : Int32) (H : Heap) (locs : List Loc) (ls : Array Slot), zP D vwCl tc A M H → va_S A s.heap H locs → lv_has ls 4 [(0, .ref l0), (1, .int l1), (2, .int l2), (3, .int l3)] → K M l0 l1 l2 l3 → W p l e (r_M_count) s m args below meth c H locs 0 0 Q (F0 m 41 ls [])
abbrev J_M_count_21 (p : Program) (l : Launch) (e : Env) (s : State) (m : MethodId) (args : Array Value) (below : List Frame) (meth : Method) (c : Code) (D : va_G) (tc : Nat → ClassId) (A : Nat → Prop) (Q : State → Prop) (K : zM → Nat → Int32 → Int32 → Int32 → Prop) : Prop := ∀ (M : zM) (l0 : Nat) (l1 : Int32) (l2 : Int32) (l3 : Int32) (H : Heap) (locs : List Loc) (ls : Array Slot), zP D vwCl tc A M H → va_S A s.heap H locs → lv_has ls 4 [(0, .ref l0), (1, .int l1), (2, .int l2), (3, .int l3)] → K M l0 l1 l2 l3 → W p l e (r_M_count) s m args below meth c H locs 0 0 Q (F0 m 21 ls [])
def w_M_count_j41 (e0 : Nat) (post : Int32 → zM → Prop) (K21 : zM → Nat → Int32 → Int32 → Int32 → Prop) (M : zM) (l0 : Nat) (l1 : Int32) (l2 : Int32) (l3 : Int32) : Prop := K21 M l0 l1 l2 (l3 + 1)
set_option maxHeartbeats 4000000 in
set_option maxRecDepth 100000 in
theorem k_M_count_j41 {p : Program} {l : Launch} {e : Env} {s : State} {m : MethodId} {args : Array Value} {below : List Frame} {meth : Method} {c : Code} {D : va_G} {tc : Nat → ClassId} {A : Nat → Prop} {post : Int32 → zM → Prop} (C0 : zC R_M cM_count 4 (some .int) "count" D tc A p l s m args meth c) {K21 : zM → Nat → Int32 → Int32 → Int32 → Prop} (hK21 : J_M_count_21 p l e s m args below meth c D tc A (MQ below (va_Qi post (zB D tc A) A) args s 0 0 A) K21) : J_M_count_41 p l e s m args below meth c D tc A (MQ below (va_Qi post (zB D tc A) A) args s 0 0 A) (w_M_count_j41 (tc 9) post K21) := by
  obtain ⟨hx, hb, hml, hr, hown, htb, hlk, hA, hG, hin, hex⟩ := id C0
  have hK := hG.1
  intro M l0 l1 l2 l3 H locs ls hM hS hl hw
  refine lv_iinc (v := (l3 + 1)) (lv' := [(3, .int (l3 + 1)), (0, .ref l0), (1, .int l1), (2, .int l2)]) hx hb dM_count_41 hl (k := 3) rfl rfl (by decide) rfl (fun ls hl => ?_)
  refine lv_goto (tgt := 21) hx hb dM_count_44 (by decide) ?_
  exact hK21 _ _ _ _ _ _ _ _ hM hS (lv_sub hl [1, 2, 3, 0] rfl) hw
def w_M_count_j21 (e0 : Nat) (post : Int32 → zM → Prop) : Nat → zM → Nat → Int32 → Int32 → Int32 → Prop
  | 0 => fun _ _ _ _ _ => False
  | n + 1 => fun M l0 l1 l2 l3 => wGI M l0 4 12 (fun v1 => ((v1 ≤ l3) → ((l1 = 0) → wGI M l0 4 1 (fun v17 => post v17 M)) ∧ (¬ (l1 = 0) → ((l1 = 1) → post l2 M) ∧ (¬ (l1 = 1) → ((l1 = 2) → wGI M l0 4 22 (fun v13 => post v13 M)) ∧ (¬ (l1 = 2) → ((l1 = 3) → wGI M l0 4 23 (fun v9 => post v9 M)) ∧ (¬ (l1 = 3) → wGI M l0 4 24 (fun v5 => post v5 M)))))) ∧ (¬ (v1 ≤ l3) → wGR M l0 4 17 (fun v21 => wLI M v21 0 l3 (fun v27 => ((v27 = 0) → w_M_count_j41 e0 post (w_M_count_j21 e0 post n) M l0 l1 (l2 + 1) l3) ∧ (¬ (v27 = 0) → w_M_count_j41 e0 post (w_M_count_j21 e0 post n) M l0 l1 l2 l3)))))
set_option maxHeartbeats 4000000 in
set_option maxRecDepth 100000 in
theorem k_M_count_j21 {p : Program} {l : Launch} {e : Env} {s : State} {m : MethodId} {args : Array Value} {below : List Frame} {meth : Method} {c : Code} {D : va_G} {tc : Nat → ClassId} {A : Nat → Prop} {post : Int32 → zM → Prop} (C0 : zC R_M cM_count 4 (some .int) "count" D tc A p l s m args meth c) : ∀ n : Nat, J_M_count_21 p l e s m args below meth c D tc A (MQ below (va_Qi post (zB D tc A) A) args s 0 0 A) (w_M_count_j21 (tc 9) post n) := by
  obtain ⟨hx, hb, hml, hr, hown, htb, hlk, hA, hG, hin, hex⟩ := id C0
  have hK := hG.1
  intro n
  induction n with
  | zero => intro M l0 l1 l2 l3 H locs ls hM hS hl hw; exact hw.elim
  | succ n ih =>
    intro M l0 l1 l2 l3 H locs ls hM hS hl hw
    refine lv_iload_n hx hb dM_count_21 rfl (lv_at hl 3 rfl) ?_
    refine lv_aload_n hx hb dM_count_22 rfl (lv_at hl 0 rfl) ?_
    obtain ⟨fs2, v1, h3, ev4, hw⟩ := hw
    refine z_get hx hb htb inw_M hown hK hM h3 rfl 12 (by decide) (htb _ t_663) (fun _ h9 => h9) ev4 dM_count_23 ?_
    refine lv_icmp_ge (tgt := 47) hx hb dM_count_26 (by decide) (fun hq => ?_) (fun hq => ?_)
    · have hw := hw.1 hq
      refine lv_iload_n hx hb dM_count_47 rfl (lv_at hl 1 rfl) ?_
      refine lv_if_ne (tgt := 58) hx hb dM_count_48 (by decide) (fun hq => ?_) (fun hq => ?_)
      · have hw := hw.2 hq
        refine lv_iload_n hx hb dM_count_58 rfl (lv_at hl 1 rfl) ?_
        refine lv_iconst (v := 1) hx hb dM_count_59 (by decide +kernel) ?_
        refine lv_icmp_ne (tgt := 67) hx hb dM_count_60 (by decide) (fun hq => ?_) (fun hq => ?_)
        · have hw := hw.2 hq
          refine lv_iload_n hx hb dM_count_67 rfl (lv_at hl 1 rfl) ?_
          refine lv_iconst (v := 2) hx hb dM_count_68 (by decide +kernel) ?_
          refine lv_icmp_ne (tgt := 79) hx hb dM_count_69 (by decide) (fun hq => ?_) (fun hq => ?_)
          · have hw := hw.2 hq
            refine lv_iload_n hx hb dM_count_79 rfl (lv_at hl 1 rfl) ?_
            refine lv_iconst (v := 3) hx hb dM_count_80 (by decide +kernel) ?_
            refine lv_icmp_ne (tgt := 91) hx hb dM_count_81 (by decide) (fun hq => ?_) (fun hq => ?_)
            · have hw := hw.2 hq
              refine lv_aload_n hx hb dM_count_91 rfl (lv_at hl 0 rfl) ?_
              obtain ⟨fs6, v5, h7, ev8, hw⟩ := hw
              refine z_get hx hb htb inw_M hown hK hM h7 rfl 24 (by decide) (htb _ t_675) (fun _ h9 => h9) ev8 dM_count_92 ?_
              exact W.iret hx hb hr (fun t ht hW => ⟨⟨_, _, rfl, hw, zB_of ht hM⟩, hS.F ht⟩) hS.2.2 dM_count_95
            · have hw := hw.1 hq
              refine lv_aload_n hx hb dM_count_84 rfl (lv_at hl 0 rfl) ?_
              obtain ⟨fs10, v9, h11, ev12, hw⟩ := hw
              refine z_get hx hb htb inw_M hown hK hM h11 rfl 23 (by decide) (htb _ t_674) (fun _ h9 => h9) ev12 dM_count_85 ?_
              refine lv_goto (tgt := 95) hx hb dM_count_88 (by decide) ?_
              exact W.iret hx hb hr (fun t ht hW => ⟨⟨_, _, rfl, hw, zB_of ht hM⟩, hS.F ht⟩) hS.2.2 dM_count_95
          · have hw := hw.1 hq
            refine lv_aload_n hx hb dM_count_72 rfl (lv_at hl 0 rfl) ?_
            obtain ⟨fs14, v13, h15, ev16, hw⟩ := hw
            refine z_get hx hb htb inw_M hown hK hM h15 rfl 22 (by decide) (htb _ t_673) (fun _ h9 => h9) ev16 dM_count_73 ?_
            refine lv_goto (tgt := 95) hx hb dM_count_76 (by decide) ?_
            exact W.iret hx hb hr (fun t ht hW => ⟨⟨_, _, rfl, hw, zB_of ht hM⟩, hS.F ht⟩) hS.2.2 dM_count_95
        · have hw := hw.1 hq
          refine lv_iload_n hx hb dM_count_63 rfl (lv_at hl 2 rfl) ?_
          refine lv_goto (tgt := 95) hx hb dM_count_64 (by decide) ?_
          exact W.iret hx hb hr (fun t ht hW => ⟨⟨_, _, rfl, hw, zB_of ht hM⟩, hS.F ht⟩) hS.2.2 dM_count_95
      · have hw := hw.1 hq
        refine lv_aload_n hx hb dM_count_51 rfl (lv_at hl 0 rfl) ?_
        obtain ⟨fs18, v17, h19, ev20, hw⟩ := hw
        refine z_get hx hb htb inw_M hown hK hM h19 rfl 1 (by decide) (htb _ t_652) (fun _ h9 => h9) ev20 dM_count_52 ?_
        refine lv_goto (tgt := 95) hx hb dM_count_55 (by decide) ?_
        exact W.iret hx hb hr (fun t ht hW => ⟨⟨_, _, rfl, hw, zB_of ht hM⟩, hS.F ht⟩) hS.2.2 dM_count_95
    · have hw := hw.2 hq
      refine lv_aload_n hx hb dM_count_29 rfl (lv_at hl 0 rfl) ?_
      obtain ⟨fs22, v21, h23, ev24, hw⟩ := hw
      refine z_get hx hb htb inw_M hown hK hM h23 rfl 17 (by decide) (htb _ t_668) (fun _ h9 => h9) ev24 dM_count_30 ?_
      refine lv_iload_n hx hb dM_count_33 rfl (lv_at hl 3 rfl) ?_
      obtain ⟨n25, f26, v27, h28, hi29, ev30, hw⟩ := hw
      refine z_iald hx hb hK hM 0 0 h28 rfl hi29 ev30 dM_count_34 ?_
      refine lv_if_ne (tgt := 41) hx hb dM_count_35 (by decide) (fun hq => ?_) (fun hq => ?_)
      · have hw := hw.2 hq
        exact k_M_count_j41 C0 ih _ _ _ _ _ _ _ _ hM hS (lv_sub hl [0, 1, 2, 3] rfl) hw
      · have hw := hw.1 hq
        refine lv_iinc (v := (l2 + 1)) (lv' := [(2, .int (l2 + 1)), (0, .ref l0), (1, .int l1), (3, .int l3)]) hx hb dM_count_38 hl (k := 2) rfl rfl (by decide) rfl (fun ls hl => ?_)
        exact k_M_count_j41 C0 ih _ _ _ _ _ _ _ _ hM hS (lv_sub hl [1, 2, 0, 3] rfl) hw
def w_M_count (e0 : Nat) (post : Int32 → zM → Prop) (M : zM) (h0 : Nat) (x1 : Int32) : Prop := w_M_in e0 (fun r2 M1 => wIs M1 h0 4 ∧ w_M_goes e0 (fun r4 M3 => ((r4 = 0) → post 0 M3) ∧ (¬ (r4 = 0) → ∃ nn, w_M_count_j21 e0 post nn M3 h0 x1 0 0)) M1 h0 r2 1 1) M x1 0 4
set_option maxHeartbeats 4000000 in
set_option maxRecDepth 100000 in
theorem k_M_count {l : Launch} {D : va_G} {tc : Nat → ClassId} {A : Nat → Prop} {post : Int32 → zM → Prop} {M : zM} {h0 : Nat} {x1 : Int32} (hw : w_M_count (tc 9) post M h0 x1) : Met l yM_count (.code yM_count cM_count 4 (some .int) :: zTB) r_M_count (va_Pc [.ref h0, .int x1] (zI D tc A M)) (va_Qi post (zB D tc A) A) 0 0 A := by
  refine Met.ofW (cc := cM_count) (maxL := 4) (ret := (some .int)) (by decide +kernel) rfl ?_
  intro p e s m args below meth c s₁ B hml hv
  obtain ⟨rfl, hA, hM, hG⟩ := hv
  have C0 := zC_of (D := D) (tc := tc) (A := A) B hml (zC_ex B) hA hG
  obtain ⟨hx, hb, hml, hr, hown, htb, hlk, hA, hG, hin, hex⟩ := id C0
  have hK := hG.1
  have hS : va_S A s.heap s.heap [] := va_S.rf
  have hl := lv_entry ([.ref h0, .int x1]) (n := 4) (Nat.le_of_ble_eq_true rfl)
  rw [lg_entry_eq]
  generalize (lg_sl ([.ref h0, .int x1]) ++ List.replicate (4 - (lg_sl ([.ref h0, .int x1])).length) Slot.unset).toArray = ls at hl ⊢
  have hl : lv_has ls 4 [(0, .ref h0), (1, .int x1)] := hl
  refine lv_aload_n hx hb dM_count_0 rfl (lv_at hl 0 rfl) ?_
  refine lv_iload_n hx hb dM_count_1 rfl (lv_at hl 1 rfl) ?_
  refine lv_iconst (v := 0) hx hb dM_count_2 (by decide +kernel) ?_
  refine lv_iconst (v := 4) hx hb dM_count_3 (by decide +kernel) ?_
  refine va_calli (va_runS (As := [.int x1, .int 0, .int 4]) (rest := [.ref h0]) ⟨hx, hb, hml, hown, htb⟩ (k_M_in (l := l) (D := D) (tc := tc) (A := A) hw) (cw_M_69 htb ⟨Nat.le_of_ble_eq_true rfl, Nat.le_of_ble_eq_true rfl⟩) (z_preS hG hA hS hM) rfl rfl hl.1 rfl (lv_room (Nat.le_of_ble_eq_true rfl)) dM_count_4 ⟨Nat.le_refl _, Nat.le_refl _⟩) hS (fun _ _ h => h) (fun _ h => h) (fun r2 M1 t H locs ht hvm hw hB _ _ hS => ?_)
  have hM : zP D vwCl tc A M1 H := by rw [← ht]; exact hB
  refine lv_iconst (v := 1) hx hb dM_count_7 (by decide +kernel) ?_
  refine lv_iconst (v := 1) hx hb dM_count_8 (by decide +kernel) ?_
  obtain ⟨⟨fs5, h6⟩, hw⟩ := hw
  refine va_calli (va_runV (As := [.int r2, .int 1, .int 1]) (rest := []) ⟨hx, hb, hml, hown, htb⟩ (k_M_goes (l := l) (D := D) (tc := tc) (A := A) hw) (cw_M_79 htb ⟨Nat.le_of_ble_eq_true rfl, Nat.le_of_ble_eq_true rfl⟩) (z_preV hG hA hS hM h6 rfl) rfl rfl hl.1 rfl (lv_room (Nat.le_of_ble_eq_true rfl)) dM_count_9 ⟨Nat.le_refl _, Nat.le_refl _⟩) hS (fun _ _ h => h) (fun _ h => h) (fun r4 M3 t H locs ht hvm hw hB _ _ hS => ?_)
  have hM : zP D vwCl tc A M3 H := by rw [← ht]; exact hB
  refine lv_if_ne (tgt := 17) hx hb dM_count_12 (by decide) (fun hq => ?_) (fun hq => ?_)
  · have hw := hw.2 hq
    refine lv_iconst (v := 0) hx hb dM_count_17 (by decide +kernel) ?_
    refine lv_istore_n (lv' := [(2, .int 0), (0, .ref h0), (1, .int x1)]) hx hb dM_count_18 rfl hl (by decide) rfl (fun ls hl => ?_)
    refine lv_iconst (v := 0) hx hb dM_count_19 (by decide +kernel) ?_
    refine lv_istore_n (lv' := [(3, .int 0), (2, .int 0), (0, .ref h0), (1, .int x1)]) hx hb dM_count_20 rfl hl (by decide) rfl (fun ls hl => ?_)
    obtain ⟨nfu, hw⟩ := hw
    exact k_M_count_j21 C0  nfu _ _ _ _ _ _ _ _ hM hS (lv_sub hl [2, 3, 1, 0] rfl) hw
  · have hw := hw.1 hq
    refine lv_iconst (v := 0) hx hb dM_count_15 (by decide +kernel) ?_
    exact W.iret hx hb hr (fun t ht hW => ⟨⟨_, _, rfl, hw, zB_of ht hM⟩, hS.F ht⟩) hS.2.2 dM_count_16
