/-! The law: class and reference side by side, call after call. -/
section LAW
variable {e0 x m o : Nat} {ad : Nat → Nat}
def FR (m o : Nat) (ad : Nat → Nat) (a : Nat) : Prop := a = m ∨ a = o ∨ ∃ j ∈ mIs, a = ad j
def MS (e0 : Nat) (M : zM) (x m o : Nat) (ad : Nat → Nat) (Z : Zc) (C : Sm) (nn : Nat → Nat) (S : Sm) : Prop :=
  RCx e0 M (fun a => ¬ FR m o ad a) M Z C x nn ∧ RM M m ad S ∧ (∃ f : Nat → Int64, M o = some (.inl (3, 1, .inr (.inl f)))) ∧ o ≠ m ∧ ∀ j ∈ mIs, o ≠ ad j
def LQ9 (e0 : Nat) (M : zM) (x m o : Nat) (ad : Nat → Nat) : Prop := ∃ (Z : Zc) (C : Sm) (nn : Nat → Nat) (G : Gs), MS e0 M x m o ad Z C nn (encS G) ∧ Inv G ∧ RQ G C
section
variable {M M' : zM} {Z Z' : Zc} {C C' : Sm} {nn nn' : Nat → Nat} {S S' : Sm}
theorem ms_fr (h : MS e0 M x m o ad Z C nn S) {a : Nat} (ha : FR m o ad a) : M a ≠ none := by
  obtain ⟨-, hR, ⟨f, hf⟩, -⟩ := h
  rcases ha with rfl | rfl | ⟨j, hj, rfl⟩
  · rw [hR.1]; exact Option.some_ne_none _
  · rw [hf]; exact Option.some_ne_none _
  · rw [hR.2.1 j hj]; exact Option.some_ne_none _
theorem ms_used (h : MS e0 M x m o ad Z C nn S) {k i : Nat} (hu : cUs C Z.2.1 k i) : ¬ FR m o ad (Z.1 k i) := fun ha => by
  rcases h.1.1.2.2 k i hu with q | q
  · exact q ha
  · exact ms_fr h ha q
theorem ms_class (h : MS e0 M x m o ad Z C nn S) (h' : RCx e0 M (fun a => ¬ FR m o ad a) M' Z' C' x nn') : MS e0 M' x m o ad Z' C' nn' S := by
  have K : ∀ a, FR m o ad a → M' a = M a := fun a ha => h'.1.2.1 a (ms_fr h ha) (fun z => z ha)
  refine ⟨⟨⟨h'.1.1, fun _ _ _ => rfl, fun k i hu => Or.inl (fun ha => ?_)⟩, h'.2⟩, ⟨?_, fun j hj => ?_, h.2.1.2.2⟩, ?_, h.2.2.2⟩
  · rcases h'.1.2.2 k i hu with q | q
    · exact q ha
    · exact ms_fr h ha q
  · rw [K m (Or.inl rfl)]; exact h.2.1.1
  · rw [K (ad j) (Or.inr (Or.inr ⟨j, hj, rfl⟩))]; exact h.2.1.2.1 j hj
  · rw [K o (Or.inr (Or.inl rfl))]; exact h.2.2.1
theorem ms_kept (h : MS e0 M x m o ad Z C nn S) (hk : ∀ a, ¬ FR m o ad a → M' a = M a) (hR : RM M' m ad S') (ho : ∃ f : Nat → Int64, M' o = some (.inl (3, 1, .inr (.inl f)))) : MS e0 M' x m o ad Z C nn S' :=
  ⟨⟨⟨⟨fun k i hu => cOk_kept (hk _ (ms_used h hu)) (h.1.1.1.1 k i hu), h.1.1.1.2.1, h.1.1.1.2.2⟩, fun _ _ _ => rfl, fun k i hu => Or.inl (ms_used h hu)⟩, h.1.2⟩, hR, ho, h.2.2.2⟩
theorem in01 : vp_in (0 : Int32) 1 := by
  have := vp_in_nI (n := 0) (N := 1) (by decide) (by decide)
  rw [nI_0] at this
  exact this
theorem cl0 : (0 : Int32).toNatClampNeg = 0 := by decide
theorem ms_out (h : MS e0 M x m o ad Z C nn S) {v : Int64} {K : zM → Prop} (hK : ∀ (M' : zM) (f : Nat → Int64), MS e0 M' x m o ad Z C nn S → M' o = some (.inl (3, 1, .inr (.inl f))) → f 0 = v → K M') : wSJ M o 3 0 v K := by
  obtain ⟨f, hf⟩ := h.2.2.1
  refine ⟨1, f, hf, in01, hK _ _ (ms_kept h (fun a ha => va_up_ne _ _ (fun z => ha (Or.inr (Or.inl z)))) ⟨?_, fun j hj => ?_, h.2.1.2.2⟩ ⟨_, va_up_self _ _ _⟩) (va_up_self _ _ _) ?_⟩
  · rw [va_up_ne _ _ (Ne.symm h.2.2.2.1)]; exact h.2.1.1
  · rw [va_up_ne _ _ (Ne.symm (h.2.2.2.2 j hj))]; exact h.2.1.2.1 j hj
  · rw [cl0]; exact pk_uLs
theorem ms_ref (h : MS e0 M x m o ad Z C nn S) (hR : RMf M M' m ad S') : MS e0 M' x m o ad Z C nn S' ∧ M' o = M o := by
  have e := hR.2 o h.2.2.2.1 h.2.2.2.2
  exact ⟨ms_kept h (fun a ha => hR.2 a (fun z => ha (Or.inl z)) (fun j hj z => ha (Or.inr (Or.inr ⟨j, hj, z⟩)))) hR.1 (by rw [e]; exact h.2.2.1), e⟩
theorem ms_rmf (h : MS e0 M x m o ad Z C nn S) : RMf M M m ad S := ⟨h.2.1, fun _ _ _ => rfl⟩
theorem lg_self (v : Int64) : lg_cmp v v = 0 := by
  unfold lg_cmp
  rw [if_neg (fun z => absurd (Int64.lt_iff_toInt_lt.mp z) (Int.lt_irrefl _)), if_pos rfl]
variable {G : Gs} {N : zM → Prop}
theorem fin_ret {r : Int32} {f : Nat → Int64} (wM : (Int32 → zM → Prop) → zM → Prop) (vM : (Int32 → Sm → Prop) → Sm → Prop)
    (hl : ∀ (M0 M : zM) (S : Sm) (post : Int32 → Sm → Prop) (po : Int32 → zM → Prop), RMf M0 M m ad S → vM post S → (∀ (r : Int32) (M : zM) (S : Sm), RMf M0 M m ad S → post r S → po r M) → wM po M)
    (hM : MS e0 M x m o ad Z C nn (encS G)) (hv : vM (fun b S' => b = r ∧ Fin9 C S' 0) (encS G)) (hf : M o = some (.inl (3, 1, .inr (.inl f)))) (h0 : f 0 = r.toInt64) (hN : ∀ M', LQ9 e0 M' x m o ad → N M') :
    wIs M m 4 ∧ wM (fun r23 M22 => wIs M22 m 4 ∧ w_M_thrown e0 (fun r25 M24 => ((r25 = 0) → (((0 : Int32) = 0) → wLJ M24 o 3 0 (fun v28 => (((lg_cmp v28 (r23.toInt64)) = 0) → N M24) ∧ (¬ ((lg_cmp v28 (r23.toInt64)) = 0) → False))) ∧ (¬ ((0 : Int32) = 0) → N M24)) ∧ (¬ (r25 = 0) → False)) M22 m) M := by
  refine ⟨⟨_, hM.2.1.1⟩, hl M M (encS G) _ _ (ms_rmf hM) hv (fun b M1 S1 hR1 hq => ?_)⟩
  obtain ⟨eb, G', hI', hQ', eS, h00⟩ := hq
  subst eb
  subst eS
  have hM1 := (ms_ref hM hR1).1
  refine ⟨⟨_, hM1.2.1.1⟩, lf_M_thrown (M0 := M) (post := fun r S => r = 0 ∧ S = encS G') hR1 ⟨?_, rfl⟩ (fun r2 M2 S2 hR2 hq2 => ?_)⟩
  · show enc 0 (G' 0 0) = 0
    rw [h00]; rfl
  · obtain ⟨e1, e2⟩ := hq2
    subst e1
    subst e2
    obtain ⟨hM2, ho2⟩ := ms_ref hM hR2
    have hL := hN M2 ⟨Z, C, nn, G', hM2, hI', hQ'⟩
    refine ⟨fun _ => ⟨fun _ => ⟨1, f, _, by rw [ho2]; exact hf, in01, rfl, fun _ => hL, fun z => z ?_⟩, fun z => absurd rfl z⟩, fun z => z rfl⟩
    rw [cl0, h0]
    exact lg_self _
theorem fin_thr {c : Int32} (k : Nat) (hc : c = nI k) (hc0 : ¬ c = 0) (wM : (Int32 → zM → Prop) → zM → Prop) (vM : (Int32 → Sm → Prop) → Sm → Prop)
    (hl : ∀ (M0 M : zM) (S : Sm) (post : Int32 → Sm → Prop) (po : Int32 → zM → Prop), RMf M0 M m ad S → vM post S → (∀ (r : Int32) (M : zM) (S : Sm), RMf M0 M m ad S → post r S → po r M) → wM po M)
    (hM : MS e0 M x m o ad Z C nn (encS G)) (hv : vM (fun _ S' => Fin9 C S' k) (encS G)) (hN : ∀ M', LQ9 e0 M' x m o ad → N M') :
    wIs M m 4 ∧ wM (fun r23 M22 => wIs M22 m 4 ∧ w_M_thrown e0 (fun r25 M24 => ((r25 = c) → ((c = 0) → wLJ M24 o 3 0 (fun v28 => (((lg_cmp v28 (r23.toInt64)) = 0) → N M24) ∧ (¬ ((lg_cmp v28 (r23.toInt64)) = 0) → False))) ∧ (¬ (c = 0) → N M24)) ∧ (¬ (r25 = c) → False)) M22 m) M := by
  refine ⟨⟨_, hM.2.1.1⟩, hl M M (encS G) _ _ (ms_rmf hM) hv (fun b M1 S1 hR1 hq => ?_)⟩
  obtain ⟨G', hI', hQ', eS, h00⟩ := hq
  subst eS
  have hM1 := (ms_ref hM hR1).1
  refine ⟨⟨_, hM1.2.1.1⟩, lf_M_thrown (M0 := M) (post := fun r S => r = c ∧ S = encS G') hR1 ⟨?_, rfl⟩ (fun r2 M2 S2 hR2 hq2 => ?_)⟩
  · show enc 0 (G' 0 0) = c
    rw [h00, hc]; rfl
  · obtain ⟨e1, e2⟩ := hq2
    subst e1
    subst e2
    have hM2 := (ms_ref hM hR2).1
    exact ⟨fun _ => ⟨fun z => absurd z hc0, fun _ => hN M2 ⟨Z, C, nn, G', hM2, hI', hQ'⟩⟩, fun z => z rfl⟩
theorem fin_void {c : Int32} (k : Nat) (hc : c = nI k) (wM : (zM → Prop) → zM → Prop) (vM : (Sm → Prop) → Sm → Prop)
    (hl : ∀ (M0 M : zM) (S : Sm) (post : Sm → Prop) (po : zM → Prop), RMf M0 M m ad S → vM post S → (∀ (M : zM) (S : Sm), RMf M0 M m ad S → post S → po M) → wM po M)
    (hM : MS e0 M x m o ad Z C nn (encS G)) (hv : vM (fun S' => Fin9 C S' k) (encS G)) (hN : ∀ M', LQ9 e0 M' x m o ad → N M') :
    wIs M m 4 ∧ wM (fun M22 => wIs M22 m 4 ∧ w_M_thrown e0 (fun r25 M24 => ((r25 = c) → N M24) ∧ (¬ (r25 = c) → False)) M22 m) M := by
  refine ⟨⟨_, hM.2.1.1⟩, hl M M (encS G) _ _ (ms_rmf hM) hv (fun M1 S1 hR1 hq => ?_)⟩
  obtain ⟨G', hI', hQ', eS, h00⟩ := hq
  subst eS
  have hM1 := (ms_ref hM hR1).1
  refine ⟨⟨_, hM1.2.1.1⟩, lf_M_thrown (M0 := M) (post := fun r S => r = c ∧ S = encS G') hR1 ⟨?_, rfl⟩ (fun r2 M2 S2 hR2 hq2 => ?_)⟩
  · show enc 0 (G' 0 0) = c
    rw [h00, hc]; rfl
  · obtain ⟨e1, e2⟩ := hq2
    subst e1
    subst e2
    have hM2 := (ms_ref hM hR2).1
    exact ⟨fun _ => hN M2 ⟨Z, C, nn, G', hM2, hI', hQ'⟩, fun z => z rfl⟩
end
theorem sc_at {L k j : Nat} {xs : Nat → Int32} {c : Int32} {K : Int32 → Prop} (hc : nI k + c = nI j) (hj : j < L) (hL : L ≤ 2048) (h : K (xs j)) : wSC L xs (nI k + c) K :=
  ⟨xs j, by rw [hc]; exact vp_in_nI hj (by omega), by rw [hc, nI_clamp (by omega)], h⟩
theorem sc_0 {L k : Nat} {xs : Nat → Int32} {K : Int32 → Prop} (hj : k < L) (hL : L ≤ 2048) (h : K (xs k)) : wSC L xs (nI k) K :=
  ⟨xs k, vp_in_nI hj (by omega), by rw [nI_clamp (by omega)], h⟩
theorem ww_group {M : zM} {P : Int32 → zM → Prop} {N : zM → Prop} (y1 : Int32) (y2 : Int32) (hS : LQ9 e0 M x m o ad) (hN : ∀ M', LQ9 e0 M' x m o ad → N M') (hP : ∀ (c : Int32) (M1 : zM), (wIs M1 m 4 ∧ w_M_group e0 (fun r23 M22 => wIs M22 m 4 ∧ w_M_thrown e0 (fun r25 M24 => ((r25 = c) → ((c = 0) → wLJ M24 o 3 0 (fun v28 => (((lg_cmp v28 (r23.toInt64)) = 0) → N M24) ∧ (¬ ((lg_cmp v28 (r23.toInt64)) = 0) → False))) ∧ (¬ (c = 0) → N M24)) ∧ (¬ (r25 = c) → False)) M22 m) M1 m y1 y2) → P c M1) : w_W_group e0 P 250 14000 M x y1 y2 o := by
  obtain ⟨Z, C, nn, G, hM, hI, hQ⟩ := hS
  refine ⟨cx_is9 hM.1, 250, 14000, Nat.le_refl _, Nat.le_refl _, lc_A_group hM.1 (op_group hI hQ (by decide) (by decide)) ?_ ?_⟩
  · exact (fun r M1 Z1 C1 nn1 hR1 hv => ms_out (ms_class hM hR1) (fun M2 f hM2 hf h0 => hP 0 M2 (fin_ret (fun po M => w_M_group e0 po M m y1 y2) (fun po S => v_M_group po S y1 y2) (fun _ _ _ _ _ a b c => lf_M_group a b c) hM2 hv hf h0 hN)))
  · exact (fun E M1 Z1 C1 nn1 hR1 q9 => q9.imp (fun q => ⟨q.1, hP 1 M1 (fin_thr 1 rfl (by decide) (fun po M => w_M_group e0 po M m y1 y2) (fun po S => v_M_group po S y1 y2) (fun _ _ _ _ _ a b c => lf_M_group a b c) (ms_class hM hR1) q.2 hN)⟩) (fun q => ⟨q.1, hP 2 M1 (fin_thr 2 rfl (by decide) (fun po M => w_M_group e0 po M m y1 y2) (fun po S => v_M_group po S y1 y2) (fun _ _ _ _ _ a b c => lf_M_group a b c) (ms_class hM hR1) q.2 hN)⟩))
theorem ww_next {M : zM} {P : Int32 → zM → Prop} {N : zM → Prop} (y1 : Int32) (y2 : Int32) (hS : LQ9 e0 M x m o ad) (hN : ∀ M', LQ9 e0 M' x m o ad → N M') (hP : ∀ (c : Int32) (M1 : zM), (wIs M1 m 4 ∧ w_M_next e0 (fun M22 => wIs M22 m 4 ∧ w_M_thrown e0 (fun r25 M24 => ((r25 = c) → N M24) ∧ (¬ (r25 = c) → False)) M22 m) M1 m y1 y2) → P c M1) : w_W_next e0 P 250 14000 M x y1 y2 := by
  obtain ⟨Z, C, nn, G, hM, hI, hQ⟩ := hS
  refine ⟨cx_is9 hM.1, 250, 14000, Nat.le_refl _, Nat.le_refl _, lc_A_next hM.1 (op_next hI hQ (by decide) (by decide)) ?_ ?_⟩
  · exact (fun M1 C1 hR1 hv => hP 0 M1 (fin_void 0 rfl (fun po M => w_M_next e0 po M m y1 y2) (fun po S => v_M_next po S y1 y2) (fun _ _ _ _ _ a b c => lf_M_next a b c) (ms_class hM hR1) hv hN))
  · exact (fun E M1 C1 hR1 q9 => q9.imp (fun q => ⟨q.1, hP 1 M1 (fin_void 1 rfl (fun po M => w_M_next e0 po M m y1 y2) (fun po S => v_M_next po S y1 y2) (fun _ _ _ _ _ a b c => lf_M_next a b c) (ms_class hM hR1) q.2 hN)⟩) (fun q => ⟨q.1, hP 2 M1 (fin_void 2 rfl (fun po M => w_M_next e0 po M m y1 y2) (fun po S => v_M_next po S y1 y2) (fun _ _ _ _ _ a b c => lf_M_next a b c) (ms_class hM hR1) q.2 hN)⟩))
theorem ww_person {M : zM} {P : Int32 → zM → Prop} {N : zM → Prop} (y1 : Int32) (hS : LQ9 e0 M x m o ad) (hN : ∀ M', LQ9 e0 M' x m o ad → N M') (hP : ∀ (c : Int32) (M1 : zM), (wIs M1 m 4 ∧ w_M_person e0 (fun r23 M22 => wIs M22 m 4 ∧ w_M_thrown e0 (fun r25 M24 => ((r25 = c) → ((c = 0) → wLJ M24 o 3 0 (fun v28 => (((lg_cmp v28 (r23.toInt64)) = 0) → N M24) ∧ (¬ ((lg_cmp v28 (r23.toInt64)) = 0) → False))) ∧ (¬ (c = 0) → N M24)) ∧ (¬ (r25 = c) → False)) M22 m) M1 m y1) → P c M1) : w_W_person e0 P 250 14000 M x y1 o := by
  obtain ⟨Z, C, nn, G, hM, hI, hQ⟩ := hS
  refine ⟨cx_is9 hM.1, 250, 14000, Nat.le_refl _, Nat.le_refl _, lc_A_person hM.1 (op_person hI hQ (by decide) (by decide)) ?_ ?_⟩
  · exact (fun r M1 Z1 C1 nn1 hR1 hv => ms_out (ms_class hM hR1) (fun M2 f hM2 hf h0 => hP 0 M2 (fin_ret (fun po M => w_M_person e0 po M m y1) (fun po S => v_M_person po S y1) (fun _ _ _ _ _ a b c => lf_M_person a b c) hM2 hv hf h0 hN)))
  · exact (fun E M1 Z1 C1 nn1 hR1 q9 => q9.imp (fun q => ⟨q.1, hP 1 M1 (fin_thr 1 rfl (by decide) (fun po M => w_M_person e0 po M m y1) (fun po S => v_M_person po S y1) (fun _ _ _ _ _ a b c => lf_M_person a b c) (ms_class hM hR1) q.2 hN)⟩) (fun q => ⟨q.1, hP 2 M1 (fin_thr 2 rfl (by decide) (fun po M => w_M_person e0 po M m y1) (fun po S => v_M_person po S y1) (fun _ _ _ _ _ a b c => lf_M_person a b c) (ms_class hM hR1) q.2 hN)⟩))
theorem ww_way {M : zM} {P : Int32 → zM → Prop} {N : zM → Prop} (y1 : Int32) (y2 : Int32) (y3 : Int32) (hb : y3 = 0 ∨ y3 = 1) (hS : LQ9 e0 M x m o ad) (hN : ∀ M', LQ9 e0 M' x m o ad → N M') (hP : ∀ (c : Int32) (M1 : zM), (wIs M1 m 4 ∧ w_M_way e0 (fun r23 M22 => wIs M22 m 4 ∧ w_M_thrown e0 (fun r25 M24 => ((r25 = c) → ((c = 0) → wLJ M24 o 3 0 (fun v28 => (((lg_cmp v28 (r23.toInt64)) = 0) → N M24) ∧ (¬ ((lg_cmp v28 (r23.toInt64)) = 0) → False))) ∧ (¬ (c = 0) → N M24)) ∧ (¬ (r25 = c) → False)) M22 m) M1 m y1 y2 y3) → P c M1) : w_W_way e0 P 250 14000 M x y1 y2 y3 o := by
  obtain ⟨Z, C, nn, G, hM, hI, hQ⟩ := hS
  refine ⟨cx_is9 hM.1, 250, 14000, Nat.le_refl _, Nat.le_refl _, lc_A_way hM.1 (op_way hb hI hQ (by decide) (by decide)) ?_ ?_⟩
  · exact (fun r M1 C1 hR1 hv => ms_out (ms_class hM hR1) (fun M2 f hM2 hf h0 => hP 0 M2 (fin_ret (fun po M => w_M_way e0 po M m y1 y2 y3) (fun po S => v_M_way po S y1 y2 y3) (fun _ _ _ _ _ a b c => lf_M_way a b c) hM2 hv hf h0 hN)))
  · exact (fun E M1 C1 hR1 q9 => q9.imp (fun q => ⟨q.1, hP 1 M1 (fin_thr 1 rfl (by decide) (fun po M => w_M_way e0 po M m y1 y2 y3) (fun po S => v_M_way po S y1 y2 y3) (fun _ _ _ _ _ a b c => lf_M_way a b c) (ms_class hM hR1) q.2 hN)⟩) (fun q => ⟨q.1, hP 2 M1 (fin_thr 2 rfl (by decide) (fun po M => w_M_way e0 po M m y1 y2 y3) (fun po S => v_M_way po S y1 y2 y3) (fun _ _ _ _ _ a b c => lf_M_way a b c) (ms_class hM hR1) q.2 hN)⟩))
theorem ww_is {M : zM} {P : Int32 → zM → Prop} {N : zM → Prop} (y1 : Int32) (y2 : Int32) (hS : LQ9 e0 M x m o ad) (hN : ∀ M', LQ9 e0 M' x m o ad → N M') (hP : ∀ (c : Int32) (M1 : zM), (wIs M1 m 4 ∧ w_M_is e0 (fun M22 => wIs M22 m 4 ∧ w_M_thrown e0 (fun r25 M24 => ((r25 = c) → N M24) ∧ (¬ (r25 = c) → False)) M22 m) M1 m y1 y2) → P c M1) : w_W_is e0 P 250 14000 M x y1 y2 := by
  obtain ⟨Z, C, nn, G, hM, hI, hQ⟩ := hS
  refine ⟨cx_is9 hM.1, 250, 14000, Nat.le_refl _, Nat.le_refl _, lc_A_is hM.1 (op_is hI hQ (by decide) (by decide)) ?_ ?_⟩
  · exact (fun M1 C1 hR1 hv => hP 0 M1 (fin_void 0 rfl (fun po M => w_M_is e0 po M m y1 y2) (fun po S => v_M_is po S y1 y2) (fun _ _ _ _ _ a b c => lf_M_is a b c) (ms_class hM hR1) hv hN))
  · exact (fun E M1 C1 hR1 q9 => q9.imp (fun q => ⟨q.1, hP 1 M1 (fin_void 1 rfl (fun po M => w_M_is e0 po M m y1 y2) (fun po S => v_M_is po S y1 y2) (fun _ _ _ _ _ a b c => lf_M_is a b c) (ms_class hM hR1) q.2 hN)⟩) (fun q => ⟨q.1, hP 2 M1 (fin_void 2 rfl (fun po M => w_M_is e0 po M m y1 y2) (fun po S => v_M_is po S y1 y2) (fun _ _ _ _ _ a b c => lf_M_is a b c) (ms_class hM hR1) q.2 hN)⟩))
theorem ww_alarm {M : zM} {P : Int32 → zM → Prop} {N : zM → Prop} (y1 : Int32) (y2 : Int32) (hb : y2 = 0 ∨ y2 = 1) (hS : LQ9 e0 M x m o ad) (hN : ∀ M', LQ9 e0 M' x m o ad → N M') (hP : ∀ (c : Int32) (M1 : zM), (wIs M1 m 4 ∧ w_M_alarm e0 (fun r23 M22 => wIs M22 m 4 ∧ w_M_thrown e0 (fun r25 M24 => ((r25 = c) → ((c = 0) → wLJ M24 o 3 0 (fun v28 => (((lg_cmp v28 (r23.toInt64)) = 0) → N M24) ∧ (¬ ((lg_cmp v28 (r23.toInt64)) = 0) → False))) ∧ (¬ (c = 0) → N M24)) ∧ (¬ (r25 = c) → False)) M22 m) M1 m y1 y2) → P c M1) : w_W_alarm e0 P 250 14000 M x y1 y2 o := by
  obtain ⟨Z, C, nn, G, hM, hI, hQ⟩ := hS
  refine ⟨cx_is9 hM.1, 250, 14000, Nat.le_refl _, Nat.le_refl _, lc_A_alarm hM.1 (op_alarm hb hI hQ (by decide) (by decide)) ?_ ?_⟩
  · exact (fun r M1 Z1 C1 nn1 hR1 hv => ms_out (ms_class hM hR1) (fun M2 f hM2 hf h0 => hP 0 M2 (fin_ret (fun po M => w_M_alarm e0 po M m y1 y2) (fun po S => v_M_alarm po S y1 y2) (fun _ _ _ _ _ a b c => lf_M_alarm a b c) hM2 hv hf h0 hN)))
  · exact (fun E M1 Z1 C1 nn1 hR1 q9 => q9.imp (fun q => ⟨q.1, hP 1 M1 (fin_thr 1 rfl (by decide) (fun po M => w_M_alarm e0 po M m y1 y2) (fun po S => v_M_alarm po S y1 y2) (fun _ _ _ _ _ a b c => lf_M_alarm a b c) (ms_class hM hR1) q.2 hN)⟩) (fun q9 => q9.imp (fun q => ⟨q.1, hP 2 M1 (fin_thr 2 rfl (by decide) (fun po M => w_M_alarm e0 po M m y1 y2) (fun po S => v_M_alarm po S y1 y2) (fun _ _ _ _ _ a b c => lf_M_alarm a b c) (ms_class hM hR1) q.2 hN)⟩) (fun q => ⟨q.1, hP 3 M1 (fin_thr 3 rfl (by decide) (fun po M => w_M_alarm e0 po M m y1 y2) (fun po S => v_M_alarm po S y1 y2) (fun _ _ _ _ _ a b c => lf_M_alarm a b c) (ms_class hM hR1) q.2 hN)⟩)))
theorem ww_answer {M : zM} {P : Int32 → zM → Prop} {N : zM → Prop} (y1 : Int32) (y2 : Int32) (y3 : Int32) (hS : LQ9 e0 M x m o ad) (hN : ∀ M', LQ9 e0 M' x m o ad → N M') (hP : ∀ (c : Int32) (M1 : zM), (wIs M1 m 4 ∧ w_M_answer e0 (fun r23 M22 => wIs M22 m 4 ∧ w_M_thrown e0 (fun r25 M24 => ((r25 = c) → ((c = 0) → wLJ M24 o 3 0 (fun v28 => (((lg_cmp v28 (r23.toInt64)) = 0) → N M24) ∧ (¬ ((lg_cmp v28 (r23.toInt64)) = 0) → False))) ∧ (¬ (c = 0) → N M24)) ∧ (¬ (r25 = c) → False)) M22 m) M1 m y1 y2 y3) → P c M1) : w_W_answer e0 P 250 14000 M x y1 y2 y3 o := by
  obtain ⟨Z, C, nn, G, hM, hI, hQ⟩ := hS
  refine ⟨cx_is9 hM.1, 250, 14000, Nat.le_refl _, Nat.le_refl _, lc_A_answer hM.1 (op_answer hI hQ (by decide) (by decide)) ?_ ?_⟩
  · exact (fun r M1 C1 hR1 hv => ms_out (ms_class hM hR1) (fun M2 f hM2 hf h0 => hP 0 M2 (fin_ret (fun po M => w_M_answer e0 po M m y1 y2 y3) (fun po S => v_M_answer po S y1 y2 y3) (fun _ _ _ _ _ a b c => lf_M_answer a b c) hM2 hv hf h0 hN)))
  · exact (fun E M1 C1 hR1 q9 => q9.imp (fun q => ⟨q.1, hP 1 M1 (fin_thr 1 rfl (by decide) (fun po M => w_M_answer e0 po M m y1 y2 y3) (fun po S => v_M_answer po S y1 y2 y3) (fun _ _ _ _ _ a b c => lf_M_answer a b c) (ms_class hM hR1) q.2 hN)⟩) (fun q9 => q9.imp (fun q => ⟨q.1, hP 2 M1 (fin_thr 2 rfl (by decide) (fun po M => w_M_answer e0 po M m y1 y2 y3) (fun po S => v_M_answer po S y1 y2 y3) (fun _ _ _ _ _ a b c => lf_M_answer a b c) (ms_class hM hR1) q.2 hN)⟩) (fun q => ⟨q.1, hP 3 M1 (fin_thr 3 rfl (by decide) (fun po M => w_M_answer e0 po M m y1 y2 y3) (fun po S => v_M_answer po S y1 y2 y3) (fun _ _ _ _ _ a b c => lf_M_answer a b c) (ms_class hM hR1) q.2 hN)⟩)))
theorem ww_tick {M : zM} {P : Int32 → zM → Prop} {N : zM → Prop} (y1 : Int32) (hS : LQ9 e0 M x m o ad) (hN : ∀ M', LQ9 e0 M' x m o ad → N M') (hP : ∀ (c : Int32) (M1 : zM), (wIs M1 m 4 ∧ w_M_tick e0 (fun r23 M22 => wIs M22 m 4 ∧ w_M_thrown e0 (fun r25 M24 => ((r25 = c) → ((c = 0) → wLJ M24 o 3 0 (fun v28 => (((lg_cmp v28 (r23.toInt64)) = 0) → N M24) ∧ (¬ ((lg_cmp v28 (r23.toInt64)) = 0) → False))) ∧ (¬ (c = 0) → N M24)) ∧ (¬ (r25 = c) → False)) M22 m) M1 m y1) → P c M1) : w_W_tick e0 P 250 14000 M x y1 o := by
  obtain ⟨Z, C, nn, G, hM, hI, hQ⟩ := hS
  refine ⟨cx_is9 hM.1, 250, 14000, Nat.le_refl _, Nat.le_refl _, lc_A_tick hM.1 (op_tick hI hQ (by decide) (by decide)) ?_ ?_⟩
  · exact (fun r M1 Z1 C1 nn1 hR1 hv => ms_out (ms_class hM hR1) (fun M2 f hM2 hf h0 => hP 0 M2 (fin_ret (fun po M => w_M_tick e0 po M m y1) (fun po S => v_M_tick po S y1) (fun _ _ _ _ _ a b c => lf_M_tick a b c) hM2 hv hf h0 hN)))
  · exact (fun E M1 Z1 C1 nn1 hR1 q => ⟨q.1, hP 1 M1 (fin_thr 1 rfl (by decide) (fun po M => w_M_tick e0 po M m y1) (fun po S => v_M_tick po S y1) (fun _ _ _ _ _ a b c => lf_M_tick a b c) (ms_class hM hR1) q.2 hN)⟩)
theorem ww_alarmAt {M : zM} {P : Int32 → zM → Prop} {N : zM → Prop} (y1 : Int32) (y2 : Int32) (hS : LQ9 e0 M x m o ad) (hN : ∀ M', LQ9 e0 M' x m o ad → N M') (hP : ∀ (c : Int32) (M1 : zM), (wIs M1 m 4 ∧ w_M_alarmAt e0 (fun r23 M22 => wIs M22 m 4 ∧ w_M_thrown e0 (fun r25 M24 => ((r25 = c) → ((c = 0) → wLJ M24 o 3 0 (fun v28 => (((lg_cmp v28 (r23.toInt64)) = 0) → N M24) ∧ (¬ ((lg_cmp v28 (r23.toInt64)) = 0) → False))) ∧ (¬ (c = 0) → N M24)) ∧ (¬ (r25 = c) → False)) M22 m) M1 m y1 y2) → P c M1) : w_W_alarmAt e0 P 250 14000 M x y1 y2 o := by
  obtain ⟨Z, C, nn, G, hM, hI, hQ⟩ := hS
  refine ⟨cx_is9 hM.1, 250, 14000, Nat.le_refl _, Nat.le_refl _, lc_A_alarmAt hM.1 (op_alarmAt hI hQ (by decide) (by decide)) ?_ ?_⟩
  · exact (fun r M1 C1 hR1 hv => ms_out (ms_class hM hR1) (fun M2 f hM2 hf h0 => hP 0 M2 (fin_ret (fun po M => w_M_alarmAt e0 po M m y1 y2) (fun po S => v_M_alarmAt po S y1 y2) (fun _ _ _ _ _ a b c => lf_M_alarmAt a b c) hM2 hv hf h0 hN)))
  · exact (fun E M1 C1 hR1 q => ⟨q.1, hP 1 M1 (fin_thr 1 rfl (by decide) (fun po M => w_M_alarmAt e0 po M m y1 y2) (fun po S => v_M_alarmAt po S y1 y2) (fun _ _ _ _ _ a b c => lf_M_alarmAt a b c) (ms_class hM hR1) q.2 hN)⟩)
theorem ww_comes {M : zM} {P : Int32 → zM → Prop} {N : zM → Prop} (y1 : Int32) (y2 : Int32) (hS : LQ9 e0 M x m o ad) (hN : ∀ M', LQ9 e0 M' x m o ad → N M') (hP : ∀ (c : Int32) (M1 : zM), (wIs M1 m 4 ∧ w_M_comes e0 (fun r23 M22 => wIs M22 m 4 ∧ w_M_thrown e0 (fun r25 M24 => ((r25 = c) → ((c = 0) → wLJ M24 o 3 0 (fun v28 => (((lg_cmp v28 (r23.toInt64)) = 0) → N M24) ∧ (¬ ((lg_cmp v28 (r23.toInt64)) = 0) → False))) ∧ (¬ (c = 0) → N M24)) ∧ (¬ (r25 = c) → False)) M22 m) M1 m y1 y2) → P c M1) : w_W_comes e0 P 250 14000 M x y1 y2 o := by
  obtain ⟨Z, C, nn, G, hM, hI, hQ⟩ := hS
  refine ⟨cx_is9 hM.1, 250, 14000, Nat.le_refl _, Nat.le_refl _, lc_A_comes hM.1 (op_comes hI hQ (by decide) (by decide)) ?_ ?_⟩
  · exact (fun r M1 C1 hR1 hv => ms_out (ms_class hM hR1) (fun M2 f hM2 hf h0 => hP 0 M2 (fin_ret (fun po M => w_M_comes e0 po M m y1 y2) (fun po S => v_M_comes po S y1 y2) (fun _ _ _ _ _ a b c => lf_M_comes a b c) hM2 hv hf h0 hN)))
  · exact (fun E M1 C1 hR1 q9 => q9.imp (fun q => ⟨q.1, hP 1 M1 (fin_thr 1 rfl (by decide) (fun po M => w_M_comes e0 po M m y1 y2) (fun po S => v_M_comes po S y1 y2) (fun _ _ _ _ _ a b c => lf_M_comes a b c) (ms_class hM hR1) q.2 hN)⟩) (fun q => ⟨q.1, hP 2 M1 (fin_thr 2 rfl (by decide) (fun po M => w_M_comes e0 po M m y1 y2) (fun po S => v_M_comes po S y1 y2) (fun _ _ _ _ _ a b c => lf_M_comes a b c) (ms_class hM hR1) q.2 hN)⟩))
theorem ww_reached {M : zM} {P : Int32 → zM → Prop} {N : zM → Prop} (y1 : Int32) (y2 : Int32) (hS : LQ9 e0 M x m o ad) (hN : ∀ M', LQ9 e0 M' x m o ad → N M') (hP : ∀ (c : Int32) (M1 : zM), (wIs M1 m 4 ∧ w_M_reached e0 (fun r23 M22 => wIs M22 m 4 ∧ w_M_thrown e0 (fun r25 M24 => ((r25 = c) → ((c = 0) → wLJ M24 o 3 0 (fun v28 => (((lg_cmp v28 (r23.toInt64)) = 0) → N M24) ∧ (¬ ((lg_cmp v28 (r23.toInt64)) = 0) → False))) ∧ (¬ (c = 0) → N M24)) ∧ (¬ (r25 = c) → False)) M22 m) M1 m y1 y2) → P c M1) : w_W_reached e0 P 250 14000 M x y1 y2 o := by
  obtain ⟨Z, C, nn, G, hM, hI, hQ⟩ := hS
  refine ⟨cx_is9 hM.1, 250, 14000, Nat.le_refl _, Nat.le_refl _, lc_A_reached hM.1 (op_reached hI hQ (by decide) (by decide)) ?_ ?_⟩
  · exact (fun r M1 C1 hR1 hv => ms_out (ms_class hM hR1) (fun M2 f hM2 hf h0 => hP 0 M2 (fin_ret (fun po M => w_M_reached e0 po M m y1 y2) (fun po S => v_M_reached po S y1 y2) (fun _ _ _ _ _ a b c => lf_M_reached a b c) hM2 hv hf h0 hN)))
  · exact (fun E M1 C1 hR1 q => ⟨q.1, hP 1 M1 (fin_thr 1 rfl (by decide) (fun po M => w_M_reached e0 po M m y1 y2) (fun po S => v_M_reached po S y1 y2) (fun _ _ _ _ _ a b c => lf_M_reached a b c) (ms_class hM hR1) q.2 hN)⟩)
theorem ww_share {M : zM} {P : Int32 → zM → Prop} {N : zM → Prop} (y1 : Int32) (y2 : Int32) (hS : LQ9 e0 M x m o ad) (hN : ∀ M', LQ9 e0 M' x m o ad → N M') (hP : ∀ (c : Int32) (M1 : zM), (wIs M1 m 4 ∧ w_M_share e0 (fun r23 M22 => wIs M22 m 4 ∧ w_M_thrown e0 (fun r25 M24 => ((r25 = c) → ((c = 0) → wLJ M24 o 3 0 (fun v28 => (((lg_cmp v28 (r23.toInt64)) = 0) → N M24) ∧ (¬ ((lg_cmp v28 (r23.toInt64)) = 0) → False))) ∧ (¬ (c = 0) → N M24)) ∧ (¬ (r25 = c) → False)) M22 m) M1 m y1 y2) → P c M1) : w_W_share e0 P 250 14000 M x y1 y2 o := by
  obtain ⟨Z, C, nn, G, hM, hI, hQ⟩ := hS
  refine ⟨cx_is9 hM.1, 250, 14000, Nat.le_refl _, Nat.le_refl _, lc_A_share hM.1 (op_share hI hQ (by decide) (by decide)) ?_ ?_⟩
  · exact (fun r M1 C1 hR1 hv => ms_out (ms_class hM hR1) (fun M2 f hM2 hf h0 => hP 0 M2 (fin_ret (fun po M => w_M_share e0 po M m y1 y2) (fun po S => v_M_share po S y1 y2) (fun _ _ _ _ _ a b c => lf_M_share a b c) hM2 hv hf h0 hN)))
  · exact (fun E M1 C1 hR1 q9 => q9.imp (fun q => ⟨q.1, hP 1 M1 (fin_thr 1 rfl (by decide) (fun po M => w_M_share e0 po M m y1 y2) (fun po S => v_M_share po S y1 y2) (fun _ _ _ _ _ a b c => lf_M_share a b c) (ms_class hM hR1) q.2 hN)⟩) (fun q => ⟨q.1, hP 2 M1 (fin_thr 2 rfl (by decide) (fun po M => w_M_share e0 po M m y1 y2) (fun po S => v_M_share po S y1 y2) (fun _ _ _ _ _ a b c => lf_M_share a b c) (ms_class hM hR1) q.2 hN)⟩))
theorem ww_never {M : zM} {P : Int32 → zM → Prop} {N : zM → Prop} (y1 : Int32) (hS : LQ9 e0 M x m o ad) (hN : ∀ M', LQ9 e0 M' x m o ad → N M') (hP : ∀ (c : Int32) (M1 : zM), (wIs M1 m 4 ∧ w_M_never e0 (fun r23 M22 => wIs M22 m 4 ∧ w_M_thrown e0 (fun r25 M24 => ((r25 = c) → ((c = 0) → wLJ M24 o 3 0 (fun v28 => (((lg_cmp v28 (r23.toInt64)) = 0) → N M24) ∧ (¬ ((lg_cmp v28 (r23.toInt64)) = 0) → False))) ∧ (¬ (c = 0) → N M24)) ∧ (¬ (r25 = c) → False)) M22 m) M1 m y1) → P c M1) : w_W_never e0 P 250 14000 M x y1 o := by
  obtain ⟨Z, C, nn, G, hM, hI, hQ⟩ := hS
  refine ⟨cx_is9 hM.1, 250, 14000, Nat.le_refl _, Nat.le_refl _, lc_A_never hM.1 (op_never hI hQ (by decide) (by decide)) ?_ ?_⟩
  · exact (fun r M1 C1 hR1 hv => ms_out (ms_class hM hR1) (fun M2 f hM2 hf h0 => hP 0 M2 (fin_ret (fun po M => w_M_never e0 po M m y1) (fun po S => v_M_never po S y1) (fun _ _ _ _ _ a b c => lf_M_never a b c) hM2 hv hf h0 hN)))
  · exact (fun E M1 C1 hR1 q => ⟨q.1, hP 1 M1 (fin_thr 1 rfl (by decide) (fun po M => w_M_never e0 po M m y1) (fun po S => v_M_never po S y1) (fun _ _ _ _ _ a b c => lf_M_never a b c) (ms_class hM hR1) q.2 hN)⟩)
theorem ww_count {M : zM} {P : Int32 → zM → Prop} {N : zM → Prop} (y1 : Int32) (hS : LQ9 e0 M x m o ad) (hN : ∀ M', LQ9 e0 M' x m o ad → N M') (hP : ∀ (c : Int32) (M1 : zM), (wIs M1 m 4 ∧ w_M_count e0 (fun r23 M22 => wIs M22 m 4 ∧ w_M_thrown e0 (fun r25 M24 => ((r25 = c) → ((c = 0) → wLJ M24 o 3 0 (fun v28 => (((lg_cmp v28 (r23.toInt64)) = 0) → N M24) ∧ (¬ ((lg_cmp v28 (r23.toInt64)) = 0) → False))) ∧ (¬ (c = 0) → N M24)) ∧ (¬ (r25 = c) → False)) M22 m) M1 m y1) → P c M1) : w_W_count e0 P 250 14000 M x y1 o := by
  obtain ⟨Z, C, nn, G, hM, hI, hQ⟩ := hS
  refine ⟨cx_is9 hM.1, 250, 14000, Nat.le_refl _, Nat.le_refl _, lc_A_count hM.1 (op_count hI hQ (by decide) (by decide)) ?_ ?_⟩
  · exact (fun r M1 C1 hR1 hv => ms_out (ms_class hM hR1) (fun M2 f hM2 hf h0 => hP 0 M2 (fin_ret (fun po M => w_M_count e0 po M m y1) (fun po S => v_M_count po S y1) (fun _ _ _ _ _ a b c => lf_M_count a b c) hM2 hv hf h0 hN)))
  · exact (fun E M1 C1 hR1 q => ⟨q.1, hP 1 M1 (fin_thr 1 rfl (by decide) (fun po M => w_M_count e0 po M m y1) (fun po S => v_M_count po S y1) (fun _ _ _ _ _ a b c => lf_M_count a b c) (ms_class hM hR1) q.2 hN)⟩)
theorem hc1 (k : Nat) : nI k + 1 = nI (k + 1) := nI_1 k
theorem hc2 (k : Nat) : nI k + 2 = nI (k + 2) := nI_add k 2
theorem hc3 (k : Nat) : nI k + 3 = nI (k + 3) := nI_add k 3
theorem hc4 (k : Nat) : nI k + 4 = nI (k + 4) := nI_add k 4
theorem law_loop {L : Nat} {xs : Nat → Int32} (hL : L ≤ 2048) : ∀ d k mc ms M, L ≤ k + 4 * d + 3 → k ≤ L → 250 * d ≤ mc → 14000 * d ≤ ms → LQ9 e0 M x m o ad → w_W_law_j23 e0 L xs (d + 1) mc ms M x m o (nI k) := by
  intro d
  induction d with
  | zero =>
    intro k mc ms M hk hkL _ _ hS
    refine ⟨nI L, rfl, fun _ => trivial, fun z => absurd ?_ z⟩
    rw [i_lt, show (4 : Int32) = nI 4 from rfl, pk_sub_toInt (by omega) (by decide), nI_toInt (by omega)]
    omega
  | succ d ih =>
    intro k mc ms M hk hkL hmc hms hS
    refine ⟨nI L, rfl, fun _ => trivial, fun z => ?_⟩
    rw [i_lt, show (4 : Int32) = nI 4 from rfl, pk_sub_toInt (by omega) (by decide), nI_toInt (by omega)] at z
    have hk4 : k + 4 ≤ L := by omega
    have hN : ∀ M', LQ9 e0 M' x m o ad → w_W_law_j23 e0 L xs (d + 1) (mc - 250) (ms - 14000) M' x m o (nI k + 4) := fun M' hS' => by
      rw [hc4]
      exact ih (k + 4) (mc - 250) (ms - 14000) M' (by omega) (by omega) (by omega) (by omega) hS'
    refine sc_0 (by omega) hL ⟨?_, ?_, ?_, ?_, ?_, ?_, ?_, ?_, ?_, ?_, ?_, ?_, ?_, ?_, ?_⟩
    · exact fun _ => sc_at (hc1 k) (by omega) hL (sc_at (hc2 k) (by omega) hL (⟨250, 14000, by omega, by omega, ww_group _ _ hS hN (fun c M1 q => sc_at (hc1 k) (by omega) hL (sc_at (hc2 k) (by omega) hL (q)))⟩))
    · exact fun _ => sc_at (hc1 k) (by omega) hL (sc_at (hc2 k) (by omega) hL (⟨250, 14000, by omega, by omega, ww_next _ _ hS hN (fun c M1 q => sc_at (hc1 k) (by omega) hL (sc_at (hc2 k) (by omega) hL (q)))⟩))
    · exact fun _ => sc_at (hc1 k) (by omega) hL (⟨250, 14000, by omega, by omega, ww_person _ hS hN (fun c M1 q => sc_at (hc1 k) (by omega) hL (q))⟩)
    · intro _
      have W : ∀ b : Int32, (b = 0 ∨ b = 1) → (xs (k + 3) = 0 → b = 0) → (¬ xs (k + 3) = 0 → b = 1) → w_W_law_j307 e0 L xs (w_W_law_j23 e0 L xs (d + 1)) mc ms M x m o (nI k) b (xs (k + 2)) (xs (k + 1)) x := by
        intro b hb b0 b1
        refine ⟨250, 14000, by omega, by omega, ww_way _ _ _ hb hS hN (fun c M1 q => sc_at (hc1 k) (by omega) hL (sc_at (hc2 k) (by omega) hL (sc_at (hc3 k) (by omega) hL ⟨fun y => ?_, fun y => ?_⟩)))⟩
        · have e := b0 y
          subst e
          exact q
        · have e := b1 y
          subst e
          exact q
      exact sc_at (hc1 k) (by omega) hL (sc_at (hc2 k) (by omega) hL (sc_at (hc3 k) (by omega) hL ⟨fun y => W 0 (Or.inl rfl) (fun _ => rfl) (fun w => absurd y w), fun y => W 1 (Or.inr rfl) (fun w => absurd w y) (fun _ => rfl)⟩))
    · exact fun _ => sc_at (hc1 k) (by omega) hL (sc_at (hc2 k) (by omega) hL (⟨250, 14000, by omega, by omega, ww_is _ _ hS hN (fun c M1 q => sc_at (hc1 k) (by omega) hL (sc_at (hc2 k) (by omega) hL (q)))⟩))
    · intro _
      have W : ∀ b : Int32, (b = 0 ∨ b = 1) → (xs (k + 2) = 0 → b = 0) → (¬ xs (k + 2) = 0 → b = 1) → w_W_law_j445 e0 L xs (w_W_law_j23 e0 L xs (d + 1)) mc ms M x m o (nI k) b (xs (k + 1)) x := by
        intro b hb b0 b1
        refine ⟨250, 14000, by omega, by omega, ww_alarm _ _ hb hS hN (fun c M1 q => sc_at (hc1 k) (by omega) hL (sc_at (hc2 k) (by omega) hL ⟨fun y => ?_, fun y => ?_⟩))⟩
        · have e := b0 y
          subst e
          exact q
        · have e := b1 y
          subst e
          exact q
      exact sc_at (hc1 k) (by omega) hL (sc_at (hc2 k) (by omega) hL ⟨fun y => W 0 (Or.inl rfl) (fun _ => rfl) (fun w => absurd y w), fun y => W 1 (Or.inr rfl) (fun w => absurd w y) (fun _ => rfl)⟩)
    · exact fun _ => sc_at (hc1 k) (by omega) hL (sc_at (hc2 k) (by omega) hL (sc_at (hc3 k) (by omega) hL (⟨250, 14000, by omega, by omega, ww_answer _ _ _ hS hN (fun c M1 q => sc_at (hc1 k) (by omega) hL (sc_at (hc2 k) (by omega) hL (sc_at (hc3 k) (by omega) hL (q))))⟩)))
    · exact fun _ => sc_at (hc1 k) (by omega) hL (⟨250, 14000, by omega, by omega, ww_tick _ hS hN (fun c M1 q => sc_at (hc1 k) (by omega) hL (q))⟩)
    · exact fun _ => sc_at (hc1 k) (by omega) hL (sc_at (hc2 k) (by omega) hL (⟨250, 14000, by omega, by omega, ww_alarmAt _ _ hS hN (fun c M1 q => sc_at (hc1 k) (by omega) hL (sc_at (hc2 k) (by omega) hL (q)))⟩))
    · exact fun _ => sc_at (hc1 k) (by omega) hL (sc_at (hc2 k) (by omega) hL (⟨250, 14000, by omega, by omega, ww_comes _ _ hS hN (fun c M1 q => sc_at (hc1 k) (by omega) hL (sc_at (hc2 k) (by omega) hL (q)))⟩))
    · exact fun _ => sc_at (hc1 k) (by omega) hL (sc_at (hc2 k) (by omega) hL (⟨250, 14000, by omega, by omega, ww_reached _ _ hS hN (fun c M1 q => sc_at (hc1 k) (by omega) hL (sc_at (hc2 k) (by omega) hL (q)))⟩))
    · exact fun _ => sc_at (hc1 k) (by omega) hL (sc_at (hc2 k) (by omega) hL (⟨250, 14000, by omega, by omega, ww_share _ _ hS hN (fun c M1 q => sc_at (hc1 k) (by omega) hL (sc_at (hc2 k) (by omega) hL (q)))⟩))
    · exact fun _ => sc_at (hc1 k) (by omega) hL (⟨250, 14000, by omega, by omega, ww_never _ hS hN (fun c M1 q => sc_at (hc1 k) (by omega) hL (q))⟩)
    · exact fun _ => sc_at (hc1 k) (by omega) hL (⟨250, 14000, by omega, by omega, ww_count _ hS hN (fun c M1 q => sc_at (hc1 k) (by omega) hL (q))⟩)
    · intro _ _ _ _ _ _ _ _ _ _ _ _ _ _
      show w_W_law_j23 e0 L xs (d + 1) mc ms M x m o (nI k + 4)
      rw [hc4]
      exact ih (k + 4) mc ms M (by omega) (by omega) (by omega) (by omega) hS
/-! the beginning -/
def G00 : Gs := fun s _ => if s = 5 ∨ s = 16 ∨ s = 19 then 1 else if s = 21 then 2 else 0
theorem enc00 : encS G00 = fun _ _ => 0 := by
  funext s k
  unfold encS enc G00
  by_cases h : s = 5 ∨ s = 16 ∨ s = 19
  · rw [if_pos h, if_pos h]; decide
  · rw [if_neg h, if_neg h]
    by_cases h2 : s = 21
    · rw [if_pos h2, if_pos h2]; decide
    · rw [if_neg h2, if_neg h2]; rfl
theorem inv00 : Inv G00 := by
  refine ⟨⟨fun s k _ => ?_, ⟨by decide, by decide, by decide, by decide⟩, fun i hi => absurd hi (Nat.not_lt_zero _), fun p hp => ⟨Nat.zero_le _, fun i hi => absurd hi (Nat.not_lt_zero _), fun i j _ hj => absurd hj (Nat.not_lt_zero _), fun _ => ⟨rfl, rfl⟩⟩, fun a ha => absurd ha (Nat.not_lt_zero _)⟩, fun a ha => absurd ha (Nat.not_lt_zero _)⟩
  unfold G00
  exact ite_le9 (by decide) (ite_le9 (by decide) (by decide))
theorem rq00 : RQ G00 C00 := ⟨⟨rfl, rfl, rfl, rfl, rfl, rfl, rfl⟩, fun i hi => absurd hi (Nat.not_lt_zero _), fun i hi => absurd hi (Nat.not_lt_zero _), fun i hi => absurd hi (Nat.not_lt_zero _)⟩
theorem law_all {L : Nat} {xs : Nat → Int32} (hL : L ≤ 2048) : w_W_law e0 L xs 601024 7293034 (fun _ => none) := by
  refine ⟨by decide, by decide, fun q1 _ => ⟨3, 9, by decide, by decide, ?_⟩⟩
  refine lc_A_init (va_up_self _ _ _) (Nat.le_refl _) (Nat.le_refl _) (fun M6 c0 c1 c2 hC => ?_)
  refine ⟨by decide, by decide, fun q9 hq9 => ⟨20, 20000, by decide, by decide, ?_⟩⟩
  refine lf_M_init (va_up_self _ _ _) (Nat.le_refl _) (Nat.le_refl _) (fun M14 ad hR had => ?_)
  refine ⟨by decide, by decide, by decide, by decide, by decide, fun q17 hq17 => ⟨L / 4 + 1, ?_⟩⟩
  obtain ⟨⟨⟨k1, k2, k3⟩, -, -⟩, k4, k5⟩ := hC
  have hne : ∀ k i, cUs C00 (Z00 q1 c0 c1 c2).2.1 k i → M6 ((Z00 q1 c0 c1 c2).1 k i) ≠ none := fun k i hu => by
    have ho := k1 k i hu
    rcases hu with ⟨rfl, rfl⟩ | ⟨rfl, hi⟩ | ⟨-, -, hi⟩ | ⟨-, hi⟩ | ⟨-, hi⟩ | ⟨-, hi⟩
    · rw [ho.1 rfl]; exact Option.some_ne_none _
    · rw [ho.2.1 rfl]; exact Option.some_ne_none _
    · exact absurd hi (Nat.lt_irrefl _)
    · exact absurd hi (Nat.not_lt_zero _)
    · exact absurd hi (Nat.not_lt_zero _)
    · exact absurd hi (Nat.not_lt_zero _)
  have n9 : ∀ k i, cUs C00 (Z00 q1 c0 c1 c2).2.1 k i → (Z00 q1 c0 c1 c2).1 k i ≠ q9 := fun k i hu z => hne k i hu (by rw [z]; exact hq9)
  have nad : ∀ k i, cUs C00 (Z00 q1 c0 c1 c2).2.1 k i → ∀ j ∈ mIs, (Z00 q1 c0 c1 c2).1 k i ≠ ad j := fun k i hu j hj z => by
    have h1 := had j hj
    rw [← z, va_up_ne _ _ (n9 k i hu)] at h1
    exact hne k i hu h1
  have e14 : ∀ k i, cUs C00 (Z00 q1 c0 c1 c2).2.1 k i → M14 ((Z00 q1 c0 c1 c2).1 k i) = M6 ((Z00 q1 c0 c1 c2).1 k i) := fun k i hu => by
    rw [hR.2 _ (n9 k i hu) (nad k i hu), va_up_ne _ _ (n9 k i hu)]
  have n17 : ∀ k i, cUs C00 (Z00 q1 c0 c1 c2).2.1 k i → (Z00 q1 c0 c1 c2).1 k i ≠ q17 := fun k i hu z => hne k i hu (by rw [← e14 k i hu, z]; exact hq17)
  have o9 : q17 ≠ q9 := fun z => by
    rw [z, hR.1.1] at hq17
    exact Option.some_ne_none _ hq17
  have oad : ∀ j ∈ mIs, q17 ≠ ad j := fun j hj z => by
    rw [z, hR.1.2.1 j hj] at hq17
    exact Option.some_ne_none _ hq17
  have hMS : MS e0 (va_up M14 q17 (some (.inl (3, 1, .inr (.inl (fun _ => 0)))))) q1 q9 q17 ad (Z00 q1 c0 c1 c2) C00 (fun _ => 0) (fun _ _ => 0) := by
    refine ⟨⟨⟨⟨fun k i hu => cOk_kept (M := M6) ?_ (k1 k i hu), k2, k3⟩, fun _ _ _ => rfl, fun k i hu => Or.inl (fun hF => ?_)⟩, k4, k5⟩, ⟨?_, fun j hj => ?_, hR.1.2.2⟩, ⟨_, va_up_self _ _ _⟩, o9, oad⟩
    · rw [va_up_ne _ _ (n17 k i hu), e14 k i hu]
    · rcases hF with z | z | ⟨j, hj, z⟩
      · exact n9 k i hu z
      · exact n17 k i hu z
      · exact nad k i hu j hj z
    · rw [va_up_ne _ _ (Ne.symm o9)]; exact hR.1.1
    · rw [va_up_ne _ _ (Ne.symm (oad j hj))]; exact hR.1.2.1 j hj
  rw [← enc00] at hMS
  have k := law_loop (e0 := e0) (x := q1) (m := q9) (o := q17) (ad := ad) (xs := xs) hL (L / 4) 0 (((((601024 - 1) - 3) - 1) - 20) - 1) (((((7293034 - 7) - 9) - 25) - 20000) - 1) _ (by omega) (by omega) (by omega) (by omega) ⟨_, _, _, G00, hMS, inv00, rq00⟩
  rw [nI_0] at k
  exact k
end LAW
