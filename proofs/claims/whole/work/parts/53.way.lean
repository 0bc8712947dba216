/-! way -/
section OPS3
variable {G : Gs} {C : Sm} {mc ms : Nat}
/-- the place at which a kind stands, or the next free one -/
def wPl (G : Gs) (p k i : Nat) : Prop := i ≤ G 8 p ∧ (∀ j, j < i → G 9 (3 * p + j) ≠ k) ∧ (i < G 8 p → G 9 (3 * p + i) = k) ∧ i ≤ 2
theorem wPl_ex (hI : Inv G) {p k : Nat} (hp : p < 60) (hk : k ≤ 2) : ∃ i, wPl G p k i := by
  obtain ⟨a1, a2, a3, -⟩ := hI.1.2.2.2.1 p hp
  obtain ⟨i, h1, h2⟩ := pk_least (fun i => G 8 p ≤ i ∨ G 9 (3 * p + i) = k) ⟨G 8 p, Or.inl (Nat.le_refl _)⟩
  have hi : i ≤ G 8 p := Nat.le_of_not_lt fun w => h2 _ w (Or.inl (Nat.le_refl _))
  have h3 : ∀ j, j < i → G 9 (3 * p + j) ≠ k := fun j hj w => h2 j hj (Or.inr w)
  refine ⟨i, hi, h3, fun w => h1.elim (fun z => absurd z (by omega)) id, Nat.le_of_not_lt fun w => ?_⟩
  have e : i = 3 := by omega
  subst e
  have b0 := h3 0 (by omega)
  have b1 := h3 1 (by omega)
  have b2 := h3 2 (by omega)
  have c0 := a2 0 (by omega)
  have c1 := a2 1 (by omega)
  have c2 := a2 2 (by omega)
  have d0 := a3 0 1 (by omega) (by omega)
  have d1 := a3 0 2 (by omega) (by omega)
  have d2 := a3 1 2 (by omega) (by omega)
  omega
def gWay (G : Gs) (p k b i : Nat) : Gs := if i = G 8 p then gu (gu (gu (gu G 0 0 0) 9 (3 * p + i) k) 10 (3 * p + i) b) 8 p (G 8 p + 1) else gu (gu (gu G 0 0 0) 9 (3 * p + i) k) 10 (3 * p + i) b
theorem rf_way_loop {post : Int32 → Sm → Prop} {p k i b : Nat} (hB : IB G) (hp : p < 60) (hw3 : G 8 p ≤ 3) (hk : k ≤ 2) (hb : b ≤ 1) (hi : wPl G p k i) (h : post (nI (gWay G p k b i 8 p)) (encS (gWay G p k b i))) : ∀ d l, d + l = i → v_M_way_j24 post (d + 1) (encS (gu G 0 0 0)) (nI p) (nI k) (nI b) (nI l) := by
  have end56 : v_M_way_j56 post (encS (gu G 0 0 0)) (nI p) (nI k) (nI b) (nI i) := by
    have hnar : vp_nar .boolean (nI b) = nI b := by
      rcases (show b = 0 ∨ b = 1 by omega) with rfl | rfl <;> decide
    have h2 := hi.2.2.2
    refine a_st (n := 3 * p + i) (m := k) (ix3 p i) (by show _ < 180; omega) rfl ?_
    refine a_st (n := 3 * p + i) (m := b) (ix3 p i) (by show _ < 180; omega) (by rw [hnar]; rfl) ?_
    refine a_ld (n := p) rfl (by show _ < 60; omega) ?_
    show (nI i = nI (G 8 p) → _) ∧ (¬ nI i = nI (G 8 p) → _)
    rw [nI_eq (by omega) (by omega)]
    unfold gWay at h
    refine ⟨fun z => ?_, fun z => ?_⟩
    · rw [if_pos z] at h
      refine a_ld (n := p) rfl (by show _ < 60; omega) ?_
      refine a_st (n := p) (m := G 8 p + 1) rfl (by show _ < 60; omega) (nI_1 _) ?_
      exact a_ld (n := p) rfl (by show _ < 60; omega) h
    · rw [if_neg z] at h
      exact a_ld (n := p) rfl (by show _ < 60; omega) h
  have hk2 := hi.2.2.2
  intro d
  induction d with
  | zero =>
    intro l hl
    have e : l = i := by omega
    subst e
    unfold v_M_way_j24
    refine a_ld (n := p) rfl (by show _ < 60; omega) ?_
    show (nI (G 8 p) ≤ nI l → _) ∧ (¬ nI (G 8 p) ≤ nI l → _)
    rw [nI_leI (by omega) (by omega)]
    refine ⟨fun _ => end56, fun z => a_ld (n := 3 * p + l) (ix3 p l) (by show _ < 180; omega) ?_⟩
    have e2 := hi.2.2.1 (by omega)
    show (nI (G 9 (3 * p + l)) = nI k → _) ∧ (¬ nI (G 9 (3 * p + l)) = nI k → _)
    rw [e2]
    exact ⟨fun _ => end56, fun w => absurd rfl w⟩
  | succ d ih =>
    intro l hl
    have h1 := hi.1
    unfold v_M_way_j24
    refine a_ld (n := p) rfl (by show _ < 60; omega) ?_
    show (nI (G 8 p) ≤ nI l → _) ∧ (¬ nI (G 8 p) ≤ nI l → _)
    rw [nI_leI (by omega) (by omega)]
    refine ⟨fun z => absurd z (by omega), fun z => a_ld (n := 3 * p + l) (ix3 p l) (by show _ < 180; omega) ?_⟩
    have e2 := hi.2.1 l (by omega)
    have hb9 := hB 9 (3 * p + l) (by decide)
    show (nI (G 9 (3 * p + l)) = nI k → _) ∧ (¬ nI (G 9 (3 * p + l)) = nI k → _)
    rw [nI_eq (by omega) (by omega)]
    refine ⟨fun w => absurd w e2, fun _ => ?_⟩
    rw [nI_1]
    exact ih (l + 1) (by omega)
def wayC (G : Gs) (C : Sm) (p k b i : Nat) : Sm := if i = G 8 p then su (su (su C 21 (3 * p + i) (nI k)) 22 (3 * p + i) (nI b)) 23 p (nI (G 8 p + 1)) else su (su C 21 (3 * p + i) (nI k)) 22 (3 * p + i) (nI b)
theorem cl_way_loop {post : Sm → Prop} {p k i b : Nat} (hB : IB G) (hw3 : G 8 p ≤ 3) (h23 : C 23 p = nI (G 8 p)) (h21 : ∀ i, i < G 8 p → C 21 (3 * p + i) = nI (G 9 (3 * p + i))) (hk : k ≤ 2) (hb : b ≤ 1) (hi : wPl G p k i) (h : post (wayC G C p k b i)) : ∀ d l, d + l = i → u_P_setWay_j2 post (d + 1) C p (nI k) (nI b) (nI l) := by
  have hk2 := hi.2.2.2
  have end31 : u_P_setWay_j31 post C p (nI k) (nI b) (nI i) := by
    have hnar : vp_nar .boolean (nI b) = nI b := by
      rcases (show b = 0 ∨ b = 1 by omega) with rfl | rfl <;> decide
    refine ⟨fun _ => ⟨vp_in_nI (by omega) (by decide), vp_in_nI (by omega) (by decide), ?_⟩, fun z => absurd (nI_lt (b := 3) (by omega) (by decide)) z⟩
    rw [nI_clamp (by omega), hnar]
    show (nI i = C 23 p → _) ∧ (¬ nI i = C 23 p → _)
    rw [h23, nI_eq (by omega) (by omega)]
    unfold wayC at h
    refine ⟨fun z => ?_, fun z => ?_⟩
    · rw [if_pos z] at h
      show post (su (su (su C 21 (3 * p + i) (nI k)) 22 (3 * p + i) (nI b)) 23 p (C 23 p + 1))
      rw [h23, nI_1]; exact h
    · rw [if_neg z] at h; exact h
  intro d
  induction d with
  | zero =>
    intro l hl
    have e : l = i := by omega
    subst e
    show (C 23 p ≤ nI l → _) ∧ (¬ C 23 p ≤ nI l → _)
    rw [h23, nI_leI (by omega) (by omega)]
    refine ⟨fun _ => end31, fun z => ⟨fun w => absurd w (nI_ge (b := 3) (by omega) (by decide)), fun _ => ⟨vp_in_nI (by omega) (by decide), ?_⟩⟩⟩
    rw [nI_clamp (by omega), h21 l (by omega), hi.2.2.1 (by omega)]
    exact ⟨fun _ => end31, fun w => absurd rfl w⟩
  | succ d ih =>
    intro l hl
    have h1 := hi.1
    show (C 23 p ≤ nI l → _) ∧ (¬ C 23 p ≤ nI l → _)
    rw [h23, nI_leI (by omega) (by omega)]
    refine ⟨fun z => absurd z (by omega), fun z => ⟨fun w => absurd w (nI_ge (b := 3) (by omega) (by decide)), fun _ => ⟨vp_in_nI (by omega) (by decide), ?_⟩⟩⟩
    have e2 := hi.2.1 l (by omega)
    have hb9 := hB 9 (3 * p + l) (by decide)
    rw [nI_clamp (by omega), h21 l (by omega)]
    show (nI (G 9 (3 * p + l)) = nI k → _) ∧ (¬ nI (G 9 (3 * p + l)) = nI k → _)
    rw [nI_eq (by omega) (by omega)]
    refine ⟨fun w => absurd w e2, fun _ => ?_⟩
    rw [nI_1]
    exact ih (l + 1) (by omega)
theorem rf_way {post : Int32 → Sm → Prop} {x1 x2 x3 : Int32} (hI : Inv G) (h1 : ¬ vp_in x1 (G 6 0) → post 0 (encS (gu G 0 0 1))) (h2 : vp_in x1 (G 6 0) → ¬ (0 ≤ x2 ∧ x2 ≤ 2) → post 0 (encS (gu G 0 0 2))) (h0 : vp_in x1 (G 6 0) → 0 ≤ x2 → x2 ≤ 2 → ∃ nn, v_M_way_j24 post nn (encS (gu G 0 0 0)) x1 x2 x3 0) : v_M_way post (encS G) x1 x2 x3 := by
  refine rf_isPerson hI.1.2.1 (fun g => rf_in (fun a b => ?_) (fun a => ?_)) (fun g => rf_in (fun a b => ?_) (fun a => ?_))
  · exact rf_goes (fun w => absurd w d10) (fun _ w => absurd w d10) (fun _ _ w => absurd w d10) (fun _ _ _ => ⟨fun w => absurd w d10, fun _ => h0 g a b⟩)
  · exact rf_goes (fun w => absurd w d10) (fun _ _ => ⟨fun _ => h2 g a, fun w => absurd rfl w⟩) (fun _ w => absurd rfl w) (fun _ w => absurd rfl w)
  · exact rf_goes (fun _ => ⟨fun _ => h1 g, fun w => absurd rfl w⟩) (fun w => absurd rfl w) (fun w => absurd rfl w) (fun w => absurd rfl w)
  · exact rf_goes (fun _ => ⟨fun _ => h1 g, fun w => absurd rfl w⟩) (fun w => absurd rfl w) (fun w => absurd rfl w) (fun w => absurd rfl w)
theorem fin_way (hI : Inv G) (hQ : RQ G C) {p k b i : Nat} (hp : p < G 6 0) (hk : k ≤ 2) (hb : b ≤ 1) (hi : wPl G p k i) : Fin9 (wayC G C p k b i) (encS (gWay G p k b i)) 0 ∧ wayC G C p k b i 23 p = nI (gWay G p k b i 8 p) := by
  have H0 := hI.1.2.1
  have hk9 := H0.2.1
  have hIB := (inv_th (k := 0) (by decide) hI).1.1
  have hw3 := (hI.1.2.2.2.1 p (by omega)).1
  obtain ⟨i1, i2, i3, i4⟩ := hi
  have A9 : ∀ q j, j < 3 → (if 3 * q + j = 3 * p + i then k else G 9 (3 * q + j)) = if q = p ∧ j = i then k else G 9 (3 * q + j) := fun q j hj => by
    by_cases z : q = p ∧ j = i
    · obtain ⟨rfl, rfl⟩ := z; rw [if_pos rfl, if_pos ⟨rfl, rfl⟩]
    · rw [if_neg (by omega), if_neg z]
  unfold wayC gWay
  by_cases z : i = G 8 p
  · rw [if_pos z, if_pos z]
    refine ⟨⟨gu (gu (gu (gu G 0 0 0) 9 (3 * p + i) k) 10 (3 * p + i) b) 8 p (G 8 p + 1), ⟨⟨ib_u (ib_u (ib_u hIB (by omega)) (by omega)) (by omega), H0, hI.1.2.2.1, fun q hq => ?_, hI.1.2.2.2.2⟩, hI.2⟩, ⟨hQ.1, hQ.2.1, fun q hq => ?_, hQ.2.2.2⟩, rfl, rfl⟩, ?_⟩
    · obtain ⟨a1, a2, a3, a4⟩ := hI.1.2.2.2.1 q hq
      show (if q = p then G 8 p + 1 else G 8 q) ≤ 3 ∧ (∀ j, j < (if q = p then G 8 p + 1 else G 8 q) → (if 3 * q + j = 3 * p + i then k else G 9 (3 * q + j)) ≤ 2) ∧ (∀ j j', j < j' → j' < (if q = p then G 8 p + 1 else G 8 q) → (if 3 * q + j = 3 * p + i then k else G 9 (3 * q + j)) ≠ (if 3 * q + j' = 3 * p + i then k else G 9 (3 * q + j'))) ∧ (G 6 0 ≤ q → (if q = p then G 8 p + 1 else G 8 q) = 0 ∧ G 11 q = 0)
      by_cases w : q = p
      · subst w
        rw [if_pos rfl]
        refine ⟨by omega, fun j hj => ?_, fun j j' hj hj' => ?_, fun w => absurd w (by omega)⟩
        · rw [A9 q j (by omega)]
          by_cases y : q = q ∧ j = i
          · rw [if_pos y]; exact hk
          · rw [if_neg y]; exact a2 j (by omega)
        · rw [A9 q j (by omega), A9 q j' (by omega), if_neg (by omega)]
          by_cases y : q = q ∧ j' = i
          · rw [if_pos y]; exact i2 j (by omega)
          · rw [if_neg y]; exact a3 j j' hj (by omega)
      · rw [if_neg w]
        refine ⟨a1, fun j hj => ?_, fun j j' hj hj' => ?_, a4⟩
        · rw [A9 q j (by omega), if_neg (fun y => w y.1)]; exact a2 j hj
        · rw [A9 q j (by omega), A9 q j' (by omega), if_neg (fun y => w y.1), if_neg (fun y => w y.1)]; exact a3 j j' hj hj'
    · obtain ⟨a1, a2, a3, a4, a5, a6⟩ := hQ.2.2.1 q hq
      have hq3 := (hI.1.2.2.2.1 q (by have : q < G 6 0 := hq; omega)).1
      refine ⟨a1, ?_, a3, a4, a5, ?_⟩
      · show su _ 23 p (nI (G 8 p + 1)) 23 q = nI (if q = p then G 8 p + 1 else G 8 q)
        rw [su_v]
        by_cases w : q = p
        · rw [if_pos ⟨rfl, w⟩, if_pos w]
        · rw [if_neg (fun y => w y.2), if_neg w]; exact a2
      · show ∀ j, j < (if q = p then G 8 p + 1 else G 8 q) → su C 21 (3 * p + i) (nI k) 21 (3 * q + j) = nI (if 3 * q + j = 3 * p + i then k else G 9 (3 * q + j)) ∧ su (su C 21 (3 * p + i) (nI k)) 22 (3 * p + i) (nI b) 22 (3 * q + j) = nI (if 3 * q + j = 3 * p + i then b else G 10 (3 * q + j))
        intro j hj
        rw [su_v, su_v]
        by_cases w : 3 * q + j = 3 * p + i
        · rw [if_pos ⟨rfl, w⟩, if_pos w, if_pos ⟨rfl, w⟩, if_pos w]; exact ⟨rfl, rfl⟩
        · rw [if_neg (fun y => w y.2), if_neg w, if_neg (fun y => w y.2), if_neg w]
          refine a6 j ?_
          by_cases y : q = p
          · subst y; rw [if_pos rfl] at hj; omega
          · rw [if_neg y] at hj; exact hj
    · show su _ 23 p (nI (G 8 p + 1)) 23 p = nI (if p = p then G 8 p + 1 else _)
      rw [su_s, if_pos rfl]
  · rw [if_neg z, if_neg z]
    refine ⟨⟨gu (gu (gu G 0 0 0) 9 (3 * p + i) k) 10 (3 * p + i) b, ⟨⟨ib_u (ib_u hIB (by omega)) (by omega), H0, hI.1.2.2.1, fun q hq => ?_, hI.1.2.2.2.2⟩, hI.2⟩, ⟨hQ.1, hQ.2.1, fun q hq => ?_, hQ.2.2.2⟩, rfl, rfl⟩, ?_⟩
    · obtain ⟨a1, a2, a3, a4⟩ := hI.1.2.2.2.1 q hq
      have ek : ∀ j, (if 3 * q + j = 3 * p + i then k else G 9 (3 * q + j)) = G 9 (3 * q + j) := fun j => by
        by_cases y : 3 * q + j = 3 * p + i
        · rw [if_pos y, y]; exact (i3 (by omega)).symm
        · rw [if_neg y]
      show G 8 q ≤ 3 ∧ (∀ j, j < G 8 q → (if 3 * q + j = 3 * p + i then k else G 9 (3 * q + j)) ≤ 2) ∧ (∀ j j', j < j' → j' < G 8 q → (if 3 * q + j = 3 * p + i then k else G 9 (3 * q + j)) ≠ (if 3 * q + j' = 3 * p + i then k else G 9 (3 * q + j'))) ∧ (G 6 0 ≤ q → G 8 q = 0 ∧ G 11 q = 0)
      refine ⟨a1, fun j hj => ?_, fun j j' hj hj' => ?_, a4⟩
      · rw [ek]; exact a2 j hj
      · rw [ek, ek]; exact a3 j j' hj hj'
    · obtain ⟨a1, a2, a3, a4, a5, a6⟩ := hQ.2.2.1 q hq
      refine ⟨a1, a2, a3, a4, a5, ?_⟩
      show ∀ j, j < G 8 q → su C 21 (3 * p + i) (nI k) 21 (3 * q + j) = nI (if 3 * q + j = 3 * p + i then k else G 9 (3 * q + j)) ∧ su (su C 21 (3 * p + i) (nI k)) 22 (3 * p + i) (nI b) 22 (3 * q + j) = nI (if 3 * q + j = 3 * p + i then b else G 10 (3 * q + j))
      intro j hj
      rw [su_v, su_v]
      by_cases w : 3 * q + j = 3 * p + i
      · rw [if_pos ⟨rfl, w⟩, if_pos w, if_pos ⟨rfl, w⟩, if_pos w]; exact ⟨rfl, rfl⟩
      · rw [if_neg (fun y => w y.2), if_neg w, if_neg (fun y => w y.2), if_neg w]
        exact a6 j hj
    · exact (hQ.2.2.1 p hp).2.1
theorem op_way {x1 x2 x3 : Int32} (h3 : x3 = 0 ∨ x3 = 1) (hI : Inv G) (hQ : RQ G C) (hmc : 10 ≤ mc) (hms : 300 ≤ ms) : u_A_way (fun r C' => v_M_way (fun b S' => b = r ∧ Fin9 C' S' 0) (encS G) x1 x2 x3) (PX2 eIA eIO (fun k C' => v_M_way (fun _ S' => Fin9 C' S' k) (encS G) x1 x2 x3)) mc ms C x1 x2 x3 := by
  have H0 := hI.1.2.1
  have hk := H0.2.1
  have X2 : vp_in x1 (G 6 0) → ¬ (0 ≤ x2 ∧ x2 ≤ 2) → u_A_way_j16 (fun r C' => v_M_way (fun b S' => b = r ∧ Fin9 C' S' 0) (encS G) x1 x2 x3) (PX2 eIA eIO (fun k C' => v_M_way (fun _ S' => Fin9 C' S' k) (encS G) x1 x2 x3)) (mc - 1) (ms - 6) C := fun g z =>
    ⟨by omega, by omega, Or.inr ⟨rfl, rf_way hI (fun w => absurd g w) (fun _ _ => fin_th 2 (by decide) hI hQ) (fun _ a b => absurd ⟨a, b⟩ z)⟩⟩
  have lt3 : ∀ {x : Int32}, x < 3 ↔ x ≤ 2 := fun {x} => by
    rw [i_lt, i_le, show (3 : Int32).toInt = 3 from by decide, show (2 : Int32).toInt = 2 from by decide]; omega
  refine ⟨1, 6, by omega, by omega, cl_pOf H0 hQ.1 (Nat.le_refl _) (Nat.le_refl _) (fun g => ⟨fun z => X2 g (fun w => i_lt_le z w.1), fun z => ⟨fun z2 => ?_, fun z2 => X2 g (fun w => z2 (lt3.mpr w.2))⟩⟩) (fun g => Or.inl ⟨rfl, rf_way hI (fun _ => fin_th 1 (by decide) hI hQ) (fun w => absurd w g) (fun w => absurd w g)⟩)⟩
  obtain ⟨p, hp, e1, ec⟩ := in_nI g (by omega)
  obtain ⟨k, hk2, e2⟩ := lim_nI (n := 2) (by decide) (i_nlt z) (lt3.mp z2)
  obtain ⟨b, hb, e3⟩ : ∃ b : Nat, b ≤ 1 ∧ x3 = nI b := h3.elim (fun e => ⟨0, by decide, e⟩) (fun e => ⟨1, by decide, e⟩)
  obtain ⟨i, hi⟩ := wPl_ex hI (p := p) (k := k) (by omega) hk2
  obtain ⟨f1, f2⟩ := fin_way hI hQ hp hk2 hb hi
  have hw3 := (hI.1.2.2.2.1 p (by omega)).1
  obtain ⟨-, q2, -, -, -, q6⟩ := hQ.2.2.1 p hp
  rw [ec]
  have hz1 := z
  have hz2 := lt3.mp z2
  subst e1 e2 e3
  refine ⟨i + 1, ?_⟩
  have kk := cl_way_loop (post := fun C6 => v_M_way (fun b S' => b = (C6 23 p) ∧ Fin9 C6 S' 0) (encS G) (nI p) (nI k) (nI b)) hI.1.1 hw3 q2 (fun j hj => (q6 j hj).1) hk2 hb hi (by
    refine rf_way hI (fun w => absurd g w) (fun _ w => absurd ⟨i_nlt hz1, hz2⟩ w) (fun _ _ _ => ⟨i + 1, ?_⟩)
    have k2 := rf_way_loop (G := G) (post := fun r S' => r = wayC G C p k b i 23 p ∧ Fin9 (wayC G C p k b i) S' 0) hI.1.1 (by omega) hw3 hk2 hb hi ⟨f2.symm, f1⟩ i 0 rfl
    rw [nI_0] at k2
    exact k2) i 0 rfl
  rw [nI_0] at kk
  exact kk
end OPS3
