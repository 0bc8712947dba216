/-! group, person, way -/
theorem sm_z {f : Nat → Nat} : ∀ n, (∀ i, i < n → f i = 0) → sm f n = 0 := by
  intro n
  induction n with
  | zero => intro _; rfl
  | succ n ih => intro h; unfold sm; rw [ih (fun i hi => h i (by omega)), h n (by omega)]
theorem cnt_z {P : Nat → Bool} : ∀ n, (∀ i, i < n → P i = false) → cnt P n = 0 := by
  intro n
  induction n with
  | zero => intro _; rfl
  | succ n ih => intro h; unfold cnt; rw [ih (fun i hi => h i (by omega)), if_neg (by rw [h n (by omega)]; decide)]
section OPS2
variable {G : Gs} {C : Sm} {mc ms : Nat}
theorem rf_group {post : Int32 → Sm → Prop} {x1 x2 : Int32} (hI : Inv G) (h1 : ¬ (1 ≤ x1 ∧ x1 ≤ 20 ∧ 1 ≤ x2 ∧ x2 ≤ 3600) → post 0 (encS (gu G 0 0 1))) (h2 : (1 ≤ x1 ∧ x1 ≤ 20 ∧ 1 ≤ x2 ∧ x2 ≤ 3600) → ¬ G 2 0 < 12 → post 0 (encS (gu G 0 0 2)))
    (h0 : ∀ l t : Nat, (1 ≤ x1 ∧ x1 ≤ 20 ∧ 1 ≤ x2 ∧ x2 ≤ 3600) → x1 = nI l → x2 = nI t → l ≤ 20 → 1 ≤ t → t ≤ 3600 → G 2 0 < 12 → post (nI (G 2 0)) (encS (gu (gu (gu (gu (gu G 0 0 0) 3 (G 2 0) l) 4 (G 2 0) t) 5 (G 2 0) 0) 2 0 (G 2 0 + 1)))) : v_M_group post (encS G) x1 x2 := by
  have H0 := hI.1.2.1
  have hk := H0.1
  have e12 : encS G 2 0 = nI (G 2 0) := rfl
  have J0 : ¬ (1 ≤ x1 ∧ x1 ≤ 20 ∧ 1 ≤ x2 ∧ x2 ≤ 3600) → v_M_group_j26 post (encS G) x1 x2 := fun w =>
    ⟨fun _ => rf_goes (fun _ => ⟨fun _ => h1 w, fun z => absurd rfl z⟩) (fun z => absurd rfl z) (fun z => absurd rfl z) (fun z => absurd rfl z), fun _ => rf_goes (fun _ => ⟨fun _ => h1 w, fun z => absurd rfl z⟩) (fun z => absurd rfl z) (fun z => absurd rfl z) (fun z => absurd rfl z)⟩
  refine rf_in (fun a b => ⟨fun z => absurd z d10, fun _ => rf_in (fun c d => ⟨fun z => absurd z d10, fun _ => ⟨fun z => ?_, fun z => ?_⟩⟩) (fun c => ⟨fun _ => J0 (fun w => c w.2.2), fun z => absurd rfl z⟩)⟩) (fun a => ⟨fun _ => J0 (fun w => a ⟨w.1, w.2.1⟩), fun z => absurd rfl z⟩)
  · rw [e12] at z
    have z9 : ¬ G 2 0 < 12 := fun w => nI_ge w (by decide) z
    exact rf_goes (fun w => absurd w d10) (fun _ _ => ⟨fun _ => h2 ⟨a, b, c, d⟩ z9, fun w => absurd rfl w⟩) (fun _ w => absurd rfl w) (fun _ w => absurd rfl w)
  · rw [e12] at z
    have z9 : G 2 0 < 12 := Nat.lt_of_not_le fun w => z (nI_le (a := 12) w (by omega))
    obtain ⟨l, hl, e1⟩ := lim_nI (n := 20) (by decide) (Int32.le_trans (by decide) a) b
    obtain ⟨t, ht, e2⟩ := lim_nI (n := 3600) (by decide) (Int32.le_trans (by decide) c) d
    have ht1 : 1 ≤ t := by
      rw [e2] at c
      exact (nI_leI (a := 1) (by decide) (by omega)).mp c
    refine rf_goes (fun w => absurd w d10) (fun _ w => absurd w d10) (fun _ _ w => absurd w d10) (fun _ _ _ => ⟨fun w => absurd w d10, fun _ => ?_⟩)
    refine a_st (n := G 2 0) (m := l) rfl z9 (by rw [e1]; rfl) ?_
    refine a_st (n := G 2 0) (m := t) rfl z9 (by rw [e2]; rfl) ?_
    refine a_st (n := G 2 0) (m := 0) rfl z9 rfl ?_
    refine a_pf (m := G 2 0 + 1) (nI_1 _) ?_
    have q := h0 l t ⟨a, b, c, d⟩ e1 e2 hl ht1 ht z9
    have e : (encS (gu (gu (gu (gu (gu G 0 0 0) 3 (G 2 0) l) 4 (G 2 0) t) 5 (G 2 0) 0) 2 0 (G 2 0 + 1)) 2 0) - 1 = nI (G 2 0) := nI_pred _
    rw [e]; exact q
theorem op_group {x1 x2 : Int32} (hI : Inv G) (hQ : RQ G C) (hmc : 10 ≤ mc) (hms : 300 ≤ ms) : u_A_group (fun r C' => v_M_group (fun b S' => b = r ∧ Fin9 C' S' 0) (encS G) x1 x2) (PX2 eIO eUO (fun k C' => v_M_group (fun _ S' => Fin9 C' S' k) (encS G) x1 x2)) mc ms C x1 x2 := by
  have H0 := hI.1.2.1
  have hk := H0.1
  have hc := (rq_cn H0 hQ.1).1
  refine ⟨by omega, by omega, fun z => Or.inl ⟨rfl, rf_group hI (fun _ => fin_th 1 (by decide) hI hQ) (fun w => absurd w z) (fun _ _ w => absurd w z)⟩, fun z => ⟨fun z2 => Or.inr ⟨rfl, ?_⟩, fun z2 => ?_⟩⟩
  · rw [hc] at z2
    exact rf_group hI (fun w => absurd z w) (fun _ _ => fin_th 2 (by decide) hI hQ) (fun _ _ _ _ _ _ _ _ w => absurd w z2)
  · rw [hc] at z2
    refine rf_group hI (fun w => absurd z w) (fun _ w => absurd z2 w) (fun l t _ e1 e2 hl ht1 ht _ => ⟨by rw [hc], gu (gu (gu (gu (gu G 0 0 0) 3 (G 2 0) l) 4 (G 2 0) t) 5 (G 2 0) 0) 2 0 (G 2 0 + 1), ⟨⟨?_, ⟨?_, H0.2⟩, fun i hi => ?_, hI.1.2.2.2.1, fun a ha => ?_⟩, fun a ha h17 => ?_⟩, ⟨⟨hQ.1.1, hQ.1.2.1, hQ.1.2.2.1, hQ.1.2.2.2.1, ?_, hQ.1.2.2.2.2.2⟩, fun i hi => ?_, hQ.2.2.1, fun a ha => ?_⟩, rfl, rfl⟩)
    · exact ib_u (ib_u (ib_u (ib_u (inv_th (by decide) hI).1.1 (by omega)) (by omega)) (by omega)) (by omega)
    · show G 2 0 + 1 ≤ 12
      omega
    · have hi' : i < G 2 0 + 1 := hi
      show 1 ≤ (if i = G 2 0 then t else G 4 i) ∧ (if i = G 2 0 then t else G 4 i) ≤ 3600 ∧ (if i = G 2 0 then 0 else G 5 i) ≤ G 2 0 + 1
      by_cases q : i = G 2 0
      · rw [if_pos q, if_pos q]; omega
      · rw [if_neg q, if_neg q]
        obtain ⟨a1, a2, a3⟩ := hI.1.2.2.1 i (by omega)
        omega
    · obtain ⟨a1, a2, a3⟩ := hI.1.2.2.2.2 a ha
      exact ⟨Nat.lt_succ_of_lt a1, a2, a3⟩
    · obtain ⟨a1, a2, a3⟩ := hI.1.2.2.2.2 a ha
      have q := hI.2 a ha h17
      show G 1 0 < G 15 a + (if G 13 a = G 2 0 then t else G 4 (G 13 a))
      rw [if_neg (by omega)]; exact q
    · show nI (cn C 0 + 1) = nI (G 2 0 + 1)
      rw [hc]
    · have hi' : i < G 2 0 + 1 := hi
      show groupC C x1 x2 10 i = nI (if i = G 2 0 then l else G 3 i) ∧ groupC C x1 x2 11 i = nI (if i = G 2 0 then t else G 4 i) ∧ groupC C x1 x2 12 i = m1 (if i = G 2 0 then 0 else G 5 i) ∧ groupC C x1 x2 13 i = nI (sAll G i) ∧ groupC C x1 x2 14 i = nI (sGood G i)
      by_cases q : i = G 2 0
      · have e13 : sAll G i = 0 := sm_z _ (fun a ha => if_neg (fun w => by have := (hI.1.2.2.2.2 a ha).1; omega))
        have e14 : sGood G i = 0 := sm_z _ (fun a ha => if_neg (fun w => by have := (hI.1.2.2.2.2 a ha).1; omega))
        rw [if_pos q, if_pos q, if_pos q, e13, e14, ← e1, ← e2]
        subst q
        simp [groupC, hc, nI_0]
      · obtain ⟨a1, a2, a3, a4, a5⟩ := hQ.2.1 i (by omega)
        rw [if_neg q, if_neg q, if_neg q, ← a1, ← a2, ← a3, ← a4, ← a5]
        simp [groupC, hc, q]
    · obtain ⟨a1, a2, a3, a4, a5⟩ := hQ.2.2.2 a ha
      refine ⟨a1, a2, a3, ?_, a5⟩
      show C 33 a = nI (G 15 a + (if G 13 a = G 2 0 then t else G 4 (G 13 a)))
      rw [if_neg (by have := (hI.1.2.2.2.2 a ha).1; omega)]; exact a4
theorem rf_person {post : Int32 → Sm → Prop} {x1 : Int32} (hI : Inv G) (h1 : ¬ vp_in x1 (G 2 0) → post 0 (encS (gu G 0 0 1))) (h2 : vp_in x1 (G 2 0) → ¬ G 6 0 < 60 → post 0 (encS (gu G 0 0 2)))
    (h0 : ∀ g : Nat, vp_in x1 (G 2 0) → x1 = nI g → g < G 2 0 → G 6 0 < 60 → post (nI (G 6 0)) (encS (gu (gu (gu G 0 0 0) 7 (G 6 0) g) 6 0 (G 6 0 + 1)))) : v_M_person post (encS G) x1 := by
  have H0 := hI.1.2.1
  have hk := H0.1
  have hk2 := H0.2.1
  have e6 : encS G 6 0 = nI (G 6 0) := rfl
  refine rf_isGroup H0 (fun g => ?_) (fun g => ?_)
  · refine ⟨fun z => ?_, fun z => ?_⟩
    · rw [e6] at z
      have z9 : ¬ G 6 0 < 60 := fun w => nI_ge w (by decide) z
      exact rf_goes (fun w => absurd w d10) (fun _ _ => ⟨fun _ => h2 g z9, fun w => absurd rfl w⟩) (fun _ w => absurd rfl w) (fun _ w => absurd rfl w)
    · rw [e6] at z
      have z9 : G 6 0 < 60 := Nat.lt_of_not_le fun w => z (nI_le (a := 60) w (by omega))
      obtain ⟨j, hj, e1, -⟩ := in_nI g (by omega)
      refine rf_goes (fun w => absurd w d10) (fun _ w => absurd w d10) (fun _ _ w => absurd w d10) (fun _ _ _ => ⟨fun w => absurd w d10, fun _ => ?_⟩)
      refine a_st (n := G 6 0) (m := j) rfl z9 (by rw [e1]; rfl) ?_
      refine a_pf (m := G 6 0 + 1) (nI_1 _) ?_
      have q := h0 j g e1 hj z9
      have e : (encS (gu (gu (gu G 0 0 0) 7 (G 6 0) j) 6 0 (G 6 0 + 1)) 6 0) - 1 = nI (G 6 0) := nI_pred _
      rw [e]; exact q
  · exact ⟨fun _ => rf_goes (fun _ => ⟨fun _ => h1 g, fun z => absurd rfl z⟩) (fun z => absurd rfl z) (fun z => absurd rfl z) (fun z => absurd rfl z), fun _ => rf_goes (fun _ => ⟨fun _ => h1 g, fun z => absurd rfl z⟩) (fun z => absurd rfl z) (fun z => absurd rfl z) (fun z => absurd rfl z)⟩
theorem op_person {x1 : Int32} (hI : Inv G) (hQ : RQ G C) (hmc : 10 ≤ mc) (hms : 300 ≤ ms) : u_A_person (fun r C' => v_M_person (fun b S' => b = r ∧ Fin9 C' S' 0) (encS G) x1) (PX2 eIA eUO (fun k C' => v_M_person (fun _ S' => Fin9 C' S' k) (encS G) x1)) mc ms C x1 := by
  have H0 := hI.1.2.1
  have hk := H0.2.1
  obtain ⟨hc0, hc, -⟩ := rq_cn H0 hQ.1
  unfold u_A_person
  rw [hc0, hc]
  refine ⟨by omega, by omega, fun z => Or.inl ⟨rfl, rf_person hI (fun _ => fin_th 1 (by decide) hI hQ) (fun w => absurd w z) (fun _ w => absurd w z)⟩, fun z => ⟨fun z2 => Or.inr ⟨rfl, ?_⟩, fun z2 => ?_⟩⟩
  · exact rf_person hI (fun w => absurd z w) (fun _ _ => fin_th 2 (by decide) hI hQ) (fun _ _ _ _ w => absurd w z2)
  · refine rf_person hI (fun w => absurd z w) (fun _ w => absurd z2 w) (fun g _ e1 hg _ => ⟨rfl, gu (gu (gu G 0 0 0) 7 (G 6 0) g) 6 0 (G 6 0 + 1), ⟨⟨?_, ⟨H0.1, ?_, H0.2.2⟩, hI.1.2.2.1, fun p hp => ?_, fun a ha => ?_⟩, hI.2⟩, ⟨⟨hQ.1.1, hQ.1.2.1, hQ.1.2.2.1, hQ.1.2.2.2.1, hQ.1.2.2.2.2.1, ?_, hQ.1.2.2.2.2.2.2⟩, hQ.2.1, fun p hp => ?_, hQ.2.2.2⟩, rfl, rfl⟩)
    · exact ib_u (ib_u (inv_th (by decide) hI).1.1 (by have := H0.1; omega)) (by omega)
    · show G 6 0 + 1 ≤ 60
      omega
    · obtain ⟨a1, a2, a3, a4⟩ := hI.1.2.2.2.1 p hp
      exact ⟨a1, a2, a3, fun w => a4 (Nat.le_of_succ_le w)⟩
    · obtain ⟨a1, a2, a3⟩ := hI.1.2.2.2.2 a ha
      exact ⟨a1, a2, fun p hp => ⟨fun w => (a3 p hp).1 (Nat.le_of_succ_le w), (a3 p hp).2⟩⟩
    · show nI (cn C 1 + 1) = nI (G 6 0 + 1)
      rw [hc]
    · have hp' : p < G 6 0 + 1 := hp
      show personC C x1 20 p = nI (if p = G 6 0 then g else G 7 p) ∧ personC C x1 23 p = nI (G 8 p) ∧ personC C x1 24 p = nI (G 11 p) ∧ personC C x1 25 p = nI (cAsk G p) ∧ personC C x1 26 p = nI (cAns G p) ∧ ∀ i, i < G 8 p → personC C x1 21 (3 * p + i) = nI (G 9 (3 * p + i)) ∧ personC C x1 22 (3 * p + i) = nI (G 10 (3 * p + i))
      by_cases q : p = G 6 0
      · have b := (hI.1.2.2.2.1 p (by omega)).2.2.2 (by omega)
        have e25 : cAsk G p = 0 := cnt_z _ (fun a ha => decide_eq_false (fun w => w.2 (((hI.1.2.2.2.2 a ha).2.2 p (by omega)).1 (by omega))))
        have e26 : cAns G p = 0 := cnt_z _ (fun a ha => decide_eq_false (fun w => w.2.1 (((hI.1.2.2.2.2 a ha).2.2 p (by omega)).1 (by omega))))
        rw [if_pos q, b.1, b.2, e25, e26, ← e1]
        subst q
        refine ⟨by simp [personC, hc], by simp [personC, hc, nI_0], by simp [personC, hc, nI_0], by simp [personC, hc, nI_0], by simp [personC, hc, nI_0], fun i hi => absurd hi (by omega)⟩
      · obtain ⟨a1, a2, a3, a4, a5, a6⟩ := hQ.2.2.1 p (by omega)
        rw [if_neg q, ← a1, ← a2, ← a3, ← a4, ← a5]
        refine ⟨by simp [personC, hc, q], by simp [personC, hc, q], by simp [personC, hc, q], by simp [personC, hc, q], by simp [personC, hc, q], fun i hi => ?_⟩
        obtain ⟨b1, b2⟩ := a6 i hi
        have hw := (hI.1.2.2.2.1 p (by omega)).1
        rw [← b1, ← b2]
        constructor
        · unfold personC
          rw [hc, if_neg (by omega), if_neg (by omega), if_neg (by omega), if_neg (by omega)]
        · unfold personC
          rw [hc, if_neg (by omega), if_neg (by omega), if_neg (by omega), if_neg (by omega)]
end OPS2
