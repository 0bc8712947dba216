/-! The calls one by one: class and reference answer alike. First the small ones. -/
abbrev eIA : String := "java/lang/IllegalArgumentException"
abbrev eIO : String := "java/lang/IndexOutOfBoundsException"
abbrev eIS : String := "java/lang/IllegalStateException"
abbrev eUO : String := "java/lang/UnsupportedOperationException"
abbrev eAR : String := "java/lang/ArithmeticException"
def PX1 (a : String) (V : Nat → Sm → Prop) : String → Sm → Prop := fun E C => E = a ∧ V 1 C
def PX2 (a b : String) (V : Nat → Sm → Prop) : String → Sm → Prop := fun E C => (E = a ∧ V 1 C) ∨ (E = b ∧ V 2 C)
def PX3 (a b c : String) (V : Nat → Sm → Prop) : String → Sm → Prop := fun E C => (E = a ∧ V 1 C) ∨ (E = b ∧ V 2 C) ∨ (E = c ∧ V 3 C)
theorem in_nI {x : Int32} {n : Nat} (h : vp_in x n) (hn : n < 2 ^ 31) : ∃ j, j < n ∧ x = nI j ∧ x.toNatClampNeg = j := by
  obtain ⟨j, hj, e⟩ := vp_in_of h hn
  exact ⟨j, hj, e, by rw [e, nI_clamp (by omega)]⟩
theorem d10 : ¬ (1 : Int32) = 0 := by decide
section OPS
variable {G : Gs} {C : Sm} {mc ms : Nat}
theorem ib_u (h : IB G) {j k n : Nat} (hn : n ≤ 1000000) : IB (gu G j k n) := by
  intro s p hs
  unfold gu
  split
  · split
    · exact hn
    · exact h s p hs
  · exact h s p hs
theorem ib_hi (h : IB G) {j k n : Nat} (hj : 22 ≤ j) : IB (gu G j k n) := by
  intro s p hs
  rw [gu_j (by omega)]
  exact h s p hs
/-! next -/
theorem rf_next {post : Sm → Prop} {x1 x2 : Int32} (hI : Inv G)
    (h1 : ¬ (vp_in x1 (G 2 0) ∧ (x2 = -1 ∨ vp_in x2 (G 2 0))) → post (encS (gu G 0 0 1)))
    (h2 : vp_in x1 (G 2 0) → ¬ x2 = -1 → vp_in x2 (G 2 0) → ¬ x1 < x2 → post (encS (gu G 0 0 2)))
    (h0 : vp_in x1 (G 2 0) → (x2 = -1 ∨ (vp_in x2 (G 2 0) ∧ x1 < x2)) → aST (encS (gu G 0 0 0)) 5 x1 x2 post) : v_M_next post (encS G) x1 x2 := by
  have J : ∀ s0 s1 : Int32, (s1 = 0 → post (encS (gu G 0 0 1))) → (¬ s1 = 0 → s0 = 0 → post (encS (gu G 0 0 2))) → (¬ s1 = 0 → ¬ s0 = 0 → aST (encS (gu G 0 0 0)) 5 x1 x2 post) → v_M_next_j42 post (encS G) x1 x2 s0 s1 :=
    fun s0 s1 a b c => rf_goes (fun z => ⟨fun _ => a z, fun w => absurd rfl w⟩) (fun z z2 => ⟨fun _ => b z z2, fun w => absurd rfl w⟩) (fun _ _ z => absurd z d10) (fun z z2 _ => ⟨fun w => absurd w d10, fun _ => c z z2⟩)
  have J0 : ¬ (vp_in x1 (G 2 0) ∧ (x2 = -1 ∨ vp_in x2 (G 2 0))) → v_M_next_j26 post (encS G) x1 x2 := fun w =>
    ⟨fun _ => J _ _ (fun _ => h1 w) (fun z => absurd rfl z) (fun z => absurd rfl z), fun _ => ⟨fun _ => J _ _ (fun _ => h1 w) (fun z => absurd rfl z) (fun z => absurd rfl z), fun _ => J _ _ (fun _ => h1 w) (fun z => absurd rfl z) (fun z => absurd rfl z)⟩⟩
  refine rf_isGroup hI.1.2.1 (fun g => ⟨fun w => absurd w d10, fun _ => ⟨fun e => ?_, fun e => ?_⟩⟩) (fun g => ⟨fun _ => J0 (fun w => g w.1), fun w => absurd rfl w⟩)
  · exact ⟨fun _ => J _ _ (fun w => absurd w d10) (fun _ w => absurd w d10) (fun _ _ => h0 g (Or.inl e)), fun w => absurd e w⟩
  · refine rf_isGroup hI.1.2.1 (fun g2 => ⟨fun w => absurd w d10, fun _ => ⟨fun w => absurd w e, fun _ => ⟨fun w => ?_, fun w => ?_⟩⟩⟩) (fun g2 => ⟨fun _ => J0 (fun w => w.2.elim e g2), fun w => absurd rfl w⟩)
    · exact J _ _ (fun w => absurd w d10) (fun _ _ => h2 g e g2 (Int32.not_lt.mpr w)) (fun _ w => absurd rfl w)
    · exact J _ _ (fun w => absurd w d10) (fun _ w => absurd w d10) (fun _ _ => h0 g (Or.inr ⟨g2, i_nle w⟩))
theorem op_next {x1 x2 : Int32} (hI : Inv G) (hQ : RQ G C) (hmc : 10 ≤ mc) (hms : 100 ≤ ms) : u_A_next (fun C' => v_M_next (fun S' => Fin9 C' S' 0) (encS G) x1 x2) (PX2 eIA eIS (fun k C' => v_M_next (fun S' => Fin9 C' S' k) (encS G) x1 x2)) mc ms C x1 x2 := by
  have H0 := hI.1.2.1
  have hk := H0.1
  have fin : ∀ (n : Nat), vp_in x1 (G 2 0) → x2 = m1 n → n ≤ G 2 0 → (x2 = -1 ∨ (vp_in x2 (G 2 0) ∧ x1 < x2)) → v_M_next (fun S' => Fin9 (su C 12 x1.toNatClampNeg x2) S' 0) (encS G) x1 x2 := by
    intro n g e hn hx
    obtain ⟨i, hi, e1, ec⟩ := in_nI g (by omega)
    refine rf_next hI (fun w => absurd ⟨g, hx.imp id (fun z => z.1)⟩ w) (fun _ w w2 w3 => absurd hx (fun z => z.elim w (fun y => w3 y.2))) (fun _ _ => ?_)
    refine a_st (m := n) e1 (by show i < 12; omega) (by rw [e]; rfl) ?_
    rw [ec]
    refine ⟨gu (gu G 0 0 0) 5 i n, ⟨⟨ib_u (inv_th (by decide) hI).1.1 (by omega), H0, fun i' hi' => ?_, hI.1.2.2.2.1, hI.1.2.2.2.2⟩, hI.2⟩, ⟨hQ.1, fun i' hi' => ?_, hQ.2.2.1, hQ.2.2.2⟩, rfl, rfl⟩
    · obtain ⟨a1, a2, a3⟩ := hI.1.2.2.1 i' hi'
      refine ⟨a1, a2, ?_⟩
      show (if i' = i then n else G 5 i') ≤ G 2 0
      split
      · exact hn
      · exact a3
    · obtain ⟨a1, a2, a3, a4, a5⟩ := hQ.2.1 i' hi'
      refine ⟨a1, a2, ?_, a4, a5⟩
      show su C 12 i x2 12 i' = m1 (if i' = i then n else G 5 i')
      rw [su_v]
      by_cases z : i' = i
      · rw [if_pos ⟨rfl, z⟩, if_pos z, e]
      · rw [if_neg (fun w => z w.2), if_neg z]; exact a3
  refine ⟨1, 6, by omega, by omega, cl_gOf H0 hQ.1 (Nat.le_refl _) (Nat.le_refl _) (fun g => ⟨fun e => fin 0 g (by rw [e, m1_0]) (Nat.zero_le _) (Or.inl e), fun e => ⟨1, 6, by omega, by omega, cl_rqG H0 hQ.1 (Nat.le_refl _) (Nat.le_refl _) (fun g2 => ⟨fun w => ?_, fun w => ⟨by omega, by omega, Or.inr ⟨rfl, ?_⟩⟩⟩) (fun g2 => Or.inl ⟨rfl, ?_⟩)⟩⟩) (fun g => Or.inl ⟨rfl, ?_⟩)⟩
  · obtain ⟨j, hj, e2, -⟩ := in_nI g2 (by omega)
    exact fin (j + 1) g (by rw [m1_s]; exact e2) (by omega) (Or.inr ⟨g2, w⟩)
  · exact rf_next hI (fun z => absurd ⟨g, Or.inr g2⟩ z) (fun _ _ _ _ => fin_th 2 (by decide) hI hQ) (fun _ z => absurd z (fun y => y.elim e (fun y => w y.2)))
  · exact rf_next hI (fun z => fin_th 1 (by decide) hI hQ) (fun _ _ z => absurd z g2) (fun _ z => absurd z (fun y => y.elim e (fun y => g2 y.1)))
  · exact rf_next hI (fun z => fin_th 1 (by decide) hI hQ) (fun z => absurd z g) (fun z => absurd z g)
/-! is -/
theorem rf_is {post : Sm → Prop} {x1 x2 : Int32} (hI : Inv G) (h1 : ¬ vp_in x1 (G 6 0) → post (encS (gu G 0 0 1))) (h2 : vp_in x1 (G 6 0) → ¬ (0 ≤ x2 ∧ x2 ≤ 2) → post (encS (gu G 0 0 2))) (h0 : vp_in x1 (G 6 0) → 0 ≤ x2 → x2 ≤ 2 → aST (encS (gu G 0 0 0)) 11 x1 x2 post) : v_M_is post (encS G) x1 x2 := by
  refine rf_isPerson hI.1.2.1 (fun g => rf_in (fun a b => ?_) (fun a => ?_)) (fun g => rf_in (fun a b => ?_) (fun a => ?_))
  · exact rf_goes (fun w => absurd w d10) (fun _ w => absurd w d10) (fun _ _ w => absurd w d10) (fun _ _ _ => ⟨fun w => absurd w d10, fun _ => h0 g a b⟩)
  · exact rf_goes (fun w => absurd w d10) (fun _ _ => ⟨fun _ => h2 g a, fun w => absurd rfl w⟩) (fun _ w => absurd rfl w) (fun _ w => absurd rfl w)
  · exact rf_goes (fun _ => ⟨fun _ => h1 g, fun w => absurd rfl w⟩) (fun w => absurd rfl w) (fun w => absurd rfl w) (fun w => absurd rfl w)
  · exact rf_goes (fun _ => ⟨fun _ => h1 g, fun w => absurd rfl w⟩) (fun w => absurd rfl w) (fun w => absurd rfl w) (fun w => absurd rfl w)
theorem lim_nI {x : Int32} {n : Nat} (hn : n < 2 ^ 31) (h0 : 0 ≤ x) (h : x ≤ nI n) : ∃ j, j ≤ n ∧ x = nI j := nI_of2 (nI_toInt hn) (Int32.not_lt.mpr h0) h
theorem op_is {x1 x2 : Int32} (hI : Inv G) (hQ : RQ G C) (hmc : 10 ≤ mc) (hms : 100 ≤ ms) : u_A_is (fun C' => v_M_is (fun S' => Fin9 C' S' 0) (encS G) x1 x2) (PX2 eIA eIO (fun k C' => v_M_is (fun S' => Fin9 C' S' k) (encS G) x1 x2)) mc ms C x1 x2 := by
  have H0 := hI.1.2.1
  have hk := H0.2.1
  have X2 : vp_in x1 (G 6 0) → ¬ (0 ≤ x2 ∧ x2 ≤ 2) → u_A_is_j15 (fun C' => v_M_is (fun S' => Fin9 C' S' 0) (encS G) x1 x2) (PX2 eIA eIO (fun k C' => v_M_is (fun S' => Fin9 C' S' k) (encS G) x1 x2)) (mc - 1) (ms - 6) C := fun g z =>
    ⟨by omega, by omega, Or.inr ⟨rfl, rf_is hI (fun w => absurd g w) (fun _ _ => fin_th 2 (by decide) hI hQ) (fun _ a b => absurd ⟨a, b⟩ z)⟩⟩
  refine ⟨1, 6, by omega, by omega, cl_pOf H0 hQ.1 (Nat.le_refl _) (Nat.le_refl _) (fun g => ⟨fun z => X2 g (fun w => i_lt_le z w.1), fun z => ⟨fun z2 => ?_, fun z2 => X2 g (fun w => z2 w.2)⟩⟩) (fun g => Or.inl ⟨rfl, rf_is hI (fun _ => fin_th 1 (by decide) hI hQ) (fun w => absurd w g) (fun w => absurd w g)⟩)⟩
  obtain ⟨i, hi, e1, ec⟩ := in_nI g (by omega)
  obtain ⟨j, hj, e2⟩ := lim_nI (n := 2) (by decide) (i_nlt z) z2
  refine rf_is hI (fun w => absurd g w) (fun _ w => absurd ⟨i_nlt z, z2⟩ w) (fun _ _ _ => a_st (m := j) e1 (by show i < 60; omega) (by rw [e2]; rfl) ?_)
  rw [ec]
  refine ⟨gu (gu G 0 0 0) 11 i j, ⟨⟨ib_u (inv_th (by decide) hI).1.1 (by omega), H0, hI.1.2.2.1, fun p hp => ?_, hI.1.2.2.2.2⟩, hI.2⟩, ⟨hQ.1, hQ.2.1, fun p hp => ?_, hQ.2.2.2⟩, rfl, rfl⟩
  · obtain ⟨a1, a2, a3, a4⟩ := hI.1.2.2.2.1 p hp
    refine ⟨a1, a2, a3, fun w => ⟨(a4 w).1, ?_⟩⟩
    show (if p = i then j else G 11 p) = 0
    rw [if_neg (by have : G 6 0 ≤ p := w; omega)]
    exact (a4 w).2
  · obtain ⟨a1, a2, a3, a4⟩ := hQ.2.2.1 p hp
    refine ⟨a1, a2, ?_, a4⟩
    show su C 24 i x2 24 p = nI (if p = i then j else G 11 p)
    rw [su_v]
    by_cases z : p = i
    · rw [if_pos ⟨rfl, z⟩, if_pos z, e2]
    · rw [if_neg (fun w => z w.2), if_neg z]; exact a3
end OPS
