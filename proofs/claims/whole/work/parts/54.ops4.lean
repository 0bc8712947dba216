/-! what an alarm shows: counting; reached; count -/
section OPS4
variable {G : Gs} {C : Sm} {mc ms : Nat}
theorem cnt_t {P : Nat → Bool} {l : Nat} (h : P l = true) : nI (cnt P l) + 1 = nI (cnt P (l + 1)) := by
  rw [nI_1]
  show nI (cnt P l + 1) = nI (cnt P l + if P l = true then 1 else 0)
  rw [if_pos h]
theorem cnt_f {P : Nat → Bool} {l : Nat} (h : P l = false) : nI (cnt P l) = nI (cnt P (l + 1)) := by
  show nI (cnt P l) = nI (cnt P l + if P l = true then 1 else 0)
  rw [if_neg (by rw [h]; decide)]
  rfl
theorem cl_cf {post : Int32 → Sm → Prop} {a k0 : Nat} {fl : Int32} {P : Nat → Bool} (hP : ∀ p, p < 60 → (C (k0 + 29) (60 * a + p) < fl ↔ P p = false)) (h : post (nI (cnt P 60)) C) : u_L_countFrom post C k0 a fl := by
  have key : ∀ d l, d + l = 60 → u_L_countFrom_j11 post k0 (d + 1) C fl (nI (cnt P l)) a 60 (nI l) := by
    intro d
    induction d with
    | zero =>
      intro l hl
      have e : l = 60 := by omega
      subst e
      exact ⟨fun _ => h, fun z => absurd (by decide) z⟩
    | succ d ih =>
      intro l hl
      refine ⟨fun z => absurd z (nI_ge (a := l) (b := 60) (by omega) (by decide)), fun _ => ⟨vp_in_nI (by omega) (by decide), ?_⟩⟩
      rw [nI_clamp (by omega)]
      refine ⟨fun z => ?_, fun z => ?_⟩
      · show u_L_countFrom_j11 post k0 (d + 1) C fl (nI (cnt P l)) a 60 (nI l + 1)
        rw [nI_1, cnt_f ((hP l (by omega)).mp z)]
        exact ih (l + 1) (by omega)
      · show u_L_countFrom_j11 post k0 (d + 1) C fl (nI (cnt P l) + 1) a 60 (nI l + 1)
        have e : P l = true := by
          cases hh : P l with
          | true => rfl
          | false => exact absurd ((hP l (by omega)).mpr hh) z
        rw [cnt_t e, nI_1]
        exact ih (l + 1) (by omega)
  have k0' := key 60 0 rfl
  rw [nI_0] at k0'
  exact ⟨61, k0'⟩
theorem rN_b (hB : IB G) (k : Nat) : rN G k < 2 ^ 31 := by
  have h1 := hB 19 k (by decide)
  have h2 := hB 20 k (by decide)
  unfold rN
  split
  · decide
  · split
    · decide
    · omega
theorem sN_b (hB : IB G) (k : Nat) : sN G k ≤ 1000000 := by
  have h1 := hB 21 k (by decide)
  unfold sN
  split
  · decide
  · exact h1
theorem rN0 (k : Nat) : rN G k = 0 ↔ G 18 k = 0 := by unfold rN; split <;> (try split) <;> omega
theorem rN2 (k : Nat) : rN G k < 2 ↔ (G 18 k = 0 ∨ G 19 k = 0) := by unfold rN; split <;> (try split) <;> omega
theorem sN0 (k : Nat) : sN G k = 0 ↔ (G 18 k = 0 ∨ G 21 k = 0) := by unfold sN; split <;> omega
theorem sN2 (k : Nat) : sN G k < 2 ↔ (G 18 k = 0 ∨ G 21 k < 2) := by unfold sN; split <;> omega
theorem cl_asked {post : Int32 → Sm → Prop} {a : Nat} (hB : IB G) (hQ : QA G C) (ha : a < G 12 0) (h : post (nI (mAsk G a)) C) : u_L_askedPersons post C a := by
  refine cl_cf (P := fun p => decide (G 18 (60 * a + p) ≠ 0)) (fun p hp => ?_) h
  obtain ⟨-, -, -, -, -, -, q⟩ := hQ a ha
  show C 35 (60 * a + p) < -1 ↔ _
  rw [(q p hp).1, m2_lt1 (rN_b hB _), rN0, decide_eq_false_iff_not]; omega
theorem cl_reachedP {post : Int32 → Sm → Prop} {a : Nat} (hB : IB G) (hQ : QA G C) (ha : a < G 12 0) (h : post (nI (mRea G a)) C) : u_L_reachedPersons post C a := by
  refine cl_cf (P := fun p => decide (G 18 (60 * a + p) ≠ 0 ∧ G 19 (60 * a + p) ≠ 0)) (fun p hp => ?_) h
  obtain ⟨-, -, -, -, -, -, q⟩ := hQ a ha
  show C 35 (60 * a + p) < 0 ↔ _
  rw [(q p hp).1, m2_lt0 (rN_b hB _), rN2, decide_eq_false_iff_not]; omega
theorem cl_answered {post : Int32 → Sm → Prop} {a : Nat} (hB : IB G) (hQ : QA G C) (ha : a < G 12 0) (h : post (nI (mAns G a)) C) : u_L_answeredPersons post C a := by
  refine cl_cf (P := fun p => decide (G 18 (60 * a + p) ≠ 0 ∧ G 21 (60 * a + p) ≠ 0)) (fun p hp => ?_) h
  obtain ⟨-, -, -, -, -, -, q⟩ := hQ a ha
  have hb := sN_b hB (60 * a + p)
  show C 36 (60 * a + p) < -1 ↔ _
  rw [(q p hp).2, m2_lt1 (by omega), sN0, decide_eq_false_iff_not]; omega
theorem cl_coming {post : Int32 → Sm → Prop} {a : Nat} (hB : IB G) (hQ : QA G C) (ha : a < G 12 0) (h : post (nI (mCom G a)) C) : u_L_comingPersons post C a := by
  refine cl_cf (P := fun p => decide (G 18 (60 * a + p) ≠ 0 ∧ 2 ≤ G 21 (60 * a + p))) (fun p hp => ?_) h
  obtain ⟨-, -, -, -, -, -, q⟩ := hQ a ha
  have hb := sN_b hB (60 * a + p)
  show C 36 (60 * a + p) < 0 ↔ _
  rw [(q p hp).2, m2_lt0 (by omega), sN2, decide_eq_false_iff_not]; omega
def mP (G : Gs) (k w : Nat) : Bool := decide (G 18 k ≠ 0 ∧ (w = 1 ∨ (w = 2 ∧ G 19 k ≠ 0) ∨ (w = 3 ∧ G 21 k ≠ 0) ∨ (w = 4 ∧ 2 ≤ G 21 k)))
def mW (G : Gs) (a w : Nat) : Nat := cnt (fun p => mP G (60 * a + p) w) 60
theorem mW1 (a : Nat) : mW G a 1 = mAsk G a := cnt_cg (fun p _ => by show decide _ = decide _; apply decide_eq_decide.mpr; omega)
theorem mW2 (a : Nat) : mW G a 2 = mRea G a := cnt_cg (fun p _ => by show decide _ = decide _; apply decide_eq_decide.mpr; omega)
theorem mW3 (a : Nat) : mW G a 3 = mAns G a := cnt_cg (fun p _ => by show decide _ = decide _; apply decide_eq_decide.mpr; omega)
theorem mW4 (a : Nat) : mW G a 4 = mCom G a := cnt_cg (fun p _ => by show decide _ = decide _; apply decide_eq_decide.mpr; omega)
theorem rf_many {post : Int32 → Sm → Prop} {a w : Nat} (hB : IB G) (ha : a < 60) (hw : 1 ≤ w ∧ w ≤ 4) (h : post (nI (mW G a w)) (encS G)) : v_M_many post (encS G) (nI a) (nI w) := by
  have key : ∀ d l, d + l = 60 → v_M_many_j5 post (d + 1) (encS G) (nI a) (nI w) (nI (cnt (fun p => mP G (60 * a + p) w) l)) (nI l) := by
    intro d
    induction d with
    | zero =>
      intro l hl
      have e : l = 60 := by omega
      subst e
      exact ⟨fun _ => h, fun z => absurd (by decide) z⟩
    | succ d ih =>
      intro l hl
      have N : mP G (60 * a + l) w = false → v_M_many_j89 post (v_M_many_j5 post (d + 1)) (encS G) (nI a) (nI w) (nI (cnt (fun p => mP G (60 * a + p) w) l)) (nI l) := fun e => by
        show v_M_many_j5 post (d + 1) (encS G) (nI a) (nI w) (nI (cnt (fun p => mP G (60 * a + p) w) l)) (nI l + 1)
        rw [nI_1, cnt_f (P := fun p => mP G (60 * a + p) w) e]
        exact ih (l + 1) (by omega)
      have Y : mP G (60 * a + l) w = true → v_M_many_j86 post (v_M_many_j5 post (d + 1)) (encS G) (nI a) (nI w) (nI (cnt (fun p => mP G (60 * a + p) w) l)) (nI l) := fun e => by
        show v_M_many_j5 post (d + 1) (encS G) (nI a) (nI w) (nI (cnt (fun p => mP G (60 * a + p) w) l) + 1) (nI l + 1)
        rw [cnt_t (P := fun p => mP G (60 * a + p) w) e, nI_1]
        exact ih (l + 1) (by omega)
      refine ⟨fun z => absurd z (nI_ge (a := l) (b := 60) (by omega) (by decide)), fun _ => ?_⟩
      have h18 := hB 18 (60 * a + l) (by decide)
      have h19 := hB 19 (60 * a + l) (by decide)
      have h21 := hB 21 (60 * a + l) (by decide)
      have hk : 60 * a + l < 3600 := by omega
      refine a_ld (n := 60 * a + l) (ix60 a l) hk ?_
      show (nI (G 18 (60 * a + l)) = 0 → _) ∧ (¬ nI (G 18 (60 * a + l)) = 0 → _)
      rw [nI_z (by omega)]
      refine ⟨fun z => N (decide_eq_false (by omega)), fun z => ?_⟩
      have W : ∀ q : Nat, (nI w = nI q ↔ w = q) ∨ 100 < q := fun q => by
        by_cases hq : q ≤ 100
        · exact Or.inl (nI_eq (by omega) (by omega))
        · exact Or.inr (by omega)
      have W1 : nI w = 1 ↔ w = 1 := (W 1).resolve_right (by omega)
      have W2 : nI w = 2 ↔ w = 2 := (W 2).resolve_right (by omega)
      have W3 : nI w = 3 ↔ w = 3 := (W 3).resolve_right (by omega)
      have W4 : nI w = 4 ↔ w = 4 := (W 4).resolve_right (by omega)
      have J71 : ¬ (w = 1 ∨ (w = 2 ∧ G 19 (60 * a + l) ≠ 0) ∨ (w = 3 ∧ G 21 (60 * a + l) ≠ 0)) → v_M_many_j71 post (v_M_many_j5 post (d + 1)) (encS G) (nI a) (nI w) (nI (cnt (fun p => mP G (60 * a + p) w) l)) (nI l) (nI a * 60 + nI l) := fun z2 => by
        show (nI w = 4 → _) ∧ (¬ nI w = 4 → _)
        rw [W4]
        refine ⟨fun z3 => a_ld (n := 60 * a + l) (ix60 a l) hk ?_, fun z3 => N (decide_eq_false (by omega))⟩
        show (m2 (G 21 (60 * a + l)) < 0 → _) ∧ (¬ m2 (G 21 (60 * a + l)) < 0 → _)
        rw [m2_lt0 (by omega)]
        exact ⟨fun z4 => N (decide_eq_false (by omega)), fun z4 => Y (decide_eq_true (by omega))⟩
      have J54 : ¬ (w = 1 ∨ (w = 2 ∧ G 19 (60 * a + l) ≠ 0)) → v_M_many_j54 post (v_M_many_j5 post (d + 1)) (encS G) (nI a) (nI w) (nI (cnt (fun p => mP G (60 * a + p) w) l)) (nI l) (nI a * 60 + nI l) := fun z2 => by
        show (nI w = 3 → _) ∧ (¬ nI w = 3 → _)
        rw [W3]
        refine ⟨fun z3 => a_ld (n := 60 * a + l) (ix60 a l) hk ?_, fun z3 => J71 (by omega)⟩
        show (m2 (G 21 (60 * a + l)) = -2 → _) ∧ (¬ m2 (G 21 (60 * a + l)) = -2 → _)
        rw [m2_eq2 (by omega)]
        exact ⟨fun z4 => J71 (by omega), fun z4 => Y (decide_eq_true (by omega))⟩
      show (nI w = 1 → _) ∧ (¬ nI w = 1 → (nI w = 2 → _) ∧ (¬ nI w = 2 → _))
      rw [W1, W2]
      refine ⟨fun z2 => Y (decide_eq_true (by omega)), fun z2 => ⟨fun z3 => a_ld (n := 60 * a + l) (ix60 a l) hk ?_, fun z3 => J54 (by omega)⟩⟩
      show (0 ≤ m1 (G 19 (60 * a + l)) → _) ∧ (¬ 0 ≤ m1 (G 19 (60 * a + l)) → _)
      rw [m1_ge0 (by omega)]
      exact ⟨fun z4 => Y (decide_eq_true (by omega)), fun z4 => J54 (by omega)⟩
  have k0 := key 60 0 rfl
  rw [nI_0] at k0
  exact ⟨61, k0⟩
/-! alarmAt -/
def alAt (G : Gs) (a w : Nat) : Int32 := if w = 0 then nI (G 17 a) else if w = 5 then m1 (G 16 a) else if w = 6 then nI (G 15 a) else nI (mW G a w)
theorem rf_alarmAt {post : Int32 → Sm → Prop} {x1 x2 : Int32} (hI : Inv G) (h1 : ¬ (vp_in x1 (G 12 0) ∧ 0 ≤ x2 ∧ x2 ≤ 6) → post 0 (encS (gu G 0 0 1))) (h0 : ∀ a w : Nat, x1 = nI a → a < G 12 0 → x2 = nI w → w ≤ 6 → post (alAt G a w) (encS (gu G 0 0 0))) : v_M_alarmAt post (encS G) x1 x2 := by
  have H0 := hI.1.2.1
  have hna := H0.2.2.1
  have J0 : ¬ (vp_in x1 (G 12 0) ∧ 0 ≤ x2 ∧ x2 ≤ 6) → v_M_alarmAt_j23 post (encS G) x1 x2 := fun w => rf_goes (fun _ => ⟨fun _ => h1 w, fun z => absurd rfl z⟩) (fun z => absurd rfl z) (fun z => absurd rfl z) (fun z => absurd rfl z)
  refine rf_isAlarm H0 (fun g => ⟨fun z => absurd z d10, fun _ => rf_in (fun a b => ⟨fun z => absurd z d10, fun _ => ?_⟩) (fun c => ⟨fun _ => J0 (fun w => c w.2), fun z => absurd rfl z⟩)⟩) (fun g => ⟨fun _ => J0 (fun w => g w.1), fun z => absurd rfl z⟩)
  obtain ⟨i, hi, e1, -⟩ := in_nI g (by omega)
  obtain ⟨w, hw, e2⟩ := lim_nI (n := 6) (by decide) a b
  have q := h0 i w e1 hi e2 hw
  refine rf_goes (fun z => absurd z d10) (fun _ z => absurd z d10) (fun _ _ z => absurd z d10) (fun _ _ _ => ⟨fun z => absurd z d10, fun _ => ?_⟩)
  rw [e2]
  unfold alAt at q
  refine ⟨fun z => ?_, fun z => ?_⟩
  · rw [if_pos ((nI_z (by omega)).mp z)] at q
    exact a_ld e1 (by show _ < 60; omega) q
  · rw [if_neg (fun y => z ((nI_z (by omega)).mpr y))] at q
    refine ⟨fun z5 => ?_, fun z5 => ?_⟩
    · have h5 : 5 ≤ w := (nI_leI (a := 5) (by decide) (by omega)).mp z5
      refine ⟨fun z6 => ?_, fun z6 => ?_⟩
      · rw [if_pos ((nI_eq (b := 5) (by omega) (by decide)).mp z6)] at q
        exact a_ld e1 (by show _ < 60; omega) q
      · have n5 : ¬ w = 5 := fun y => z6 (by rw [y]; rfl)
        rw [if_neg n5, if_pos (by omega)] at q
        exact a_ld e1 (by show _ < 60; omega) q
    · have h5 : ¬ 5 ≤ w := fun y => z5 (nI_le (a := 5) y (by omega))
      have n0 : ¬ w = 0 := fun y => z ((nI_z (by omega)).mpr y)
      rw [if_neg (by omega), if_neg (by omega)] at q
      rw [e1]
      exact rf_many (G := gu G 0 0 0) (inv_th (by decide) hI).1.1 (by omega) (by omega) q
theorem op_alarmAt {x1 x2 : Int32} (hI : Inv G) (hQ : RQ G C) (hmc : 10 ≤ mc) (hms : 300 ≤ ms) : u_A_alarmAt (fun r C' => v_M_alarmAt (fun b S' => b = r ∧ Fin9 C' S' 0) (encS G) x1 x2) (PX1 eIA (fun k C' => v_M_alarmAt (fun _ S' => Fin9 C' S' k) (encS G) x1 x2)) mc ms C x1 x2 := by
  have H0 := hI.1.2.1
  have hB := hI.1.1
  have hna := H0.2.2.1
  refine ⟨1, 6, by omega, by omega, cl_aOf H0 hQ.1 (Nat.le_refl _) (Nat.le_refl _) (fun g => ?_) (fun g => ⟨rfl, rf_alarmAt hI (fun _ => fin_th 1 (by decide) hI hQ) (fun a _ e ha => absurd (by rw [e]; exact vp_in_nI ha (by omega)) g)⟩)⟩
  obtain ⟨a, ha, e1, ec⟩ := in_nI g (by omega)
  rw [ec]
  obtain ⟨q1, q2, q3, q4, q5, q6, q7⟩ := hQ.2.2.2 a ha
  have fin : ∀ (w : Nat) (r : Int32), w ≤ 6 → x2 = nI w → alAt G a w = r → v_M_alarmAt (fun b S' => b = r ∧ Fin9 C S' 0) (encS G) x1 x2 := by
    intro w r hw e2 hr
    have d : ∀ q : Nat, q ≤ 6 → nI w = nI q → w = q := fun q hq z => (nI_eq (by omega) (by omega)).mp z
    refine rf_alarmAt hI (fun z => absurd ⟨g, by rw [e2]; exact nI_pos' (by omega), by rw [e2]; exact nI_le (b := 6) hw (by decide)⟩ z) (fun a' w' f1 fa f2 fw => ⟨?_, fin_th 0 (by decide) hI hQ⟩)
    have g1 : a' = a := (nI_eq (by omega) (by omega)).mp (f1.symm.trans e1)
    have g2 : w' = w := (nI_eq (by omega) (by omega)).mp (f2.symm.trans e2)
    rw [g1, g2]; exact hr
  refine ⟨fun z => ?_, fun z => cl_asked hB hQ.2.2.2 ha ?_, fun z => cl_reachedP hB hQ.2.2.2 ha ?_, fun z => cl_answered hB hQ.2.2.2 ha ?_, fun z => cl_coming hB hQ.2.2.2 ha ?_, fun z => ?_, fun z => ?_, fun z0 z1 z2 z3 z4 z5 z6 => ⟨by omega, by omega, rfl, ?_⟩⟩
  · exact fin 0 _ (by omega) z q6.symm
  · exact fin 1 _ (by omega) z (by rw [← mW1]; rfl)
  · exact fin 2 _ (by omega) z (by rw [← mW2]; rfl)
  · exact fin 3 _ (by omega) z (by rw [← mW3]; rfl)
  · exact fin 4 _ (by omega) z (by rw [← mW4]; rfl)
  · exact fin 5 _ (by omega) z q5.symm
  · exact fin 6 _ (by omega) z q3.symm
  · refine rf_alarmAt hI (fun _ => fin_th 1 (by decide) hI hQ) (fun _ w _ _ e2 hw => ?_)
    exfalso
    rcases (show w = 0 ∨ w = 1 ∨ w = 2 ∨ w = 3 ∨ w = 4 ∨ w = 5 ∨ w = 6 by omega) with rfl | rfl | rfl | rfl | rfl | rfl | rfl
    · exact z0 e2
    · exact z1 e2
    · exact z2 e2
    · exact z3 e2
    · exact z4 e2
    · exact z5 e2
    · exact z6 e2
/-! reached -/
theorem cl_reachOf {post : Int32 → Sm → Prop} {a p : Nat} (hp : p < 60) (h : post (C 35 (60 * a + p)) C) : u_L_reachOf post C a (nI p) := by
  refine ⟨fun z => absurd z (nI_pos (by omega)), fun _ => ⟨fun z => absurd z (nI_ge (b := 60) hp (by decide)), fun _ => ⟨vp_in_nI hp (by decide), ?_⟩⟩⟩
  rw [nI_clamp (by omega)]; exact h
theorem cl_hasReached {post : Int32 → Sm → Prop} {a p : Nat} (hB : IB G) (hQ : QA G C) (ha : a < G 12 0) (hp : p < 60) (h0 : (G 18 (60 * a + p) = 0 ∨ G 19 (60 * a + p) = 0) → post 0 C) (h1 : G 18 (60 * a + p) ≠ 0 → G 19 (60 * a + p) ≠ 0 → post 1 C) : u_L_hasReached post C a (nI p) := by
  obtain ⟨-, -, -, -, -, -, q⟩ := hQ a ha
  refine cl_reachOf hp ?_
  show (C 35 (60 * a + p) < 0 → _) ∧ (¬ C 35 (60 * a + p) < 0 → _)
  rw [(q p hp).1, m2_lt0 (rN_b hB _), rN2]
  exact ⟨h0, fun z => h1 (fun w => z (Or.inl w)) (fun w => z (Or.inr w))⟩
theorem rf_isReached {post : Int32 → Sm → Prop} {a p : Nat} (hB : IB G) (ha : a < 60) (hp : p < 60) (h0 : (G 18 (60 * a + p) = 0 ∨ G 19 (60 * a + p) = 0) → post 0 (encS G)) (h1 : G 18 (60 * a + p) ≠ 0 → G 19 (60 * a + p) ≠ 0 → post 1 (encS G)) : v_M_isReached post (encS G) (nI a) (nI p) := by
  have h18 := hB 18 (60 * a + p) (by decide)
  have h19 := hB 19 (60 * a + p) (by decide)
  have hk : 60 * a + p < 3600 := by omega
  refine a_ld (n := 60 * a + p) (ix60 a p) hk ?_
  show (nI (G 18 (60 * a + p)) = 0 → _) ∧ (¬ nI (G 18 (60 * a + p)) = 0 → _)
  rw [nI_z (by omega)]
  refine ⟨fun z => h0 (Or.inl z), fun z => a_ld (n := 60 * a + p) (ix60 a p) hk ?_⟩
  show (m1 (G 19 (60 * a + p)) < 0 → _) ∧ (¬ m1 (G 19 (60 * a + p)) < 0 → _)
  rw [m1_lt0 (by omega)]
  exact ⟨fun w => h0 (Or.inr w), fun w => h1 z w⟩
def rVal (G : Gs) (k : Nat) : Int32 := if G 18 k = 0 ∨ G 19 k = 0 then -1 else m2 (rN G k)
theorem rf_reached {post : Int32 → Sm → Prop} {x1 x2 : Int32} (hI : Inv G) (h1 : ¬ (vp_in x1 (G 12 0) ∧ vp_in x2 (G 6 0)) → post 0 (encS (gu G 0 0 1))) (h0 : ∀ a p : Nat, x1 = nI a → a < G 12 0 → x2 = nI p → p < G 6 0 → post (rVal G (60 * a + p)) (encS (gu G 0 0 0))) : v_M_reached post (encS G) x1 x2 := by
  have H0 := hI.1.2.1
  have hna := H0.2.2.1
  have hnp := H0.2.1
  have J0 : ¬ (vp_in x1 (G 12 0) ∧ vp_in x2 (G 6 0)) → v_M_reached_j21 post (encS G) x1 x2 := fun w => rf_goes (fun _ => ⟨fun _ => h1 w, fun z => absurd rfl z⟩) (fun z => absurd rfl z) (fun z => absurd rfl z) (fun z => absurd rfl z)
  refine rf_isAlarm H0 (fun g => ⟨fun z => absurd z d10, fun _ => rf_isPerson H0 (fun g2 => ⟨fun z => absurd z d10, fun _ => ?_⟩) (fun c => ⟨fun _ => J0 (fun w => c w.2), fun z => absurd rfl z⟩)⟩) (fun g => ⟨fun _ => J0 (fun w => g w.1), fun z => absurd rfl z⟩)
  obtain ⟨a, ha, e1, -⟩ := in_nI g (by omega)
  obtain ⟨p, hp, e2, -⟩ := in_nI g2 (by omega)
  have q := h0 a p e1 ha e2 hp
  unfold rVal at q
  refine rf_goes (fun z => absurd z d10) (fun _ z => absurd z d10) (fun _ _ z => absurd z d10) (fun _ _ _ => ⟨fun z => absurd z d10, fun _ => ?_⟩)
  rw [e1, e2]
  refine rf_isReached (G := gu G 0 0 0) (inv_th (by decide) hI).1.1 (by omega) (by omega) (fun z => ⟨fun _ => ?_, fun w => absurd rfl w⟩) (fun z z2 => ⟨fun w => absurd w d10, fun _ => a_ld (n := 60 * a + p) (ix60 a p) (by show _ < 3600; omega) (a_ld (n := 60 * a + p) (ix60 a p) (by show _ < 3600; omega) ?_)⟩)
  · have z' : G 18 (60 * a + p) = 0 ∨ G 19 (60 * a + p) = 0 := z
    rw [if_pos z'] at q; exact q
  · have z' : ¬ G 18 (60 * a + p) = 0 := z
    have z2' : ¬ G 19 (60 * a + p) = 0 := z2
    rw [if_neg (fun w => w.elim z' z2')] at q
    obtain ⟨n, hn⟩ : ∃ n, G 19 (60 * a + p) = n + 1 := ⟨G 19 (60 * a + p) - 1, by omega⟩
    have e : m2 (rN G (60 * a + p)) = 10 * nI (G 20 (60 * a + p)) + m1 (G 19 (60 * a + p)) := by
      unfold rN
      rw [if_neg z', if_neg z2', hn, m1_s]
      show m2 (10 * G 20 (60 * a + p) + n + 2) = _
      rw [m2_s, show (10 : Int32) = nI 10 from rfl, pk_mul, nI_add]
    rw [e] at q
    exact q
theorem op_reached {x1 x2 : Int32} (hI : Inv G) (hQ : RQ G C) (hmc : 10 ≤ mc) (hms : 300 ≤ ms) : u_A_reached (fun r C' => v_M_reached (fun b S' => b = r ∧ Fin9 C' S' 0) (encS G) x1 x2) (PX1 eIA (fun k C' => v_M_reached (fun _ S' => Fin9 C' S' k) (encS G) x1 x2)) mc ms C x1 x2 := by
  have H0 := hI.1.2.1
  have hB := hI.1.1
  have hna := H0.2.2.1
  have hnp := H0.2.1
  refine ⟨1, 6, by omega, by omega, cl_aOf H0 hQ.1 (Nat.le_refl _) (Nat.le_refl _) (fun g => ⟨1, 6, by omega, by omega, cl_rqP H0 hQ.1 (Nat.le_refl _) (Nat.le_refl _) (fun g2 => ?_) (fun g2 => ⟨rfl, rf_reached hI (fun _ => fin_th 1 (by decide) hI hQ) (fun _ p _ _ e hp => absurd (by rw [e]; exact vp_in_nI hp (by omega)) g2)⟩)⟩) (fun g => ⟨rfl, rf_reached hI (fun _ => fin_th 1 (by decide) hI hQ) (fun a _ e ha => absurd (by rw [e]; exact vp_in_nI ha (by omega)) g)⟩)⟩
  obtain ⟨a, ha, e1, ec⟩ := in_nI g (by omega)
  obtain ⟨p, hp, e2, -⟩ := in_nI g2 (by omega)
  rw [ec]
  have fin : ∀ r : Int32, rVal G (60 * a + p) = r → v_M_reached (fun b S' => b = r ∧ Fin9 C S' 0) (encS G) x1 x2 := by
    intro r hr
    refine rf_reached hI (fun z => absurd ⟨g, g2⟩ z) (fun a' p' f1 fa f2 fp => ⟨?_, fin_th 0 (by decide) hI hQ⟩)
    have g1 : a' = a := (nI_eq (by omega) (by omega)).mp (f1.symm.trans e1)
    have g2 : p' = p := (nI_eq (by omega) (by omega)).mp (f2.symm.trans e2)
    rw [g1, g2]; exact hr
  have e2' := e2
  have h2 : u_L_hasReached (fun r10 C9 => ((r10 = 0) → v_M_reached (fun b S' => b = (-1) ∧ Fin9 C9 S' 0) (encS G) x1 x2) ∧ (¬ (r10 = 0) → u_L_reachOf (fun r12 C11 => v_M_reached (fun b S' => b = r12 ∧ Fin9 C11 S' 0) (encS G) x1 x2) C9 a x2)) C a (nI p) := by
    refine cl_hasReached hB hQ.2.2.2 ha (by omega) (fun z => ⟨fun _ => fin _ (if_pos z), fun w => absurd rfl w⟩) (fun z z2 => ⟨fun w => absurd w d10, fun _ => ?_⟩)
    rw [e2]
    refine cl_reachOf (by omega) ?_
    rw [← e2]
    refine fin _ ?_
    obtain ⟨-, -, -, -, -, -, q⟩ := hQ.2.2.2 a ha
    rw [(q p (by omega)).1]
    exact if_neg (fun w => w.elim z z2)
  rw [← e2'] at h2
  exact h2
/-! count -/
def oC (G : Gs) : Nat := cnt (fun a => decide (G 17 a = 0)) (G 12 0)
def coV (G : Gs) (w : Nat) : Int32 := if w = 0 then nI (G 1 0) else if w = 1 then nI (oC G) else if w = 2 then nI (G 22 0) else if w = 3 then nI (G 23 0) else nI (G 24 0)
theorem rf_count {post : Int32 → Sm → Prop} {x : Int32} (hI : Inv G) (h1 : ¬ (0 ≤ x ∧ x ≤ 4) → post 0 (encS (gu G 0 0 1))) (h0 : ∀ w : Nat, x = nI w → w ≤ 4 → post (coV G w) (encS (gu G 0 0 0))) : v_M_count post (encS G) x := by
  have H0 := hI.1.2.1
  have hna := H0.2.2.1
  have hB := hI.1.1
  refine rf_in (fun a b => ?_) (fun a => rf_goes (fun _ => ⟨fun _ => h1 a, fun z => absurd rfl z⟩) (fun z => absurd rfl z) (fun z => absurd rfl z) (fun z => absurd rfl z))
  obtain ⟨w, hw, e⟩ := lim_nI (n := 4) (by decide) a b
  have q := h0 w e hw
  refine rf_goes (fun z => absurd z d10) (fun _ z => absurd z d10) (fun _ _ z => absurd z d10) (fun _ _ _ => ⟨fun z => absurd z d10, fun _ => ?_⟩)
  subst e
  have key : ∀ d l, d + l = G 12 0 → v_M_count_j21 post (d + 1) (encS (gu G 0 0 0)) (nI w) (nI (cnt (fun a => decide (G 17 a = 0)) l)) (nI l) := by
    intro d
    induction d with
    | zero =>
      intro l hl
      have e : l = G 12 0 := by omega
      subst e
      refine ⟨fun _ => ?_, fun z => absurd (nI_le (a := G 12 0) (b := G 12 0) (Nat.le_refl _) (by omega)) z⟩
      unfold coV at q
      refine ⟨fun z => ?_, fun z => ⟨fun z1 => ?_, fun z1 => ⟨fun z2 => ?_, fun z2 => ⟨fun z3 => ?_, fun z3 => ?_⟩⟩⟩⟩
      · rw [if_pos ((nI_z (by omega)).mp z)] at q; exact q
      · rw [if_neg (fun y => z ((nI_z (by omega)).mpr y)), if_pos ((nI_eq (b := 1) (by omega) (by decide)).mp z1)] at q; exact q
      · rw [if_neg (fun y => z ((nI_z (by omega)).mpr y)), if_neg (fun y => z1 (by rw [y]; rfl)), if_pos ((nI_eq (b := 2) (by omega) (by decide)).mp z2)] at q; exact q
      · rw [if_neg (fun y => z ((nI_z (by omega)).mpr y)), if_neg (fun y => z1 (by rw [y]; rfl)), if_neg (fun y => z2 (by rw [y]; rfl)), if_pos ((nI_eq (b := 3) (by omega) (by decide)).mp z3)] at q; exact q
      · rw [if_neg (fun y => z ((nI_z (by omega)).mpr y)), if_neg (fun y => z1 (by rw [y]; rfl)), if_neg (fun y => z2 (by rw [y]; rfl)), if_neg (fun y => z3 (by rw [y]; rfl))] at q; exact q
    | succ d ih =>
      intro l hl
      refine ⟨fun z => absurd z (nI_ge (a := l) (b := G 12 0) (by omega) (by omega)), fun _ => a_ld (n := l) rfl (by show _ < 60; omega) ?_⟩
      have h17 := hB 17 l (by decide)
      show (nI (G 17 l) = 0 → _) ∧ (¬ nI (G 17 l) = 0 → _)
      rw [nI_z (by omega)]
      refine ⟨fun z => ?_, fun z => ?_⟩
      · show v_M_count_j21 post (d + 1) _ (nI w) (nI (cnt (fun a => decide (G 17 a = 0)) l) + 1) (nI l + 1)
        rw [cnt_t (P := fun a => decide (G 17 a = 0)) (decide_eq_true z), nI_1]
        exact ih (l + 1) (by omega)
      · show v_M_count_j21 post (d + 1) _ (nI w) (nI (cnt (fun a => decide (G 17 a = 0)) l)) (nI l + 1)
        rw [nI_1, cnt_f (P := fun a => decide (G 17 a = 0)) (decide_eq_false z)]
        exact ih (l + 1) (by omega)
  have k0 := key (G 12 0) 0 rfl
  rw [nI_0] at k0
  exact ⟨_, k0⟩
theorem cl_open {post : Int32 → Sm → Prop} (hI : Inv G) (hQ : RQ G C) (h : post (nI (oC G)) C) : u_A_openAlarms post C := by
  have H0 := hI.1.2.1
  have hna := H0.2.2.1
  have hB := hI.1.1
  have e6 := hQ.1.2.2.2.2.2.2
  have key : ∀ d l, d + l = G 12 0 → u_A_openAlarms_j4 post (d + 1) C (nI (cnt (fun a => decide (G 17 a = 0)) l)) (nI l) := by
    intro d
    induction d with
    | zero =>
      intro l hl
      have e : l = G 12 0 := by omega
      subst e
      refine ⟨fun _ => h, fun z => absurd (by rw [e6]; exact nI_le (Nat.le_refl _) (by omega)) z⟩
    | succ d ih =>
      intro l hl
      refine ⟨fun z => absurd z (by rw [e6]; exact nI_ge (a := l) (b := G 12 0) (by omega) (by omega)), fun _ => ⟨by rw [(rq_cn H0 hQ.1).2.2]; exact vp_in_nI (by omega) (by omega), ?_⟩⟩
      have h17 := hB 17 l (by decide)
      have q := (hQ.2.2.2 l (by omega)).2.2.2.2.2.1
      rw [nI_clamp (by omega)]
      show (C 37 l = 0 → _) ∧ (¬ C 37 l = 0 → _)
      rw [q, nI_z (by omega)]
      refine ⟨fun z => ?_, fun z => ?_⟩
      · show u_A_openAlarms_j4 post (d + 1) _ (nI (cnt (fun a => decide (G 17 a = 0)) l) + 1) (nI l + 1)
        rw [cnt_t (P := fun a => decide (G 17 a = 0)) (decide_eq_true z), nI_1]
        exact ih (l + 1) (by omega)
      · show u_A_openAlarms_j4 post (d + 1) _ (nI (cnt (fun a => decide (G 17 a = 0)) l)) (nI l + 1)
        rw [nI_1, cnt_f (P := fun a => decide (G 17 a = 0)) (decide_eq_false z)]
        exact ih (l + 1) (by omega)
  have k0 := key (G 12 0) 0 rfl
  rw [nI_0] at k0
  exact ⟨_, k0⟩
theorem op_count {x : Int32} (hI : Inv G) (hQ : RQ G C) (hmc : 10 ≤ mc) (hms : 300 ≤ ms) : u_A_count (fun r C' => v_M_count (fun b S' => b = r ∧ Fin9 C' S' 0) (encS G) x) (PX1 eIA (fun k C' => v_M_count (fun _ S' => Fin9 C' S' k) (encS G) x)) mc ms C x := by
  have fin : ∀ (w : Nat) (r : Int32), w ≤ 4 → x = nI w → coV G w = r → v_M_count (fun b S' => b = r ∧ Fin9 C S' 0) (encS G) x := by
    intro w r hw e2 hr
    refine rf_count hI (fun z => absurd ⟨by rw [e2]; exact nI_pos' (by omega), by rw [e2]; exact nI_le (b := 4) hw (by decide)⟩ z) (fun w' f2 fw => ⟨?_, fin_th 0 (by decide) hI hQ⟩)
    have g2 : w' = w := (nI_eq (by omega) (by omega)).mp (f2.symm.trans e2)
    rw [g2]; exact hr
  obtain ⟨c0, c1, c2, c3, -⟩ := hQ.1
  refine ⟨fun z => fin 0 _ (by omega) z c0.symm, fun z => cl_open hI hQ (fin 1 _ (by omega) z rfl), fun z => fin 2 _ (by omega) z c1.symm, fun z => fin 3 _ (by omega) z c2.symm, fun z => fin 4 _ (by omega) z c3.symm, fun z0 z1 z2 z3 z4 => ⟨by omega, by omega, rfl, ?_⟩⟩
  refine rf_count hI (fun _ => fin_th 1 (by decide) hI hQ) (fun w e2 hw => ?_)
  exfalso
  rcases (show w = 0 ∨ w = 1 ∨ w = 2 ∨ w = 3 ∨ w = 4 by omega) with rfl | rfl | rfl | rfl | rfl
  · exact z0 e2
  · exact z1 e2
  · exact z2 e2
  · exact z3 e2
  · exact z4 e2
end OPS4
