/-! comes -/
section OPS9
variable {G : Gs} {C : Sm} {mc ms a : Nat}
theorem cnt_lt {P Q : Nat → Bool} {k : Nat} : ∀ n, k < n → (∀ i, i < n → P i = true → Q i = true) → P k = false → Q k = true → cnt P n + 1 ≤ cnt Q n := by
  intro n
  induction n with
  | zero => intro h; omega
  | succ n ih =>
    intro h h1 h2 h3
    by_cases q : k = n
    · subst q
      have := cnt_imp (P := P) (Q := Q) k (fun i hi => h1 i (by omega))
      rw [cnt_0 h2, cnt_1 h3]; omega
    · have i1 := ih (by omega) (fun i hi => h1 i (by omega)) h2 h3
      have h4 := h1 n (by omega)
      show cnt P n + _ + 1 ≤ cnt Q n + _
      by_cases z : P n = true
      · rw [if_pos z, if_pos (h4 z)]; omega
      · rw [if_neg z]; omega
def ky (G : Gs) (a q : Nat) : Nat := 1000 * (sN G (60 * a + q) - 2) + q
def coB (G : Gs) (a L : Nat) (o : Nat) : Bool := decide (2 ≤ sN G (60 * a + o) ∧ ky G a o < L)
def rk (G : Gs) (a q : Nat) : Nat := cnt (coB G a (ky G a q)) 60
theorem m2_ltn {s m : Nat} (hs : s < 2 ^ 31) (hm : m < 2 ^ 31) : m2 s < nI m ↔ s < m + 2 := by rw [i_lt, m2_toInt hs, nI_toInt hm]; omega
theorem m2_eqn {s m : Nat} (hs : s < 2 ^ 31) (hm : m < 2 ^ 31) : m2 s = nI m ↔ s = m + 2 := by rw [i_eq, m2_toInt hs, nI_toInt hm]; omega
theorem m1_len {k L : Nat} (hk : k < 2 ^ 31) (hL : L < 2 ^ 31) : nI k ≤ m1 L ↔ k < L := by rw [i_le, m1_toInt hL, nI_toInt hk]; omega
theorem m1_lek {k B : Nat} (hk : k < 2 ^ 31) (hB : B < 2 ^ 31) : m1 B ≤ nI k ↔ B ≤ k + 1 := by rw [i_le, m1_toInt hB, nI_toInt hk]; omega
theorem rk_inj {q q' : Nat} (hq : q < 60) (hq' : q' < 60) (h : 2 ≤ sN G (60 * a + q)) (h' : 2 ≤ sN G (60 * a + q')) (e : rk G a q = rk G a q') : q = q' := by
  have A : ∀ x y : Nat, x < 60 → y < 60 → 2 ≤ sN G (60 * a + x) → ky G a x < ky G a y → rk G a x < rk G a y := fun x y hx hy h2 h3 => by
    have := cnt_lt (P := coB G a (ky G a x)) (Q := coB G a (ky G a y)) (k := x) 60 hx (fun i _ hi => by
      have := of_decide_eq_true hi
      exact decide_eq_true ⟨this.1, by omega⟩) (decide_eq_false (by omega)) (decide_eq_true ⟨h2, h3⟩)
    exact this
  have h1 := A q q' hq hq' h
  have h2 := A q' q hq' hq h'
  have h3 : ky G a q = 1000 * (sN G (60 * a + q) - 2) + q := rfl
  have h4 : ky G a q' = 1000 * (sN G (60 * a + q') - 2) + q' := rfl
  omega
theorem ky_b (hB : IB G) {q : Nat} (hq : q < 60) : ky G a q < 2 ^ 30 := by
  have := sN_b hB (60 * a + q)
  unfold ky
  omega
theorem cl_before {post : Int32 → Sm → Prop} {q m : Nat} (hB : IB G) (hQ : QA G C) (ha : a < G 12 0) (hq : q < 60) (hm : sN G (60 * a + q) = m + 2) (h : post (nI (rk G a q)) C) : u_L_comersBefore post C a (nI q) (nI m) := by
  obtain ⟨-, -, -, -, -, -, qa⟩ := hQ a ha
  have bq := sN_b hB (60 * a + q)
  have kq : ky G a q = 1000 * m + q := by unfold ky; rw [hm]; rfl
  have key : ∀ d l, d + l = 60 → u_L_comersBefore_j5 post (d + 1) C a (nI q) (nI m) (nI (cnt (coB G a (ky G a q)) l)) (nI l) := by
    intro d
    induction d with
    | zero =>
      intro l hl
      have e : l = 60 := by omega
      subst e
      exact ⟨fun _ => h, fun z => absurd (by decide) z⟩
    | succ d ih =>
      intro l hl
      have bl := sN_b hB (60 * a + l)
      have kl : ky G a l = 1000 * (sN G (60 * a + l) - 2) + l := rfl
      refine ⟨fun z => absurd z (nI_ge (a := l) (b := 60) (by omega) (by decide)), fun _ => ⟨vp_in_nI (by omega) (by decide), ?_⟩⟩
      rw [nI_clamp (by omega), (qa l (by omega)).2]
      have N : coB G a (ky G a q) l = false → u_L_comersBefore_j50 post (u_L_comersBefore_j5 post (d + 1)) C a (nI q) (nI m) (nI (cnt (coB G a (ky G a q)) l)) (nI l) := fun z => by
        unfold u_L_comersBefore_j50
        rw [cnt_f z, nI_1]
        exact ih (l + 1) (by omega)
      have Y : coB G a (ky G a q) l = true → u_L_comersBefore_j47 post (u_L_comersBefore_j5 post (d + 1)) C a (nI q) (nI m) (nI (cnt (coB G a (ky G a q)) l)) (nI l) := fun z => by
        unfold u_L_comersBefore_j47 u_L_comersBefore_j50
        rw [cnt_t z, nI_1]
        exact ih (l + 1) (by omega)
      show (m2 (sN G (60 * a + l)) < 0 → _) ∧ (¬ m2 (sN G (60 * a + l)) < 0 → (m2 (sN G (60 * a + l)) < nI m → _) ∧ (¬ m2 (sN G (60 * a + l)) < nI m → (m2 (sN G (60 * a + l)) = nI m → (nI q ≤ nI l → _) ∧ (¬ nI q ≤ nI l → _)) ∧ (¬ m2 (sN G (60 * a + l)) = nI m → _)))
      rw [m2_lt0 (by omega), m2_ltn (by omega) (by omega), m2_eqn (by omega) (by omega), nI_leI (by omega) (by omega)]
      exact ⟨fun z => N (decide_eq_false (by omega)), fun z => ⟨fun z2 => Y (decide_eq_true (by omega)), fun z2 => ⟨fun z3 => ⟨fun z4 => N (decide_eq_false (by omega)), fun z4 => Y (decide_eq_true (by omega))⟩, fun z3 => N (decide_eq_false (by omega))⟩⟩⟩
  have k0 := key 60 0 rfl
  rw [show cnt (coB G a (ky G a q)) 0 = 0 from rfl, nI_0] at k0
  exact ⟨61, k0⟩
theorem cl_comerAt {post : Int32 → Sm → Prop} {i : Nat} (hB : IB G) (hQ : QA G C) (ha : a < G 12 0) (hi : i < 2 ^ 31) (h : ∀ q, q < 60 → 2 ≤ sN G (60 * a + q) → rk G a q = i → post (nI (1000 * q + (sN G (60 * a + q) - 2))) C) (hn : (∀ q, q < 60 → 2 ≤ sN G (60 * a + q) → rk G a q ≠ i) → post (-1) C) : u_L_comerAt post C a (nI i) := by
  obtain ⟨-, -, -, -, -, -, qa⟩ := hQ a ha
  have key : ∀ d l, d + l = 60 → (∀ q, q < l → 2 ≤ sN G (60 * a + q) → rk G a q ≠ i) → u_L_comerAt_j2 post (d + 1) C a (nI i) (nI l) := by
    intro d
    induction d with
    | zero =>
      intro l hl hx
      have e : l = 60 := by omega
      subst e
      exact ⟨fun _ => hn hx, fun z => absurd (by decide) z⟩
    | succ d ih =>
      intro l hl hx
      have bl := sN_b hB (60 * a + l)
      have N : (2 ≤ sN G (60 * a + l) → rk G a l ≠ i) → u_L_comerAt_j40 post (u_L_comerAt_j2 post (d + 1)) C a (nI i) (nI l) := fun z => by
        unfold u_L_comerAt_j40
        rw [nI_1]
        refine ih (l + 1) (by omega) (fun q hq => ?_)
        by_cases y : q = l
        · subst y; exact z
        · exact hx q (by omega)
      refine ⟨fun z => absurd z (nI_ge (a := l) (b := 60) (by omega) (by decide)), fun _ => ⟨vp_in_nI (by omega) (by decide), ?_⟩⟩
      rw [nI_clamp (by omega), (qa l (by omega)).2]
      show (m2 (sN G (60 * a + l)) < 0 → _) ∧ (¬ m2 (sN G (60 * a + l)) < 0 → _)
      rw [m2_lt0 (by omega)]
      refine ⟨fun z => N (fun y => absurd y (by omega)), fun z => ?_⟩
      obtain ⟨m, hm⟩ : ∃ m, sN G (60 * a + l) = m + 2 := ⟨sN G (60 * a + l) - 2, by omega⟩
      rw [hm, m2_s]
      have hr : rk G a l ≤ 60 := cnt_le _ _
      refine cl_before hB hQ ha (by omega) hm ?_
      show (nI (rk G a l) = nI i → _) ∧ (¬ nI (rk G a l) = nI i → _)
      rw [nI_eq (by omega) hi]
      refine ⟨fun y => ?_, fun y => N (fun _ => y)⟩
      have q := h l (by omega) (by omega) y
      rw [hm, Nat.add_sub_cancel] at q
      rw [show (1000 : Int32) = nI 1000 from rfl, pk_mul, nI_add]
      exact q
  have k0 := key 60 0 rfl (fun q hq => absurd hq (by omega))
  rw [nI_0] at k0
  exact ⟨61, k0⟩
def MB (G : Gs) (a L l B : Nat) : Prop := (B = 0 ∧ ∀ p, p < l → 2 ≤ sN G (60 * a + p) → ky G a p < L) ∨ (∃ q, q < l ∧ 2 ≤ sN G (60 * a + q) ∧ L ≤ ky G a q ∧ B = ky G a q + 1 ∧ ∀ p, p < l → 2 ≤ sN G (60 * a + p) → L ≤ ky G a p → ky G a q ≤ ky G a p)
theorem rf_c41 {post : Int32 → Sm → Prop} {K : Sm → Int32 → Int32 → Int32 → Int32 → Prop} {L : Nat} {l2 l4 : Int32} (hB : IB G) (ha : a < 60) (hnp : G 6 0 ≤ 60) (hL : L < 2 ^ 31) (h0 : (∀ p, p < G 6 0 → 2 ≤ sN G (60 * a + p) → ky G a p < L) → post (-1) (encS G)) (h1 : ∀ q, q < G 6 0 → 2 ≤ sN G (60 * a + q) → L ≤ ky G a q → (∀ p, p < G 6 0 → 2 ≤ sN G (60 * a + p) → L ≤ ky G a p → ky G a q ≤ ky G a p) → K (encS G) (nI a) l2 (nI (ky G a q)) (l4 + 1)) : ∀ d l B, d + l = G 6 0 → MB G a L l B → v_M_comes_j41 post K (d + 1) (encS G) (nI a) l2 (m1 L) l4 (m1 B) (nI l) := by
  intro d
  induction d with
  | zero =>
    intro l B hl hM
    have e : l = G 6 0 := by omega
    subst e
    refine ⟨fun _ => ?_, fun z => absurd (nI_le (Nat.le_refl _) (by omega)) z⟩
    rcases hM with ⟨e, hM⟩ | ⟨q, hq, c1, c2, c3, c4⟩
    · subst e
      exact ⟨fun z => absurd z (by decide), fun _ => h0 hM⟩
    · subst c3
      have := ky_b (a := a) hB (q := q) (by omega)
      rw [m1_s]
      exact ⟨fun _ => h1 q hq c1 c2 c4, fun z => absurd (nI_pos' (by omega)) z⟩
  | succ d ih =>
    intro l B hl hM
    have b18 := hB 18 (60 * a + l) (by decide)
    have b21 := hB 21 (60 * a + l) (by decide)
    have bk := ky_b (a := a) hB (q := l) (by omega)
    have bB : B < 2 ^ 31 := by
      rcases hM with ⟨e, -⟩ | ⟨q, hq, c1, c2, c3, c4⟩
      · omega
      · have := ky_b (a := a) hB (q := q) (by omega)
        omega
    refine ⟨fun z => absurd z (nI_ge (a := l) (b := G 6 0) (by omega) (by omega)), fun _ => a_ld (n := 60 * a + l) (ix60 _ _) (by show _ < 3600; omega) ?_⟩
    have S : MB G a L (l + 1) B → v_M_comes_j124 post K (v_M_comes_j41 post K (d + 1)) (encS G) (nI a) l2 (m1 L) l4 (m1 B) (nI l) := fun z => by
      unfold v_M_comes_j124
      rw [nI_1]
      exact ih (l + 1) B (by omega) z
    have T : MB G a L (l + 1) (ky G a l + 1) → v_M_comes_j120 post K (v_M_comes_j41 post K (d + 1)) (encS G) (nI a) l2 (m1 L) l4 (nI l) (nI (ky G a l)) := fun z => by
      unfold v_M_comes_j120 v_M_comes_j124
      rw [nI_1]
      have q := ih (l + 1) _ (by omega) z
      rw [m1_s] at q
      exact q
    have J : ∀ s0 : Int32, (¬ 2 ≤ sN G (60 * a + l) → ¬ 0 ≤ s0) → (2 ≤ sN G (60 * a + l) → s0 = nI (sN G (60 * a + l) - 2)) → v_M_comes_j81 post K (v_M_comes_j41 post K (d + 1)) (encS G) (nI a) l2 (m1 L) l4 (m1 B) (nI l) s0 := by
      intro s0 c0 c1
      by_cases hco : 2 ≤ sN G (60 * a + l)
      · have ek : 1000 * s0 + nI l = nI (ky G a l) := by
          rw [c1 hco, show (1000 : Int32) = nI 1000 from rfl, pk_mul, nI_add]; rfl
        unfold v_M_comes_j81
        rw [ek, m1_len (by omega) hL, m1_lt0 bB, m1_lek (by omega) bB]
        refine ⟨fun _ => ⟨fun z => S ?_, fun z => ⟨fun z2 => T ?_, fun z2 => ⟨fun z3 => S ?_, fun z3 => T ?_⟩⟩⟩, fun z => absurd (by rw [c1 hco]; exact nI_pos' (by have := sN_b hB (60 * a + l); omega)) z⟩
        · rcases hM with ⟨e, hM⟩ | ⟨q, hq, d1, d2, d3, d4⟩
          · refine Or.inl ⟨e, fun p hp hp2 => ?_⟩
            by_cases y : p = l
            · subst y; exact z
            · exact hM p (by omega) hp2
          · refine Or.inr ⟨q, by omega, d1, d2, d3, fun p hp hp2 hp3 => ?_⟩
            by_cases y : p = l
            · subst y; omega
            · exact d4 p (by omega) hp2 hp3
        · rcases hM with ⟨e, hM⟩ | ⟨q, hq, d1, d2, d3, d4⟩
          · refine Or.inr ⟨l, by omega, hco, by omega, rfl, fun p hp hp2 hp3 => ?_⟩
            by_cases y : p = l
            · subst y; exact Nat.le_refl _
            · have := hM p (by omega) hp2; omega
          · omega
        · rcases hM with ⟨e, hM⟩ | ⟨q, hq, d1, d2, d3, d4⟩
          · omega
          · refine Or.inr ⟨q, by omega, d1, d2, d3, fun p hp hp2 hp3 => ?_⟩
            by_cases y : p = l
            · subst y; omega
            · exact d4 p (by omega) hp2 hp3
        · rcases hM with ⟨e, hM⟩ | ⟨q, hq, d1, d2, d3, d4⟩
          · omega
          · refine Or.inr ⟨l, by omega, hco, by omega, rfl, fun p hp hp2 hp3 => ?_⟩
            by_cases y : p = l
            · subst y; exact Nat.le_refl _
            · have := d4 p (by omega) hp2 hp3; omega
      · refine ⟨fun z => absurd z (c0 hco), fun _ => S ?_⟩
        rcases hM with ⟨e, hM⟩ | ⟨q, hq, d1, d2, d3, d4⟩
        · refine Or.inl ⟨e, fun p hp hp2 => ?_⟩
          by_cases y : p = l
          · subst y; exact absurd hp2 hco
          · exact hM p (by omega) hp2
        · refine Or.inr ⟨q, by omega, d1, d2, d3, fun p hp hp2 hp3 => ?_⟩
          by_cases y : p = l
          · subst y; exact absurd hp2 hco
          · exact d4 p (by omega) hp2 hp3
    show (nI (G 18 (60 * a + l)) = 0 → _) ∧ (¬ nI (G 18 (60 * a + l)) = 0 → _)
    rw [nI_z (by omega)]
    refine ⟨fun z => J _ (fun _ => by decide) (fun y => absurd y (by unfold sN; rw [if_pos z]; omega)), fun z => a_ld (n := 60 * a + l) (ix60 _ _) (by show _ < 3600; omega) ?_⟩
    have es : sN G (60 * a + l) = G 21 (60 * a + l) := by unfold sN; rw [if_neg z]
    refine J (m2 (G 21 (60 * a + l))) (fun y => ?_) (fun y => ?_)
    · rw [m2_ge0 (by omega)]; omega
    · obtain ⟨m, hm⟩ : ∃ m, G 21 (60 * a + l) = m + 2 := ⟨G 21 (60 * a + l) - 2, by omega⟩
      rw [es, hm, m2_s]; rfl
theorem rf_c29 {post : Int32 → Sm → Prop} {i : Nat} (hI : Inv G) (ha : a < G 12 0) (hi : i < 2 ^ 31) (h : ∀ q, q < 60 → 2 ≤ sN G (60 * a + q) → rk G a q = i → post (nI (1000 * q + (sN G (60 * a + q) - 2))) (encS G)) (hn : (∀ q, q < 60 → 2 ≤ sN G (60 * a + q) → rk G a q ≠ i) → post (-1) (encS G)) : ∀ d n L, d + n = 61 → n ≤ i + 1 → L < 2 ^ 31 → cnt (coB G a L) 60 = n → ((n = 0 ∧ L = 0) ∨ ∃ q, q < 60 ∧ 2 ≤ sN G (60 * a + q) ∧ L = ky G a q + 1 ∧ rk G a q + 1 = n) → v_M_comes_j29 post (d + 1) (encS G) (nI a) (nI i) (m1 L) (nI n) := by
  have hB := hI.1.1
  have hnp := hI.1.2.1.2.1
  have hna := hI.1.2.1.2.2.1
  have hco : ∀ p, p < 60 → 2 ≤ sN G (60 * a + p) → p < G 6 0 := fun p hp h2 => Nat.lt_of_not_le (fun y => by
    have := ((hI.1.2.2.2.2 a ha).2.2 p hp).1 y
    unfold sN at h2
    rw [if_pos this] at h2
    omega)
  intro d
  induction d with
  | zero =>
    intro n L hd _ _ hc _
    have := cnt_le (coB G a L) 60
    omega
  | succ d ih =>
    intro n L hd hni hL hc hD
    show (nI i < nI n → _) ∧ (¬ nI i < nI n → _)
    rw [nI_ltI hi (by omega)]
    refine ⟨fun z => ?_, fun z => ?_⟩
    · rcases hD with ⟨e, -⟩ | ⟨q, hq, c1, c2, c3⟩
      · omega
      · have bk := ky_b (a := a) hB hq
        subst c2
        have q1 := h q hq c1 (by omega)
        rw [m1_s, show (1000 : Int32) = nI 1000 from rfl, pk_rem (by omega) (by decide) (by decide), pk_div (by omega) (by decide) (by decide), pk_mul, nI_add]
        have e1 : ky G a q % 1000 = q := by unfold ky; omega
        have e2 : ky G a q / 1000 = sN G (60 * a + q) - 2 := by unfold ky; omega
        rw [e1, e2]
        exact q1
    · have k := rf_c41 (G := G) (post := post) (K := v_M_comes_j29 post (d + 1)) (l2 := nI i) (l4 := nI n) hB (a := a) (by omega) hnp hL (fun hx => hn (fun q hq c1 c2 => ?_)) (fun q hq c1 c2 c3 => ?_) (G 6 0) 0 0 rfl (Or.inl ⟨rfl, fun p hp => absurd hp (by omega)⟩)
      · rw [m1_0, nI_0] at k
        exact ⟨_, k⟩
      · have y := hx q (hco q hq c1) c1
        have := cnt_lt (P := coB G a (ky G a q)) (Q := coB G a L) (k := q) 60 hq (fun o _ ho => by
          have := of_decide_eq_true ho
          exact decide_eq_true ⟨this.1, by omega⟩) (decide_eq_false (by omega)) (decide_eq_true ⟨c1, y⟩)
        have e : rk G a q = cnt (coB G a (ky G a q)) 60 := rfl
        omega
      · have hq60 : q < 60 := by omega
        have bk := ky_b (a := a) hB hq60
        have kq : ky G a q = 1000 * (sN G (60 * a + q) - 2) + q := rfl
        have er : rk G a q = n := by
          rw [← hc]
          refine cnt_cg (fun o ho => ?_)
          show decide (2 ≤ sN G (60 * a + o) ∧ ky G a o < ky G a q) = decide (2 ≤ sN G (60 * a + o) ∧ ky G a o < L)
          apply decide_eq_decide.mpr
          refine ⟨fun w => ⟨w.1, Nat.lt_of_not_le (fun y => ?_)⟩, fun w => ⟨w.1, by omega⟩⟩
          have := c3 o (hco o ho w.1) w.1 y
          omega
        rw [← m1_s (ky G a q), nI_1]
        refine ih (n + 1) (ky G a q + 1) (by omega) (by omega) (by omega) ?_ (Or.inr ⟨q, hq60, c1, rfl, by omega⟩)
        rw [← er]
        refine cnt_up 60 hq60 (fun o ho hne => ?_) (decide_eq_false (by omega)) (decide_eq_true ⟨c1, by omega⟩)
        have ko : ky G a o = 1000 * (sN G (60 * a + o) - 2) + o := rfl
        show decide (2 ≤ sN G (60 * a + o) ∧ ky G a o < ky G a q) = decide (2 ≤ sN G (60 * a + o) ∧ ky G a o < ky G a q + 1)
        apply decide_eq_decide.mpr
        omega
theorem rf_comes {post : Int32 → Sm → Prop} {x1 x2 : Int32} (hI : Inv G) (h1 : ¬ vp_in x1 (G 12 0) → post 0 (encS (gu G 0 0 1))) (h2 : vp_in x1 (G 12 0) → x2 < 0 → post 0 (encS (gu G 0 0 2))) (h : ∀ a i q : Nat, x1 = nI a → a < G 12 0 → x2 = nI i → i < 2 ^ 31 → q < 60 → 2 ≤ sN G (60 * a + q) → rk G a q = i → post (nI (1000 * q + (sN G (60 * a + q) - 2))) (encS (gu G 0 0 0))) (hn : ∀ a i : Nat, x1 = nI a → a < G 12 0 → x2 = nI i → i < 2 ^ 31 → (∀ q, q < 60 → 2 ≤ sN G (60 * a + q) → rk G a q ≠ i) → post (-1) (encS (gu G 0 0 0))) : v_M_comes post (encS G) x1 x2 := by
  have H0 := hI.1.2.1
  have hna := H0.2.2.1
  refine rf_isAlarm H0 (fun g => ⟨fun z => ?_, fun z => ?_⟩) (fun g => ⟨fun z => ?_, fun z => ?_⟩)
  · exact rf_goes (fun y => absurd y d10) (fun _ _ => ⟨fun _ => h2 g z, fun y => absurd rfl y⟩) (fun _ y => absurd rfl y) (fun _ y => absurd rfl y)
  · refine rf_goes (fun y => absurd y d10) (fun _ y => absurd y d10) (fun _ _ y => absurd y d10) (fun _ _ _ => ⟨fun y => absurd y d10, fun _ => ?_⟩)
    obtain ⟨a, ha, e1, -⟩ := in_nI g (by omega)
    obtain ⟨i, hi, e2⟩ := nI_of z
    have k := rf_c29 (G := gu G 0 0 0) (post := post) (a := a) (i := i) (inv_th (by decide) hI) ha hi (fun q hq c1 c2 => h a i q e1 ha e2 hi hq c1 c2) (hn a i e1 ha e2 hi) 61 0 0 rfl (by omega) (by decide) (by
      show cnt (coB G a 0) 60 = 0
      have := cnt_imp (P := coB G a 0) (Q := fun _ => false) 60 (fun o _ ho => absurd (of_decide_eq_true ho).2 (by omega))
      rw [show cnt (fun _ => false) 60 = 0 from by decide] at this
      omega) (Or.inl ⟨rfl, rfl⟩)
    rw [m1_0, nI_0] at k
    rw [e1, e2]
    exact ⟨_, k⟩
  · exact rf_goes (fun _ => ⟨fun _ => h1 g, fun y => absurd rfl y⟩) (fun y => absurd rfl y) (fun y => absurd rfl y) (fun y => absurd rfl y)
  · exact rf_goes (fun _ => ⟨fun _ => h1 g, fun y => absurd rfl y⟩) (fun y => absurd rfl y) (fun y => absurd rfl y) (fun y => absurd rfl y)
theorem op_comes {x1 x2 : Int32} (hI : Inv G) (hQ : RQ G C) (hmc : 10 ≤ mc) (hms : 300 ≤ ms) : u_A_comes (fun r C' => v_M_comes (fun b S' => b = r ∧ Fin9 C' S' 0) (encS G) x1 x2) (PX2 eIA eIO (fun k C' => v_M_comes (fun _ S' => Fin9 C' S' k) (encS G) x1 x2)) mc ms C x1 x2 := by
  have H0 := hI.1.2.1
  have hna := H0.2.2.1
  have VA : ∀ b : Nat, b < G 12 0 → vp_in (nI b) (G 12 0) := fun b hb => vp_in_nI hb (by omega)
  refine ⟨1, 6, by omega, by omega, cl_aOf H0 hQ.1 (Nat.le_refl _) (Nat.le_refl _) (fun g => ⟨1, 6, by omega, by omega, fun z => ?_, fun z => ⟨Nat.le_refl _, Nat.le_refl _, Or.inr ⟨rfl, ?_⟩⟩⟩) (fun g => Or.inl ⟨rfl, ?_⟩)⟩
  · obtain ⟨a, ha, e1, ec⟩ := in_nI g (by omega)
    obtain ⟨i, hi, e2⟩ := nI_of (x := x2) (Int32.not_lt.mpr z)
    rw [ec]
    have UA : ∀ b : Nat, x1 = nI b → b < G 12 0 → b = a := fun b e hb => (nI_eq (by omega) (by omega)).mp (e.symm.trans e1)
    have UI : ∀ b : Nat, x2 = nI b → b < 2 ^ 31 → b = i := fun b e hb => (nI_eq hb hi).mp (e.symm.trans e2)
    have k := cl_comerAt (G := G) (C := C) (a := a) (i := i) (post := fun r C' => v_M_comes (fun b S' => b = r ∧ Fin9 C' S' 0) (encS G) x1 x2) hI.1.1 hQ.2.2.2 ha hi (fun q hq c1 c2 => by
      refine rf_comes hI (fun y => absurd g y) (fun _ y => absurd y (Int32.not_lt.mpr z)) (fun a' i' q' f1 fa f2 fi fq y1 y2 => ?_) (fun a' i' f1 fa f2 fi y => ?_)
      · have u1 := UA a' f1 fa
        have u2 := UI i' f2 fi
        subst u1 u2
        have u3 := rk_inj fq hq y1 c1 (y2.trans c2.symm)
        subst u3
        exact ⟨rfl, fin_th 0 (by decide) hI hQ⟩
      · have u1 := UA a' f1 fa
        have u2 := UI i' f2 fi
        subst u1 u2
        exact absurd c2 (y q hq c1)) (fun hx => by
      refine rf_comes hI (fun y => absurd g y) (fun _ y => absurd y (Int32.not_lt.mpr z)) (fun a' i' q' f1 fa f2 fi fq y1 y2 => ?_) (fun a' i' f1 fa f2 fi y => ?_)
      · have u1 := UA a' f1 fa
        have u2 := UI i' f2 fi
        subst u1 u2
        exact absurd y2 (hx q' fq y1)
      · exact ⟨rfl, fin_th 0 (by decide) hI hQ⟩)
    rw [← e2] at k
    exact k
  · exact rf_comes hI (fun y => absurd g y) (fun _ _ => fin_th 2 (by decide) hI hQ) (fun a' i' q' f1 fa f2 fi => absurd (by rw [f2]; exact nI_pos' fi) z) (fun a' i' f1 fa f2 fi => absurd (by rw [f2]; exact nI_pos' fi) z)
  · exact rf_comes hI (fun _ => fin_th 1 (by decide) hI hQ) (fun y => absurd y g) (fun a' i' q' f1 fa => absurd (f1 ▸ VA a' fa) g) (fun a' i' f1 fa => absurd (f1 ▸ VA a' fa) g)
end OPS9
