/-! closing an alarm -/
section OPS10
variable {G : Gs} {C : Sm} {mc ms a U : Nat}
def enG (G : Gs) (a : Nat) : Nat := G 15 a + G 4 (G 13 a)
def howN (G : Gs) (a : Nat) : Nat := if mCom G a < G 3 (G 13 a) then 2 else 1
def c1G (G : Gs) (a : Nat) : Gs := gu G 17 a (howN G a)
def stopB (G : Gs) (a : Nat) : Bool := decide (howN G a = 1 ∨ G 14 a ≠ 0 ∨ G 5 (G 13 a) = 0 ∨ 60 ≤ G 12 0 ∨ cnt (askB G (G 5 (G 13 a) - 1) 0) (G 6 0) = 0)
def clG (G : Gs) (a : Nat) : Gs := if stopB G a = true then c1G G a else gu (beginG (c1G G a) (G 5 (G 13 a) - 1) 0 (a + 1)) 24 0 (G 24 0 + 1)
theorem how_12 (a : Nat) : howN G a = 1 ∨ howN G a = 2 := by
  unfold howN
  by_cases z : mCom G a < G 3 (G 13 a)
  · rw [if_pos z]; exact Or.inr rfl
  · rw [if_neg z]; exact Or.inl rfl
theorem inv_c1 {n : Nat} (hn : n ≤ 1000000) (hI : InvT G) : InvT (gu G 17 a n) := ⟨ib_u hI.1 hn, hI.2⟩
theorem inv_clock {n : Nat} (hn : n ≤ 999999) (hI : InvT G) : InvT (gu G 1 0 n) := ⟨ib_u hI.1 (by omega), ⟨hI.2.1.1, hI.2.1.2.1, hI.2.1.2.2.1, hn⟩, hI.2.2⟩
theorem inv_24 {n : Nat} (hI : InvT G) : InvT (gu G 24 0 n) := ⟨ib_hi hI.1 (by decide), hI.2⟩
theorem inv_cl (hI : InvT G) (ha : a < G 12 0) : InvT (clG G a) := by
  have h12 := how_12 (G := G) a
  have hI1 : InvT (c1G G a) := inv_c1 (by omega) hI
  have hna := hI.2.1.2.2.1
  unfold clG
  by_cases z : stopB G a = true
  · rw [if_pos z]; exact hI1
  · rw [if_neg z]
    have h13 := (hI.2.2.2.2 a ha).1
    have h5 := (hI.2.2.1 _ h13).2.2
    have zz : ¬ (howN G a = 1 ∨ G 14 a ≠ 0 ∨ G 5 (G 13 a) = 0 ∨ 60 ≤ G 12 0 ∨ cnt (askB G (G 5 (G 13 a) - 1) 0) (G 6 0) = 0) := fun y => z (decide_eq_true y)
    refine inv_24 (inv_begin hI1 ?_ (by decide) (by omega) ?_)
    · show G 5 (G 13 a) - 1 < G 2 0
      omega
    · show G 12 0 < 60
      omega
theorem rf_close {post : Int32 → Sm → Prop} {K45 : Sm → Int32 → Int32 → Int32 → Prop} {K63 : Sm → Int32 → Int32 → Int32 → Int32 → Prop} {l1 l2 l3 : Int32} (hI : InvT G) (ha : a < G 12 0) (h : v_M_tick_j227 post K45 K63 (encS (clG G a)) l1 l2 l3 (nI a)) : v_M_many (fun r6 S5 => aLD S5 13 (nI a) (fun v7 => aLD S5 3 v7 (fun v8 => ((r6 < v8) → v_M_tick_j145 post K45 K63 S5 l1 l2 l3 (nI a) 2 (nI a)) ∧ (¬ (r6 < v8) → v_M_tick_j145 post K45 K63 S5 l1 l2 l3 (nI a) 1 (nI a))))) (encS G) (nI a) 4 := by
  obtain ⟨hB, H0, hG, hP, hA⟩ := id hI
  have hna := H0.2.2.1
  have hng := H0.1
  have h13 := (hA a ha).1
  have h5 := (hG _ h13).2.2
  have b3 := hB 3 (G 13 a) (by decide)
  have b14 := hB 14 a (by decide)
  have hmc : mCom G a ≤ 60 := cnt_le _ _
  refine rf_many (w := 4) hB (by omega) (by omega) ?_
  rw [mW4]
  refine a_ld (n := a) rfl (by show _ < 60; omega) (a_ld (n := G 13 a) rfl (by show _ < 12; omega) ?_)
  have J : ∀ n : Nat, n = howN G a → v_M_tick_j145 post K45 K63 (encS G) l1 l2 l3 (nI a) (nI n) (nI a) := by
    intro n en
    have h12 := how_12 (G := G) a
    refine a_st (n := a) (m := n) rfl (by show _ < 60; omega) rfl ?_
    rw [en]
    have hI1 : InvT (c1G G a) := inv_c1 (by omega) hI
    refine a_ld (n := a) rfl (by show _ < 60; omega) (a_ld (n := G 13 a) rfl (by show _ < 12; omega) (a_ld (n := a) rfl (by show _ < 60; omega) ?_))
    show (nI (gu G 17 a (howN G a) 17 a) = 1 → _) ∧ (¬ nI (gu G 17 a (howN G a) 17 a) = 1 → _)
    rw [gu_s, nq1 (by omega)]
    have SS : (howN G a = 1 ∨ G 14 a ≠ 0 ∨ G 5 (G 13 a) = 0 ∨ 60 ≤ G 12 0 ∨ cnt (askB G (G 5 (G 13 a) - 1) 0) (G 6 0) = 0) → v_M_tick_j227 post K45 K63 (encS (gu G 17 a (howN G a))) l1 l2 l3 (nI a) := fun y => by
      unfold clG at h
      rw [if_pos (show stopB G a = true from decide_eq_true y)] at h
      exact h
    refine ⟨fun z => SS (Or.inl z), fun z => a_ld (n := a) rfl (by show _ < 60; omega) ?_⟩
    show (nI (G 14 a) = 0 → (m1 (G 5 (G 13 a)) < 0 → _) ∧ (¬ m1 (G 5 (G 13 a)) < 0 → _)) ∧ (¬ nI (G 14 a) = 0 → _)
    rw [nI_z (by omega), m1_lt0 (by omega)]
    refine ⟨fun z2 => ⟨fun z3 => SS (Or.inr (Or.inr (Or.inl z3))), fun z3 => ?_⟩, fun z2 => SS (Or.inr (Or.inl z2))⟩
    show (nI (G 12 0) = nI 60 → _) ∧ (¬ nI (G 12 0) = nI 60 → _)
    rw [nI_eq (by omega) (by decide)]
    refine ⟨fun z4 => SS (Or.inr (Or.inr (Or.inr (Or.inl (by omega))))), fun z4 => ?_⟩
    obtain ⟨g, hg⟩ : ∃ g, G 5 (G 13 a) = g + 1 := ⟨G 5 (G 13 a) - 1, by omega⟩
    have e5 : encS (gu G 17 a (howN G a)) 5 (G 13 a) = nI g := by
      show m1 (G 5 (G 13 a)) = nI g
      rw [hg, m1_s]
    rw [e5]
    have eg : G 5 (G 13 a) - 1 = g := by omega
    have k := rf_asksAny (G := gu G 17 a (howN G a)) (g := g) (t := 0) (post := fun r7 S6 => ((r7 = 0) → v_M_tick_j227 post K45 K63 S6 l1 l2 l3 (nI a)) ∧ (¬ (r7 = 0) → v_M_begin (fun S8 => aPF S8 24 ((S8 24 0) + 1) (fun S9 => v_M_tick_j227 post K45 K63 S9 l1 l2 l3 (nI a))) S6 (nI g) 0 (nI a))) hI1.1 H0.2.1 (by omega) (by decide) (fun s => ⟨fun _ => SS (Or.inr (Or.inr (Or.inr (Or.inr (by rw [eg]; exact s))))), fun y => absurd rfl y⟩) (fun s => ⟨fun y => absurd y d10, fun _ => ?_⟩)
    · exact k
    · have q := rf_begin (G := gu G 17 a (howN G a)) (g := g) (t := 0) (r := a + 1) (post := fun S8 => aPF S8 24 ((S8 24 0) + 1) (fun S9 => v_M_tick_j227 post K45 K63 S9 l1 l2 l3 (nI a))) hI1 (by show G 12 0 < 60; omega) (by omega) (by decide) (by
        refine a_pf (m := G 24 0 + 1) (nI_1 _) ?_
        unfold clG at h
        have s' : ¬ cnt (askB G g 0) (G 6 0) = 0 := s
        rw [if_neg (fun y => by
          have := of_decide_eq_true y
          rw [eg] at this
          omega), eg] at h
        exact h)
      rw [m1_s] at q
      exact q
  show (nI (mCom G a) < nI (G 3 (G 13 a)) → _) ∧ (¬ nI (mCom G a) < nI (G 3 (G 13 a)) → _)
  rw [nI_ltI (by omega) (by omega)]
  exact ⟨fun z => J 2 (by unfold howN; rw [if_pos z]), fun z => J 1 (by unfold howN; rw [if_neg z])⟩
/-! the class closes -/
theorem qa_cg {C' : Sm} (h : ∀ s k, 30 ≤ s → C' s k = C s k) (hQ : QA G C) : QA G C' := by
  intro a ha
  obtain ⟨c1, c2, c3, c4, c5, c6, c7⟩ := hQ a ha
  refine ⟨?_, ?_, ?_, ?_, ?_, ?_, fun p hp => ⟨?_, ?_⟩⟩
  · rw [h _ _ (by decide)]; exact c1
  · rw [h _ _ (by decide)]; exact c2
  · rw [h _ _ (by decide)]; exact c3
  · rw [h _ _ (by decide)]; exact c4
  · rw [h _ _ (by decide)]; exact c5
  · rw [h _ _ (by decide)]; exact c6
  · rw [h _ _ (by decide)]; exact (c7 p hp).1
  · rw [h _ _ (by decide)]; exact (c7 p hp).2
theorem cl_hasAnswer {post : Int32 → Sm → Prop} {p : Nat} (hB : IB G) (hQ : QA G C) (ha : a < G 12 0) (hp : p < 60) (h0 : sN G (60 * a + p) = 0 → post 0 C) (h1 : sN G (60 * a + p) ≠ 0 → post 1 C) : u_L_hasAnswer post C a (nI p) := by
  obtain ⟨-, -, -, -, -, -, q⟩ := hQ a ha
  have := sN_b hB (60 * a + p)
  refine ⟨fun z => absurd z (nI_pos (by omega)), fun _ => ⟨fun z => absurd z (nI_ge (b := 60) hp (by decide)), fun _ => ⟨vp_in_nI hp (by decide), ?_⟩⟩⟩
  rw [nI_clamp (by omega), (q p hp).2]
  show (m2 (sN G (60 * a + p)) = -2 → _) ∧ (¬ m2 (sN G (60 * a + p)) = -2 → _)
  rw [m2_eq2 (by omega)]
  exact ⟨h0, h1⟩
theorem cl_add28 {post : Sm → Prop} {Cs : Sm} {f25 f26 g25 g26 : Nat → Nat} (hB : IB G) (h6 : G 6 0 ≤ 60) (hQ : QA G Cs) (h5 : Cs 5 0 = nI (G 6 0)) (ha : a < G 12 0)
    (hf : ∀ p, p < G 6 0 → g25 p = f25 p + (if G 18 (60 * a + p) ≠ 0 then 1 else 0) ∧ g26 p = f26 p + (if G 18 (60 * a + p) ≠ 0 ∧ G 21 (60 * a + p) ≠ 0 then 1 else 0))
    (h : ∀ C' : Sm, (∀ s k, s ≠ 25 → s ≠ 26 → C' s k = Cs s k) → (∀ p, p < G 6 0 → C' 25 p = nI (g25 p) ∧ C' 26 p = nI (g26 p)) → post C') :
    ∀ d l (C : Sm), d + l = G 6 0 → (∀ s k, s ≠ 25 → s ≠ 26 → C s k = Cs s k) → (∀ p, p < G 6 0 → C 25 p = nI (if p < l then g25 p else f25 p) ∧ C 26 p = nI (if p < l then g26 p else f26 p)) → u_A_addUp_j28 post (d + 1) C a (nI l) := by
  intro d
  induction d with
  | zero =>
    intro l C hl hfr hx
    have e : l = G 6 0 := by omega
    subst e
    refine ⟨fun _ => h C hfr (fun p hp => ?_), fun z => absurd (by rw [hfr 5 0 (by decide) (by decide), h5]; exact nI_le (Nat.le_refl _) (by omega)) z⟩
    have := hx p hp
    rw [if_pos hp, if_pos hp] at this
    exact this
  | succ d ih =>
    intro l C hl hfr hx
    have e5 : C 5 0 = nI (G 6 0) := by rw [hfr 5 0 (by decide) (by decide), h5]
    have hQC : QA G C := qa_cg (fun s k hs => hfr s k (by omega) (by omega)) hQ
    obtain ⟨x5, x6⟩ := hx l (by omega)
    rw [if_neg (Nat.lt_irrefl l)] at x5 x6
    obtain ⟨f5, f6⟩ := hf l (by omega)
    refine ⟨fun z => absurd z (by rw [e5]; exact nI_ge (a := l) (b := G 6 0) (by omega) (by omega)), fun _ => cl_hasAsked hB hQC ha (by omega) (fun z => ⟨fun _ => ?_, fun y => absurd rfl y⟩) (fun z => ⟨fun y => absurd y d10, fun _ => ⟨?_, ?_⟩⟩)⟩
    · unfold u_A_addUp_j66
      rw [nI_1]
      refine ih (l + 1) C (by omega) hfr (fun p hp => ?_)
      by_cases y : p = l
      · subst y
        rw [if_pos (by omega), if_pos (by omega), f5, f6, if_neg (fun w => w z), if_neg (fun w => w.1 z)]
        exact ⟨x5, x6⟩
      · have q := hx p hp
        by_cases w : p < l
        · rw [if_pos w, if_pos w] at q
          rw [if_pos (by omega), if_pos (by omega)]
          exact q
        · rw [if_neg w, if_neg w] at q
          rw [if_neg (by omega), if_neg (by omega)]
          exact q
    · show vp_in (nI l) (C 5 0).toNatClampNeg
      rw [e5, nI_clamp (by omega)]
      exact vp_in_nI (by omega) (by omega)
    · rw [nI_clamp (by omega)]
      have es : sN G (60 * a + l) = G 21 (60 * a + l) := by unfold sN; rw [if_neg z]
      refine cl_hasAnswer hB hQC ha (by omega) (fun y => ⟨fun _ => ?_, fun w => absurd rfl w⟩) (fun y => ⟨fun w => absurd w d10, fun _ => ?_⟩)
      · unfold u_A_addUp_j66
        rw [nI_1]
        refine ih (l + 1) _ (by omega) (fun s k h1 h2 => by rw [su_o (Or.inl h1)]; exact hfr s k h1 h2) (fun p hp => ?_)
        rw [su_v, su_o (Or.inl (by decide))]
        by_cases w : p = l
        · subst w
          rw [if_pos ⟨rfl, rfl⟩, if_pos (by omega), if_pos (by omega), f5, f6, if_pos z, if_neg (fun w => w.2 (by rw [← es]; exact y)), x5, nI_1]
          exact ⟨rfl, x6⟩
        · rw [if_neg (fun u => w u.2)]
          have q := hx p hp
          by_cases v : p < l
          · rw [if_pos v, if_pos v] at q
            rw [if_pos (by omega), if_pos (by omega)]
            exact q
          · rw [if_neg v, if_neg v] at q
            rw [if_neg (by omega), if_neg (by omega)]
            exact q
      · show u_A_addUp_j66 post (u_A_addUp_j28 post (d + 1)) (su (su C 25 l (C 25 l + 1)) 26 l (su C 25 l (C 25 l + 1) 26 l + 1)) a (nI l)
        unfold u_A_addUp_j66
        rw [nI_1]
        refine ih (l + 1) _ (by omega) (fun s k h1 h2 => by rw [su_o (Or.inl h2), su_o (Or.inl h1)]; exact hfr s k h1 h2) (fun p hp => ?_)
        rw [su_o (s' := 25) (Or.inl (by decide)), su_v, su_v, su_o (s' := 26) (p' := l) (Or.inl (by decide)), su_o (s' := 26) (p' := p) (Or.inl (by decide))]
        by_cases w : p = l
        · subst w
          rw [if_pos (show (25 : Nat) = 25 ∧ p = p from ⟨rfl, rfl⟩), if_pos (show (26 : Nat) = 26 ∧ p = p from ⟨rfl, rfl⟩), if_pos (Nat.lt_succ_self p), if_pos (Nat.lt_succ_self p), f5, f6, if_pos z, if_pos ⟨z, fun w => y (by rw [es]; exact w)⟩, x5, x6, nI_1, nI_1]
          exact ⟨rfl, rfl⟩
        · rw [if_neg (show ¬ ((25 : Nat) = 25 ∧ p = l) from fun u => w u.2), if_neg (show ¬ ((26 : Nat) = 26 ∧ p = l) from fun u => w u.2)]
          have q := hx p hp
          by_cases v : p < l
          · rw [if_pos v, if_pos v] at q
            rw [if_pos (by omega), if_pos (by omega)]
            exact q
          · rw [if_neg v, if_neg v] at q
            rw [if_neg (by omega), if_neg (by omega)]
            exact q
theorem c1_cAsk {n p : Nat} (hn : n ≠ 0) (ha : a < G 12 0) (h17 : G 17 a = 0) : cAsk (gu G 17 a n) p = cAsk G p + (if G 18 (60 * a + p) ≠ 0 then 1 else 0) := by
  show cnt (fun b => decide (gu G 17 a n 17 b ≠ 0 ∧ G 18 (60 * b + p) ≠ 0)) (G 12 0) = _
  by_cases z : G 18 (60 * a + p) ≠ 0
  · rw [if_pos z]
    refine cnt_up (k := a) (G 12 0) ha (fun b hb hne => ?_) (decide_eq_false (fun w => w.1 h17)) (decide_eq_true ⟨by rw [gu_s]; exact hn, z⟩)
    show _ = decide (gu G 17 a n 17 b ≠ 0 ∧ G 18 (60 * b + p) ≠ 0)
    rw [gu_k hne]
  · rw [if_neg z]
    refine cnt_cg (fun b hb => ?_)
    show decide (gu G 17 a n 17 b ≠ 0 ∧ G 18 (60 * b + p) ≠ 0) = _
    by_cases y : b = a
    · subst y
      rw [decide_eq_false (fun w => z w.2), decide_eq_false (fun w => z w.2)]
    · rw [gu_k y]
theorem c1_cAns {n p : Nat} (hn : n ≠ 0) (ha : a < G 12 0) (h17 : G 17 a = 0) : cAns (gu G 17 a n) p = cAns G p + (if G 18 (60 * a + p) ≠ 0 ∧ G 21 (60 * a + p) ≠ 0 then 1 else 0) := by
  show cnt (fun b => decide (gu G 17 a n 17 b ≠ 0 ∧ G 18 (60 * b + p) ≠ 0 ∧ G 21 (60 * b + p) ≠ 0)) (G 12 0) = _
  by_cases z : G 18 (60 * a + p) ≠ 0 ∧ G 21 (60 * a + p) ≠ 0
  · rw [if_pos z]
    refine cnt_up (k := a) (G 12 0) ha (fun b hb hne => ?_) (decide_eq_false (fun w => w.1 h17)) (decide_eq_true ⟨by rw [gu_s]; exact hn, z⟩)
    show _ = decide (gu G 17 a n 17 b ≠ 0 ∧ G 18 (60 * b + p) ≠ 0 ∧ G 21 (60 * b + p) ≠ 0)
    rw [gu_k hne]
  · rw [if_neg z]
    refine cnt_cg (fun b hb => ?_)
    show decide (gu G 17 a n 17 b ≠ 0 ∧ G 18 (60 * b + p) ≠ 0 ∧ G 21 (60 * b + p) ≠ 0) = _
    by_cases y : b = a
    · subst y
      rw [decide_eq_false (fun w => z w.2), decide_eq_false (fun w => z w.2)]
    · rw [gu_k y]
theorem c1_sAll {n i : Nat} (hn : n ≠ 0) (ha : a < G 12 0) (h17 : G 17 a = 0) : sAll (gu G 17 a n) i = if i = G 13 a then sAll G i + mAsk G a else sAll G i := by
  show sm (fun b => if G 13 b = i ∧ gu G 17 a n 17 b ≠ 0 then mAsk G b else 0) (G 12 0) = _
  by_cases z : i = G 13 a
  · rw [if_pos z]
    refine sm_up (k := a) (G 12 0) ha (fun b hb hne => ?_) ?_
    · show _ = if G 13 b = i ∧ gu G 17 a n 17 b ≠ 0 then mAsk G b else 0
      rw [gu_k hne]
    · show (if G 13 a = i ∧ gu G 17 a n 17 a ≠ 0 then mAsk G a else 0) = (if G 13 a = i ∧ G 17 a ≠ 0 then mAsk G a else 0) + _
      rw [if_pos ⟨z.symm, by rw [gu_s]; exact hn⟩, if_neg (fun w => w.2 h17), Nat.zero_add]
  · rw [if_neg z]
    refine sm_cg (fun b hb => ?_)
    show (if G 13 b = i ∧ gu G 17 a n 17 b ≠ 0 then mAsk G b else 0) = _
    by_cases y : b = a
    · subst y
      rw [if_neg (fun w => z w.1.symm), if_neg (fun w => z w.1.symm)]
    · rw [gu_k y]
theorem c1_sGood {n i : Nat} (hn : n ≠ 0) (ha : a < G 12 0) (h17 : G 17 a = 0) : sGood (gu G 17 a n) i = if i = G 13 a then sGood G i + mAns G a else sGood G i := by
  show sm (fun b => if G 13 b = i ∧ gu G 17 a n 17 b ≠ 0 then mAns G b else 0) (G 12 0) = _
  by_cases z : i = G 13 a
  · rw [if_pos z]
    refine sm_up (k := a) (G 12 0) ha (fun b hb hne => ?_) ?_
    · show _ = if G 13 b = i ∧ gu G 17 a n 17 b ≠ 0 then mAns G b else 0
      rw [gu_k hne]
    · show (if G 13 a = i ∧ gu G 17 a n 17 a ≠ 0 then mAns G a else 0) = (if G 13 a = i ∧ G 17 a ≠ 0 then mAns G a else 0) + _
      rw [if_pos ⟨z.symm, by rw [gu_s]; exact hn⟩, if_neg (fun w => w.2 h17), Nat.zero_add]
  · rw [if_neg z]
    refine sm_cg (fun b hb => ?_)
    show (if G 13 b = i ∧ gu G 17 a n 17 b ≠ 0 then mAns G b else 0) = _
    by_cases y : b = a
    · subst y
      rw [if_neg (fun w => z w.1.symm), if_neg (fun w => z w.1.symm)]
    · rw [gu_k y]
theorem cl_addUp {post : Sm → Prop} {n : Nat} (hI : InvT G) (hQ : RQ G C) (ha : a < G 12 0) (h17 : G 17 a = 0) (hn : n = 1 ∨ n = 2) (h : ∀ C', RQ (gu G 17 a n) C' → post C') : u_A_addUp post (su C 37 a (nI n)) a (G 13 a) := by
  obtain ⟨hB, H0, hG, hP, hA⟩ := id hI
  obtain ⟨q0, qG, qP, qA⟩ := hQ
  have h13 := (hA a ha).1
  have hn0 : n ≠ 0 := by omega
  have hB2 : IB (gu G 17 a n) := ib_u hB (by omega)
  have qA2 : QA (gu G 17 a n) (su C 37 a (nI n)) := fun b hb => by
    obtain ⟨c1, c2, c3, c4, c5, c6, c7⟩ := qA b hb
    refine ⟨c1, c2, c3, c4, c5, ?_, c7⟩
    show su C 37 a (nI n) 37 b = nI (gu G 17 a n 17 b)
    rw [su_v]
    by_cases z : b = a
    · subst z
      rw [if_pos ⟨rfl, rfl⟩, gu_s]
    · rw [if_neg (fun w => z w.2), gu_k z]; exact c6
  obtain ⟨-, -, -, d4, d5⟩ := qG _ h13
  refine cl_asked hB2 qA2 ha ?_
  show u_L_answeredPersons _ (su (su C 37 a (nI n)) 13 (G 13 a) (C 13 (G 13 a) + nI (mAsk G a))) a
  have qA3 : QA (gu G 17 a n) (su (su C 37 a (nI n)) 13 (G 13 a) (C 13 (G 13 a) + nI (mAsk G a))) := qA2
  refine cl_answered hB2 qA3 ha ?_
  show ∃ nn9, u_A_addUp_j28 post nn9 (su (su (su C 37 a (nI n)) 13 (G 13 a) (C 13 (G 13 a) + nI (mAsk G a))) 14 (G 13 a) (C 14 (G 13 a) + nI (mAns G a))) a 0
  have qA4 : QA (gu G 17 a n) (su (su (su C 37 a (nI n)) 13 (G 13 a) (C 13 (G 13 a) + nI (mAsk G a))) 14 (G 13 a) (C 14 (G 13 a) + nI (mAns G a))) := qA2
  have k := cl_add28 (G := gu G 17 a n) (post := post) (a := a) (f25 := cAsk G) (f26 := cAns G) (g25 := cAsk (gu G 17 a n)) (g26 := cAns (gu G 17 a n)) hB2 H0.2.1 qA4 q0.2.2.2.2.2.1 ha (fun p _ => ⟨c1_cAsk hn0 ha h17, c1_cAns hn0 ha h17⟩) (fun C' hfr hx => h C' ?_) (G 6 0) 0 _ rfl (fun _ _ _ _ => rfl) (fun p hp => ?_)
  · rw [nI_0] at k
    exact ⟨_, k⟩
  · refine ⟨?_, fun i hi => ?_, fun p hp => ?_, qa_cg (fun s k hs => hfr s k (by omega) (by omega)) qA4⟩
    · unfold Q0
      rw [hfr 0 0 (by decide) (by decide), hfr 1 0 (by decide) (by decide), hfr 2 0 (by decide) (by decide), hfr 3 0 (by decide) (by decide), hfr 4 0 (by decide) (by decide), hfr 5 0 (by decide) (by decide), hfr 6 0 (by decide) (by decide)]
      exact q0
    · obtain ⟨e1, e2, e3, e4, e5⟩ := qG i hi
      rw [hfr 10 i (by decide) (by decide), hfr 11 i (by decide) (by decide), hfr 12 i (by decide) (by decide), hfr 13 i (by decide) (by decide), hfr 14 i (by decide) (by decide), c1_sAll hn0 ha h17, c1_sGood hn0 ha h17]
      refine ⟨e1, e2, e3, ?_, ?_⟩
      · show su (su C 37 a (nI n)) 13 (G 13 a) (C 13 (G 13 a) + nI (mAsk G a)) 13 i = _
        rw [su_v]
        by_cases z : i = G 13 a
        · rw [if_pos ⟨rfl, z⟩, if_pos z, d4, nI_add, z]
        · rw [if_neg (fun w => z w.2), if_neg z]; exact e4
      · show su (su (su C 37 a (nI n)) 13 (G 13 a) (C 13 (G 13 a) + nI (mAsk G a))) 14 (G 13 a) (C 14 (G 13 a) + nI (mAns G a)) 14 i = _
        rw [su_v]
        by_cases z : i = G 13 a
        · rw [if_pos ⟨rfl, z⟩, if_pos z, d5, nI_add, z]
        · rw [if_neg (fun w => z w.2), if_neg z]; exact e5
    · obtain ⟨e1, e2, e3, e4, e5, e6⟩ := qP p hp
      rw [hfr 20 p (by decide) (by decide), hfr 23 p (by decide) (by decide), hfr 24 p (by decide) (by decide)]
      refine ⟨e1, e2, e3, (hx p hp).1, (hx p hp).2, fun i hi => ?_⟩
      rw [hfr 21 _ (by decide) (by decide), hfr 22 _ (by decide) (by decide)]
      exact e6 i hi
  · obtain ⟨e1, e2, e3, e4, e5, e6⟩ := qP p hp
    rw [if_neg (by omega), if_neg (by omega)]
    exact ⟨e4, e5⟩
theorem rq_clock {n : Nat} (hQ : RQ G C) : RQ (gu G 1 0 n) (su C 0 0 (nI n)) := by
  obtain ⟨⟨c1, c2⟩, q⟩ := hQ
  exact ⟨⟨rfl, c2⟩, q⟩
theorem rq_sec (hQ : RQ G C) : RQ (gu G 24 0 (G 24 0 + 1)) (su C 3 0 (C 3 0 + 1)) := by
  obtain ⟨⟨c1, c2, c3, c4, c5⟩, q⟩ := hQ
  refine ⟨⟨c1, c2, c3, ?_, c5⟩, q⟩
  show C 3 0 + 1 = nI (G 24 0 + 1)
  rw [c4, nI_1]
theorem cl_aOf0 {post : Nat → Sm → Prop} {px : String → Sm → Prop} (H0 : I0 G) (hQ : Q0 G C) (ha : a < G 12 0) (h : post a C) : u_A_alarmOf post px mc ms C (nI a) := by
  have hna := H0.2.2.1
  refine ⟨0, 0, Nat.zero_le _, Nat.zero_le _, fun z => absurd z (nI_pos (by omega)), fun _ => ⟨fun _ => ⟨by rw [(rq_cn H0 hQ).2.2]; exact vp_in_nI ha (by omega), by rw [nI_clamp (by omega)]; exact h⟩, fun z => absurd (by rw [hQ.2.2.2.2.2.2]; exact nI_lt ha (by omega)) z⟩⟩
theorem cl_gOf0 {post : Nat → Sm → Prop} {px : String → Sm → Prop} {g : Nat} (H0 : I0 G) (hQ : Q0 G C) (hg : g < G 2 0) (h : post g C) : u_A_groupOf post px mc ms C (nI g) := by
  have hng := H0.1
  refine ⟨0, 0, Nat.zero_le _, Nat.zero_le _, fun z => absurd z (nI_pos (by omega)), fun _ => ⟨fun _ => ⟨by rw [(rq_cn H0 hQ).1]; exact vp_in_nI hg (by omega), by rw [nI_clamp (by omega)]; exact h⟩, fun z => absurd (by rw [hQ.2.2.2.2.1]; exact nI_lt hg (by omega)) z⟩⟩
theorem cl_close {post : Sm → Prop} {px : String → Sm → Prop} (hI : InvT G) (hQ : RQ G C) (ha : a < G 12 0) (h17 : G 17 a = 0) (hU : enG G a ≤ 999999) (hmc : 4 ≤ mc) (hms : 228 ≤ ms) (h : ∀ C', RQ (clG (gu G 1 0 (enG G a)) a) C' → post C') : u_A_closeAlarm post px mc ms C (nI a) := by
  obtain ⟨hB, H0, hG, hP, hA⟩ := id hI
  have hna := H0.2.2.1
  have hng := H0.1
  have h13 := (hA a ha).1
  have h5 := (hG _ h13).2.2
  have b3 := hB 3 (G 13 a) (by decide)
  have b14 := hB 14 a (by decide)
  have hmo : mCom G a ≤ 60 := cnt_le _ _
  obtain ⟨c30, c31, c32, c33, c34, c37, -⟩ := hQ.2.2.2 a ha
  refine ⟨0, 0, Nat.zero_le _, Nat.zero_le _, cl_aOf0 H0 hQ.1 ha ⟨0, 0, Nat.zero_le _, Nat.zero_le _, ?_⟩⟩
  rw [c30]
  refine cl_gOf0 H0 hQ.1 h13 ?_
  show u_L_comingPersons _ (su C 0 0 (C 33 a)) a
  rw [c33]
  show u_L_comingPersons _ (su C 0 0 (nI (enG G a))) a
  have hI1 : InvT (gu G 1 0 (enG G a)) := inv_clock hU hI
  have hQ1 : RQ (gu G 1 0 (enG G a)) (su C 0 0 (nI (enG G a))) := rq_clock hQ
  refine cl_coming hB hQ.2.2.2 ha ?_
  have J : ∀ n : Nat, n = howN G a → u_A_closeAlarm_j40 post px (mc - 0 - 0) (ms - 0 - 0) (su C 0 0 (nI (enG G a))) (nI a) a (G 13 a) (nI n) a := by
    intro n en
    have h12 := how_12 (G := G) a
    refine cl_addUp (G := gu G 1 0 (enG G a)) hI1 hQ1 ha h17 (n := n) (by omega) (fun C2 hQ2 => ?_)
    have hI2 : InvT (gu (gu G 1 0 (enG G a)) 17 a n) := inv_c1 (by omega) hI1
    obtain ⟨r30, r31, -, -, -, r37, -⟩ := hQ2.2.2.2 a ha
    have r37' : C2 37 a = nI n := by rw [r37, gu_s]
    have r31' : C2 31 a = nI (G 14 a) := r31
    have r12 : C2 12 (G 13 a) = m1 (G 5 (G 13 a)) := (hQ2.2.1 (G 13 a) h13).2.2.1
    have SS : (howN G a = 1 ∨ G 14 a ≠ 0 ∨ G 5 (G 13 a) = 0 ∨ 60 ≤ G 12 0 ∨ cnt (askB G (G 5 (G 13 a) - 1) 0) (G 6 0) = 0) → post C2 := fun y => by
      refine h C2 ?_
      have e : stopB (gu G 1 0 (enG G a)) a = true := decide_eq_true y
      unfold clG
      rw [if_pos e]
      have e2 : c1G (gu G 1 0 (enG G a)) a = gu (gu G 1 0 (enG G a)) 17 a n := by rw [en]; rfl
      rw [e2]
      exact hQ2
    rw [r37', nq2 (by omega), r31', nI_z (by omega), r12]
    refine ⟨fun z => ⟨fun z2 => ⟨4, 228, by omega, by omega, ?_⟩, fun z2 => SS (Or.inr (Or.inl z2))⟩, fun z => SS (Or.inl (by omega))⟩
    unfold u_A_raiseSecond
    rw [m1_eq1 (by omega), hQ2.1.2.2.2.2.2.2]
    refine ⟨fun z3 => SS (Or.inr (Or.inr (Or.inl z3))), fun z3 => ⟨fun z4 => SS (Or.inr (Or.inr (Or.inr (Or.inl ?_)))), fun z4 => ?_⟩⟩
    · exact (nI_leI (a := 60) (b := G 12 0) (by decide) (by omega)).mp z4
    · have hn60 : G 12 0 < 60 := Nat.lt_of_not_le (fun y => z4 (nI_le (a := 60) (b := G 12 0) y (by omega)))
      obtain ⟨g, hg⟩ : ∃ g, G 5 (G 13 a) = g + 1 := ⟨G 5 (G 13 a) - 1, by omega⟩
      have eg : G 5 (G 13 a) - 1 = g := by omega
      rw [hg, m1_s]
      refine cl_would (G := gu (gu G 1 0 (enG G a)) 17 a n) (t := 0) hI2 hQ2 (by omega) (by decide) (fun s => ⟨fun _ => SS (Or.inr (Or.inr (Or.inr (Or.inr (by rw [eg]; exact s))))), fun y => absurd rfl y⟩) (fun s => ⟨fun y => absurd y d10, fun _ => ⟨4, 228, Nat.le_refl _, Nat.le_refl _, ?_⟩⟩)
      obtain ⟨n0, n1, n2⟩ := rq_cn hI2.2.1 hQ2.1
      refine ⟨by rw [n0]; exact vp_in_nI (by show g < G 2 0; omega) (by show G 2 0 < _; omega), by rw [n2]; exact hn60, Or.inl rfl, Nat.le_refl _, Nat.le_refl _, ?_⟩
      have q := rq_begin (g := g) (t := 0) (r := a + 1) hI2 hQ2 (by show g < G 2 0; omega) (by decide) hn60
      rw [m1_s] at q
      have q2 := rq_sec q
      refine h _ ?_
      have s' : ¬ cnt (askB G g 0) (G 6 0) = 0 := s
      have e : ¬ stopB (gu G 1 0 (enG G a)) a = true := fun y => by
        have y2 : (howN G a = 1 ∨ G 14 a ≠ 0 ∨ G 5 (G 13 a) = 0 ∨ 60 ≤ G 12 0 ∨ cnt (askB G (G 5 (G 13 a) - 1) 0) (G 6 0) = 0) := of_decide_eq_true y
        rw [eg] at y2
        omega
      unfold clG
      rw [if_neg e]
      have e2 : c1G (gu G 1 0 (enG G a)) a = gu (gu G 1 0 (enG G a)) 17 a n := by rw [en]; rfl
      have e3 : gu G 1 0 (enG G a) 5 (gu G 1 0 (enG G a) 13 a) - 1 = g := eg
      rw [e2, e3]
      exact q2
  have r10 : su C 0 0 (nI (enG G a)) 10 (G 13 a) = nI (G 3 (G 13 a)) := (hQ.2.1 (G 13 a) h13).1
  rw [r10, nI_ltI (by omega) (by omega)]
  exact ⟨fun z => J 2 (by unfold howN; rw [if_pos z]), fun z => J 1 (by unfold howN; rw [if_neg z])⟩
end OPS10
