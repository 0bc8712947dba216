/-! answer -/
section OPS8
variable {G : Gs} {C : Sm} {mc ms a p v : Nat}
def thB (G : Gs) (a p : Nat) : Bool := decide (G 18 (60 * a + p) ≠ 0 ∧ G 19 (60 * a + p) ≠ 0 ∧ G 15 a + G 20 (60 * a + p) ≤ G 1 0)
theorem rf_isThere {post : Int32 → Sm → Prop} (hB : IB G) (ha : a < 60) (hp : p < 60) (h0 : thB G a p = false → post 0 (encS G)) (h1 : thB G a p = true → post 1 (encS G)) : v_M_isThere post (encS G) (nI a) (nI p) := by
  have b15 := hB 15 a (by decide)
  have b20 := hB 20 (60 * a + p) (by decide)
  have b1 := hB 1 0 (by decide)
  refine rf_isReached hB ha hp (fun z => ⟨fun _ => h0 (decide_eq_false (by omega)), fun w => absurd rfl w⟩) (fun z z2 => ⟨fun w => absurd w d10, fun _ => a_ld (n := a) rfl (by show _ < 60; omega) (a_ld (n := 60 * a + p) (ix60 a p) (by show _ < 3600; omega) ?_)⟩)
  show (nI (G 1 0) < nI (G 15 a) + nI (G 20 (60 * a + p)) → _) ∧ (¬ nI (G 1 0) < nI (G 15 a) + nI (G 20 (60 * a + p)) → _)
  rw [nI_add, nI_ltI (by omega) (by omega)]
  exact ⟨fun w => h0 (decide_eq_false (by omega)), fun w => h1 (decide_eq_true (by omega))⟩
theorem cl_by {post : Int32 → Sm → Prop} (hI : InvT G) (hQ : QA G C) (ha : a < G 12 0) (hp : p < 60) (h0 : thB G a p = false → post 0 C) (h1 : thB G a p = true → post 1 C) : u_L_hasReachedBy post C a (nI (G 1 0)) (nI p) := by
  obtain ⟨-, -, q3, -, -, -, q⟩ := hQ a ha
  have b15 := hI.1 15 a (by decide)
  have b20 := hI.1 20 (60 * a + p) (by decide)
  have b1 := hI.1 1 0 (by decide)
  refine cl_hasReached hI.1 hQ ha hp (fun z => ⟨fun _ => h0 (decide_eq_false (by omega)), fun w => absurd rfl w⟩) (fun z z2 => ⟨fun w => absurd w d10, fun _ => cl_reachOf hp ?_⟩)
  have h19 := ((hI.2.2.2.2 a ha).2.2 p hp).2 z
  have e : C 35 (60 * a + p) / 10 = nI (G 20 (60 * a + p)) := by
    rw [(q p hp).1]
    unfold rN
    rw [if_neg z, if_neg z2]
    obtain ⟨n, hn⟩ : ∃ n, G 19 (60 * a + p) = n + 1 := ⟨G 19 (60 * a + p) - 1, by omega⟩
    rw [hn]
    show m2 (10 * G 20 (60 * a + p) + n + 2) / 10 = _
    rw [m2_s, show (10 : Int32) = nI 10 from rfl, pk_div (by omega) (by decide) (by decide)]
    congr 1
    omega
  show (nI (G 1 0) - C 32 a < C 35 (60 * a + p) / 10 → _) ∧ (¬ nI (G 1 0) - C 32 a < C 35 (60 * a + p) / 10 → _)
  rw [e, q3, i_lt, pk_sub_toInt (by omega) (by omega), nI_toInt (by omega)]
  exact ⟨fun w => h0 (decide_eq_false (by omega)), fun w => h1 (decide_eq_true (by omega))⟩
theorem cl_hasAsked {post : Int32 → Sm → Prop} (hB : IB G) (hQ : QA G C) (ha : a < G 12 0) (hp : p < 60) (h0 : G 18 (60 * a + p) = 0 → post 0 C) (h1 : G 18 (60 * a + p) ≠ 0 → post 1 C) : u_L_hasAsked post C a (nI p) := by
  obtain ⟨-, -, -, -, -, -, q⟩ := hQ a ha
  refine cl_reachOf hp ?_
  show (C 35 (60 * a + p) = -2 → _) ∧ (¬ C 35 (60 * a + p) = -2 → _)
  rw [(q p hp).1, m2_eq2 (rN_b hB _), rN0]
  exact ⟨h0, h1⟩
theorem cl_note {post : Sm → Prop} {x : Int32} (hp : p < 60) (h : post (su C 36 (60 * a + p) x)) : u_L_note post C a (nI p) x := by
  refine ⟨fun z => absurd z (nI_pos (by omega)), fun _ => ⟨fun z => absurd z (nI_ge (b := 60) hp (by decide)), fun _ => ⟨vp_in_nI hp (by decide), ?_⟩⟩⟩
  rw [nI_clamp (by omega)]; exact h
/-- the newest alarm below n that is running and asked p: its number and one; 0 for none -/
def nwQ (P : Nat → Bool) : Nat → Nat
  | 0 => 0
  | n + 1 => if P n = true then n + 1 else nwQ P n
def nwF (G : Gs) (p n : Nat) : Nat := nwQ (fun b => decide (G 17 b = 0 ∧ G 18 (60 * b + p) ≠ 0)) n
theorem nwF_1 (n : Nat) : nwF G p (n + 1) = if G 17 n = 0 ∧ G 18 (60 * n + p) ≠ 0 then n + 1 else nwF G p n := by
  show (if decide (G 17 n = 0 ∧ G 18 (60 * n + p) ≠ 0) = true then n + 1 else nwF G p n) = _
  by_cases z : G 17 n = 0 ∧ G 18 (60 * n + p) ≠ 0
  · rw [if_pos z, if_pos (decide_eq_true z)]
  · rw [if_neg z, if_neg (by rw [decide_eq_false z]; decide)]
theorem nwF_s : ∀ n b, nwF G p n = b + 1 → b < n ∧ G 17 b = 0 ∧ G 18 (60 * b + p) ≠ 0 := by
  intro n
  induction n with
  | zero => intro b h; exact (Nat.succ_ne_zero b (show (0 : Nat) = b + 1 from h).symm).elim
  | succ n ih =>
    intro b h
    rw [nwF_1] at h
    by_cases z : G 17 n = 0 ∧ G 18 (60 * n + p) ≠ 0
    · rw [if_pos z] at h
      have e : b = n := by omega
      subst e
      exact ⟨Nat.lt_succ_self _, z⟩
    · rw [if_neg z] at h
      obtain ⟨c1, c2⟩ := ih b h
      exact ⟨by omega, c2⟩
theorem nwF_le : ∀ n, nwF G p n ≤ n := by
  intro n
  induction n with
  | zero => exact Nat.le_refl _
  | succ n ih => rw [nwF_1]; split <;> omega
def ansL (G : Gs) (p v b : Nat) : Int32 × Gs := if b = 0 then (3, G) else if thB G (b - 1) p = true then (2, gu G 21 (60 * (b - 1) + p) v) else (3, G)
def ansR (G : Gs) (a p v : Nat) : Int32 × Gs := if thB G a p = true then (if G 17 a = 0 then (1, gu G 21 (60 * a + p) v) else ansL (gu G 22 0 (G 22 0 + 1)) p v (nwF G p (G 12 0))) else (4, gu G 23 0 (G 23 0 + 1))
theorem rq_say {w : Nat} (h6 : G 6 0 ≤ 60) (hQ : RQ G C) (ha : a < G 12 0) (hp : p < 60) (h17 : G 17 a = 0) (h18 : G 18 (60 * a + p) ≠ 0) : RQ (gu G 21 (60 * a + p) w) (su C 36 (60 * a + p) (m2 w)) := by
  obtain ⟨q0, qG, qP, qA⟩ := hQ
  have eA : ∀ b, b ≠ a → mAns (gu G 21 (60 * a + p) w) b = mAns G b := fun b hb => cnt_cg (fun o ho => by
    show decide (G 18 (60 * b + o) ≠ 0 ∧ gu G 21 (60 * a + p) w 21 (60 * b + o) ≠ 0) = _
    rw [gu_k (by omega)])
  have eS : ∀ i, sGood (gu G 21 (60 * a + p) w) i = sGood G i := fun i => sm_cg (fun b hb => by
    show (if G 13 b = i ∧ G 17 b ≠ 0 then mAns (gu G 21 (60 * a + p) w) b else 0) = (if G 13 b = i ∧ G 17 b ≠ 0 then mAns G b else 0)
    by_cases z : b = a
    · subst z
      rw [if_neg (fun y => y.2 h17), if_neg (fun y => y.2 h17)]
    · rw [eA b z])
  have eC : ∀ o, o < 60 → cAns (gu G 21 (60 * a + p) w) o = cAns G o := fun o ho => cnt_cg (fun b hb => by
    show decide (G 17 b ≠ 0 ∧ G 18 (60 * b + o) ≠ 0 ∧ gu G 21 (60 * a + p) w 21 (60 * b + o) ≠ 0) = decide (G 17 b ≠ 0 ∧ G 18 (60 * b + o) ≠ 0 ∧ G 21 (60 * b + o) ≠ 0)
    by_cases z : b = a
    · subst z
      rw [decide_eq_false (fun y => y.1 h17), decide_eq_false (fun y => y.1 h17)]
    · rw [gu_k (by omega)])
  refine ⟨q0, fun i hi => ?_, fun o ho => ?_, fun b hb => ?_⟩
  · rw [eS]; exact qG i hi
  · obtain ⟨c1, c2, c3, c4, c5, c6⟩ := qP o ho
    refine ⟨c1, c2, c3, c4, ?_, c6⟩
    rw [eC o (by have : o < G 6 0 := ho; omega)]; exact c5
  · obtain ⟨c1, c2, c3, c4, c5, c6, c7⟩ := qA b hb
    refine ⟨c1, c2, c3, c4, c5, c6, fun o ho => ⟨(c7 o ho).1, ?_⟩⟩
    show su C 36 (60 * a + p) (m2 w) 36 (60 * b + o) = m2 (if G 18 (60 * b + o) = 0 then 0 else gu G 21 (60 * a + p) w 21 (60 * b + o))
    rw [su_v]
    by_cases z : 60 * b + o = 60 * a + p
    · rw [if_pos ⟨rfl, z⟩, z, if_neg h18, gu_s]
    · rw [if_neg (fun y => z y.2), gu_k z]
      exact (c7 o ho).2
theorem rq_late (hQ : RQ G C) : RQ (gu G 22 0 (G 22 0 + 1)) (su C 1 0 (C 1 0 + 1)) := by
  obtain ⟨⟨c1, c2, c3⟩, q⟩ := hQ
  refine ⟨⟨c1, ?_, c3⟩, q⟩
  show C 1 0 + 1 = nI (G 22 0 + 1)
  rw [c2, nI_1]
theorem rq_early (hQ : RQ G C) : RQ (gu G 23 0 (G 23 0 + 1)) (su C 2 0 (C 2 0 + 1)) := by
  obtain ⟨⟨c1, c2, c3, c4⟩, q⟩ := hQ
  refine ⟨⟨c1, c2, ?_, c4⟩, q⟩
  show C 2 0 + 1 = nI (G 23 0 + 1)
  rw [c3, nI_1]
theorem inv_hi {j n : Nat} (hj : 22 ≤ j) (hI : Inv G) : Inv (gu G j 0 n) := by
  obtain ⟨⟨hB, H0, hG, hP, hA⟩, hO⟩ := hI
  have E : ∀ s k, s < 22 → gu G j 0 n s k = G s k := fun s k hs => gu_j (by omega)
  refine ⟨⟨ib_hi hB hj, ?_, fun i hi => ?_, fun o ho => ?_, fun b hb => ?_⟩, fun b hb h17 => ?_⟩
  · unfold I0; rw [E 2 0 (by decide), E 6 0 (by decide), E 12 0 (by decide), E 1 0 (by decide)]; exact H0
  · rw [E 2 0 (by decide)] at hi ⊢
    rw [E 4 i (by decide), E 5 i (by decide)]
    exact hG i hi
  · rw [E 8 o (by decide), E 6 0 (by decide), E 11 o (by decide)]
    obtain ⟨d1, d2, d3, d4⟩ := hP o ho
    exact ⟨d1, fun i hi => by rw [E 9 _ (by decide)]; exact d2 i hi, fun i i' h1 h2 => by rw [E 9 _ (by decide), E 9 _ (by decide)]; exact d3 i i' h1 h2, d4⟩
  · rw [E 12 0 (by decide)] at hb
    rw [E 13 b (by decide), E 2 0 (by decide), E 15 b (by decide)]
    obtain ⟨d1, d2, d3⟩ := hA b hb
    refine ⟨d1, d2, fun o ho => ?_⟩
    rw [E 18 _ (by decide), E 19 _ (by decide), E 6 0 (by decide)]
    exact d3 o ho
  · rw [E 12 0 (by decide)] at hb
    rw [E 17 b (by decide)] at h17
    rw [E 1 0 (by decide), E 15 b (by decide), E 13 b (by decide), E 4 _ (by decide)]
    exact hO b hb h17
theorem inv_say {k w : Nat} (hw : w ≤ 1000000) (hI : Inv G) : Inv (gu G 21 k w) := ⟨⟨ib_u hI.1.1 hw, hI.1.2⟩, hI.2⟩
theorem inv_ans (hI : Inv G) (hv : v ≤ 122) : Inv (ansR G a p v).2 := by
  unfold ansR
  by_cases z : thB G a p = true
  · rw [if_pos z]
    by_cases y : G 17 a = 0
    · rw [if_pos y]; exact inv_say (by omega) hI
    · rw [if_neg y]
      have hL := inv_hi (G := G) (j := 22) (n := G 22 0 + 1) (by decide) hI
      unfold ansL
      by_cases x : nwF G p (G 12 0) = 0
      · rw [if_pos x]; exact hL
      · rw [if_neg x]
        by_cases w : thB (gu G 22 0 (G 22 0 + 1)) (nwF G p (G 12 0) - 1) p = true
        · rw [if_pos w]; exact inv_say (by omega) hL
        · rw [if_neg w]; exact hL
  · rw [if_neg z]; exact inv_hi (by decide) hI
theorem ans_th : (ansR G a p v).2 0 0 = G 0 0 := by
  unfold ansR
  by_cases z : thB G a p = true
  · rw [if_pos z]
    by_cases y : G 17 a = 0
    · rw [if_pos y]; rfl
    · rw [if_neg y]
      unfold ansL
      by_cases x : nwF G p (G 12 0) = 0
      · rw [if_pos x]; rfl
      · rw [if_neg x]
        by_cases w : thB (gu G 22 0 (G 22 0 + 1)) (nwF G p (G 12 0) - 1) p = true
        · rw [if_pos w]; rfl
        · rw [if_neg w]; rfl
  · rw [if_neg z]; rfl
theorem cl_noteLate {post : Int32 → Sm → Prop} (hI : Inv G) (hQ : RQ G C) (hp : p < 60) (h : ∀ C', RQ (ansL G p v (nwF G p (G 12 0))).2 C' → post (ansL G p v (nwF G p (G 12 0))).1 C') : u_A_noteLate post C (nI p) (m2 v) := by
  have H0 := hI.1.2.1
  have hna := H0.2.2.1
  have key : ∀ n, n ≤ G 12 0 → nwF G p n = nwF G p (G 12 0) → u_A_noteLate_j10 post (n + 1) C (nI p) (m2 v) (m1 n) := by
    intro n
    induction n with
    | zero =>
      intro _ hw
      refine ⟨fun _ => ?_, fun z => absurd (by decide) z⟩
      unfold ansL at h
      have hw0 : nwF G p (G 12 0) = 0 := hw.symm
      rw [if_pos hw0] at h
      exact h C hQ
    | succ n ih =>
      intro hn hw
      rw [m1_s]
      refine ⟨fun z => absurd z (nI_pos (by omega)), fun _ => ⟨by rw [(rq_cn H0 hQ.1).2.2]; exact vp_in_nI (by omega) (by omega), ?_⟩⟩
      rw [nI_clamp (by omega)]
      have hw' := hw
      rw [nwF_1] at hw'
      have q37 := (hQ.2.2.2 n (by omega)).2.2.2.2.2.1
      have h17 := hI.1.1 17 n (by decide)
      have N : ¬ (G 17 n = 0 ∧ G 18 (60 * n + p) ≠ 0) → u_A_noteLate_j68 post (u_A_noteLate_j10 post (n + 1)) C (nI p) (m2 v) (nI n) := fun z => by
        rw [if_neg z] at hw'
        exact ih (by omega) hw'
      show (C 37 n = 0 → _) ∧ (¬ C 37 n = 0 → _)
      rw [q37, nI_z (by omega)]
      refine ⟨fun z => cl_hasAsked hI.1.1 hQ.2.2.2 (by omega) hp (fun z2 => ⟨fun _ => N (fun y => y.2 z2), fun y => absurd rfl y⟩) (fun z2 => ⟨fun y => absurd y d10, fun _ => ?_⟩), fun z => N (fun y => z y.1)⟩
      rw [if_pos ⟨z, z2⟩] at hw'
      unfold ansL at h
      rw [← hw', if_neg (by omega), Nat.add_sub_cancel] at h
      rw [hQ.1.1]
      refine cl_by hI.1 hQ.2.2.2 (by omega) hp (fun s => ⟨fun _ => ?_, fun y => absurd rfl y⟩) (fun s => ⟨fun y => absurd y d10, fun _ => cl_note hp ?_⟩)
      · rw [if_neg (by rw [s]; decide)] at h
        exact h C hQ
      · rw [if_pos s] at h
        exact h _ (rq_say hI.1.2.1.2.1 hQ (by omega) hp z z2)
  have k0 := key (G 12 0) (Nat.le_refl _) rfl
  have e6 := hQ.1.2.2.2.2.2.2
  have e : C 6 0 - 1 = m1 (G 12 0) := by
    rw [e6]
    show nI _ - 1 = nI _ + (-1)
    rw [Int32.sub_eq_add_neg]
  unfold u_A_noteLate
  rw [e]
  exact ⟨_, k0⟩
theorem cl_ans {post : Int32 → Sm → Prop} (hI : Inv G) (hQ : RQ G C) (ha : a < G 12 0) (hp : p < 60) (h : ∀ C', RQ (ansR G a p v).2 C' → post (ansR G a p v).1 C') : u_L_hasReachedBy (fun r12 C11 => ((r12 = 0) → aW C11 2 0 ((C11 2 0) + 1) (fun C17 => post 4 C17)) ∧ (¬ (r12 = 0) → (((C11 37 a) = 0) → u_L_note (fun C16 => post 1 C16) C11 a (nI p) (m2 v)) ∧ (¬ ((C11 37 a) = 0) → aW C11 1 0 ((C11 1 0) + 1) (fun C13 => u_A_noteLate (fun r15 C14 => post r15 C14) C13 (nI p) (m2 v))))) C a (C 0 0) (nI p) := by
  have h17 := hI.1.1 17 a (by decide)
  have q37 := (hQ.2.2.2 a ha).2.2.2.2.2.1
  rw [hQ.1.1]
  unfold ansR at h
  refine cl_by hI.1 hQ.2.2.2 ha hp (fun s => ⟨fun _ => ?_, fun y => absurd rfl y⟩) (fun s => ⟨fun y => absurd y d10, fun _ => ?_⟩)
  · rw [if_neg (by rw [s]; decide)] at h
    exact h _ (rq_early hQ)
  · rw [if_pos s] at h
    show (C 37 a = 0 → _) ∧ (¬ C 37 a = 0 → _)
    rw [q37, nI_z (by omega)]
    refine ⟨fun z => cl_note hp ?_, fun z => ?_⟩
    · rw [if_pos z] at h
      have h18 : G 18 (60 * a + p) ≠ 0 := (of_decide_eq_true s).1
      exact h _ (rq_say hI.1.2.1.2.1 hQ ha hp z h18)
    · rw [if_neg z] at h
      exact cl_noteLate (G := gu G 22 0 (G 22 0 + 1)) (inv_hi (by decide) hI) (rq_late hQ) hp h
theorem m2_in {x : Int32} (h1 : -1 ≤ x) (h2 : x ≤ 120) : ∃ v : Nat, x = m2 v ∧ 1 ≤ v ∧ v ≤ 122 := by
  rw [i_le, ti_m1] at h1
  rw [i_le, show (120 : Int32).toInt = 120 from by decide] at h2
  refine ⟨(x.toInt + 2).toNat, ?_, by omega, by omega⟩
  rw [i_eq, m2_toInt (by omega)]
  omega
theorem rf_nw {post : Int32 → Sm → Prop} (hI : Inv G) (hp : p < 60) (h : post (ansL G p v (nwF G p (G 12 0))).1 (encS (ansL G p v (nwF G p (G 12 0))).2)) : ∀ d l, d + l = G 12 0 → v_M_answer_j120 post (d + 1) (encS G) (nI p) (m2 v) (m1 (nwF G p l)) (nI l) := by
  have hna := hI.1.2.1.2.2.1
  intro d
  induction d with
  | zero =>
    intro l hl
    have e : l = G 12 0 := by omega
    subst e
    have hle := nwF_le (G := G) (p := p) (G 12 0)
    refine ⟨fun _ => ?_, fun z => absurd (nI_le (Nat.le_refl _) (by omega)) z⟩
    rw [m1_lt0 (by omega)]
    unfold ansL at h
    refine ⟨fun z => ?_, fun z => ?_⟩
    · rw [if_pos z] at h; exact h
    · rw [if_neg z] at h
      obtain ⟨b, hb⟩ : ∃ b, nwF G p (G 12 0) = b + 1 := ⟨nwF G p (G 12 0) - 1, by omega⟩
      rw [hb, Nat.add_sub_cancel] at h
      rw [hb, m1_s]
      refine rf_isThere hI.1.1 (by omega) hp (fun s => ⟨fun _ => ?_, fun y => absurd rfl y⟩) (fun s => ⟨fun y => absurd y d10, fun _ => a_st (n := 60 * b + p) (m := v) (ix60 _ _) (by show _ < 3600; omega) rfl ?_⟩)
      · rw [if_neg (by rw [s]; decide)] at h; exact h
      · rw [if_pos s] at h; exact h
  | succ d ih =>
    intro l hl
    have b17 := hI.1.1 17 l (by decide)
    have b18 := hI.1.1 18 (60 * l + p) (by decide)
    refine ⟨fun z => absurd z (nI_ge (a := l) (b := G 12 0) (by omega) (by omega)), fun _ => a_ld (n := l) rfl (by show _ < 60; omega) ?_⟩
    have N : ¬ (G 17 l = 0 ∧ G 18 (60 * l + p) ≠ 0) → v_M_answer_j158 post (v_M_answer_j120 post (d + 1)) (encS G) (nI p) (m2 v) (m1 (nwF G p l)) (nI l) := fun z => by
      have e : nwF G p l = nwF G p (l + 1) := by rw [nwF_1, if_neg z]
      unfold v_M_answer_j158
      rw [nI_1, e]
      exact ih (l + 1) (by omega)
    show (nI (G 17 l) = 0 → _) ∧ (¬ nI (G 17 l) = 0 → _)
    rw [nI_z (by omega)]
    refine ⟨fun z => a_ld (n := 60 * l + p) (ix60 _ _) (by show _ < 3600; omega) ?_, fun z => N (fun y => z y.1)⟩
    show (nI (G 18 (60 * l + p)) = 0 → _) ∧ (¬ nI (G 18 (60 * l + p)) = 0 → _)
    rw [nI_z (by omega)]
    refine ⟨fun z2 => N (fun y => y.2 z2), fun z2 => ?_⟩
    have e : nI l = m1 (nwF G p (l + 1)) := by
      rw [nwF_1, if_pos ⟨z, z2⟩, m1_s]
    have q := ih (l + 1) (by omega)
    rw [← e] at q
    unfold v_M_answer_j158
    rw [nI_1]
    exact q
theorem rf_answer {post : Int32 → Sm → Prop} {x1 x2 x3 : Int32} (hI : Inv G) (h1 : ¬ (vp_in x1 (G 12 0) ∧ vp_in x2 (G 6 0)) → post 0 (encS (gu G 0 0 1))) (h2 : vp_in x1 (G 12 0) → vp_in x2 (G 6 0) → ¬ (-1 ≤ x3 ∧ x3 ≤ 120) → post 0 (encS (gu G 0 0 2)))
    (h3 : ∀ a p : Nat, x1 = nI a → a < G 12 0 → x2 = nI p → p < G 6 0 → -1 ≤ x3 → x3 ≤ 120 → (G 18 (60 * a + p) = 0 ∨ G 19 (60 * a + p) = 0) → post 0 (encS (gu G 0 0 3)))
    (h0 : ∀ a p v : Nat, x1 = nI a → a < G 12 0 → x2 = nI p → p < G 6 0 → x3 = m2 v → 1 ≤ v → v ≤ 122 → G 18 (60 * a + p) ≠ 0 → G 19 (60 * a + p) ≠ 0 → post (ansR (gu G 0 0 0) a p v).1 (encS (ansR (gu G 0 0 0) a p v).2)) : v_M_answer post (encS G) x1 x2 x3 := by
  have H0 := hI.1.2.1
  have hna := H0.2.2.1
  have hnp := H0.2.1
  have J0 : ¬ (vp_in x1 (G 12 0) ∧ vp_in x2 (G 6 0)) → v_M_answer_j20 post (encS G) x1 x2 x3 := fun w => by
    have J : ∀ r2, v_M_answer_j51 post (encS G) x1 x2 x3 r2 0 := fun r2 => rf_goes (fun _ => ⟨fun _ => h1 w, fun z => absurd rfl z⟩) (fun z => absurd rfl z) (fun z => absurd rfl z) (fun z => absurd rfl z)
    exact rf_in (fun _ _ => ⟨fun _ => J 1, fun z => absurd rfl z⟩) (fun _ => ⟨fun _ => J 0, fun z => absurd rfl z⟩)
  refine rf_isAlarm H0 (fun g => ⟨fun z => absurd z d10, fun _ => rf_isPerson H0 (fun g2 => ⟨fun z => absurd z d10, fun _ => ?_⟩) (fun c => ⟨fun _ => J0 (fun w => c w.2), fun z => absurd rfl z⟩)⟩) (fun g => ⟨fun _ => J0 (fun w => g w.1), fun z => absurd rfl z⟩)
  obtain ⟨a, ha, e1, -⟩ := in_nI g (by omega)
  obtain ⟨p, hp, e2, -⟩ := in_nI g2 (by omega)
  have hR : ∀ post' : Int32 → Sm → Prop, ((G 18 (60 * a + p) = 0 ∨ G 19 (60 * a + p) = 0) → post' 0 (encS G)) → (G 18 (60 * a + p) ≠ 0 → G 19 (60 * a + p) ≠ 0 → post' 1 (encS G)) → v_M_isReached post' (encS G) x1 x2 := fun post' c0 c1 => by
    rw [e1, e2]
    exact rf_isReached hI.1.1 (by omega) (by omega) c0 c1
  refine rf_in (fun b1 b2 => ⟨fun z => absurd z d10, fun _ => ?_⟩) (fun b => ⟨fun z => absurd z d10, fun _ => ?_⟩)
  · refine hR _ (fun s => ⟨fun _ => ?_, fun z => absurd rfl z⟩) (fun s s2 => ⟨fun z => absurd z d10, fun _ => ?_⟩)
    · exact rf_goes (fun z => absurd z d10) (fun _ z => absurd z d10) (fun _ _ _ => ⟨fun _ => h3 a p e1 ha e2 hp b1 b2 s, fun z => absurd rfl z⟩) (fun _ _ z => absurd rfl z)
    · refine rf_goes (fun z => absurd z d10) (fun _ z => absurd z d10) (fun _ _ z => absurd z d10) (fun _ _ _ => ⟨fun z => absurd z d10, fun _ => ?_⟩)
      obtain ⟨v, ev, hv1, hv⟩ := m2_in b1 b2
      have q := h0 a p v e1 ha e2 hp ev hv1 hv s s2
      have hI' : Inv (gu G 0 0 0) := inv_th (by decide) hI
      have b17 := hI.1.1 17 a (by decide)
      rw [e1, e2, ev]
      unfold ansR at q
      refine rf_isThere hI'.1.1 (by omega) (by omega) (fun s => ⟨fun _ => ?_, fun y => absurd rfl y⟩) (fun s => ⟨fun y => absurd y d10, fun _ => a_ld (n := a) rfl (by show _ < 60; omega) ?_⟩)
      · rw [if_neg (by rw [s]; decide)] at q
        exact a_pf (m := G 23 0 + 1) (nI_1 _) q
      · rw [if_pos s] at q
        show (nI (G 17 a) = 0 → _) ∧ (¬ nI (G 17 a) = 0 → _)
        rw [nI_z (by omega)]
        refine ⟨fun z => a_st (n := 60 * a + p) (m := v) (ix60 _ _) (by show _ < 3600; omega) rfl ?_, fun z => a_pf (m := G 22 0 + 1) (nI_1 _) ?_⟩
        · have z' : gu G 0 0 0 17 a = 0 := z
          rw [if_pos z'] at q; exact q
        · have z' : ¬ gu G 0 0 0 17 a = 0 := z
          rw [if_neg z'] at q
          have k0 := rf_nw (G := gu (gu G 0 0 0) 22 0 (G 22 0 + 1)) (p := p) (v := v) (post := post) (inv_hi (by decide) hI') (by omega) q (G 12 0) 0 rfl
          rw [show nwF (gu (gu G 0 0 0) 22 0 (G 22 0 + 1)) p 0 = 0 from rfl, m1_0, nI_0] at k0
          exact ⟨_, k0⟩
  · refine hR _ (fun s => ⟨fun _ => ?_, fun z => absurd rfl z⟩) (fun s s2 => ⟨fun z => absurd z d10, fun _ => ?_⟩)
    · exact rf_goes (fun z => absurd z d10) (fun _ _ => ⟨fun _ => h2 g g2 b, fun z => absurd rfl z⟩) (fun _ z => absurd rfl z) (fun _ z => absurd rfl z)
    · exact rf_goes (fun z => absurd z d10) (fun _ _ => ⟨fun _ => h2 g g2 b, fun z => absurd rfl z⟩) (fun _ z => absurd rfl z) (fun _ z => absurd rfl z)
theorem op_answer {x1 x2 x3 : Int32} (hI : Inv G) (hQ : RQ G C) (hmc : 10 ≤ mc) (hms : 300 ≤ ms) : u_A_answer (fun r C' => v_M_answer (fun b S' => b = r ∧ Fin9 C' S' 0) (encS G) x1 x2 x3) (PX3 eIA eIO eIS (fun k C' => v_M_answer (fun _ S' => Fin9 C' S' k) (encS G) x1 x2 x3)) mc ms C x1 x2 x3 := by
  have H0 := hI.1.2.1
  have hna := H0.2.2.1
  have hnp := H0.2.1
  have VA : ∀ b : Nat, b < G 12 0 → vp_in (nI b) (G 12 0) := fun b hb => vp_in_nI hb (by omega)
  have VP : ∀ b : Nat, b < G 6 0 → vp_in (nI b) (G 6 0) := fun b hb => vp_in_nI hb (by omega)
  have X1 : ¬ (vp_in x1 (G 12 0) ∧ vp_in x2 (G 6 0)) → PX3 eIA eIO eIS (fun k C' => v_M_answer (fun _ S' => Fin9 C' S' k) (encS G) x1 x2 x3) "java/lang/IllegalArgumentException" C := fun w =>
    Or.inl ⟨rfl, rf_answer hI (fun _ => fin_th 1 (by decide) hI hQ) (fun c1 c2 => absurd ⟨c1, c2⟩ w) (fun a p e ha e' hp => absurd ⟨e ▸ VA a ha, e' ▸ VP p hp⟩ w) (fun a p v e ha e' hp => absurd ⟨e ▸ VA a ha, e' ▸ VP p hp⟩ w)⟩
  refine ⟨1, 6, by omega, by omega, cl_aOf H0 hQ.1 (Nat.le_refl _) (Nat.le_refl _) (fun g => ⟨1, 6, by omega, by omega, cl_rqP H0 hQ.1 (Nat.le_refl _) (Nat.le_refl _) (fun g2 => ?_) (fun g2 => X1 (fun w => g2 w.2))⟩) (fun g => X1 (fun w => g w.1))⟩
  have X2 : ¬ (-1 ≤ x3 ∧ x3 ≤ 120) → u_A_answer_j23 (fun r C' => v_M_answer (fun b S' => b = r ∧ Fin9 C' S' 0) (encS G) x1 x2 x3) (PX3 eIA eIO eIS (fun k C' => v_M_answer (fun _ S' => Fin9 C' S' k) (encS G) x1 x2 x3)) ((mc - 1) - 1) ((ms - 6) - 6) C := fun w =>
    ⟨by omega, by omega, Or.inr (Or.inl ⟨rfl, rf_answer hI (fun y => absurd ⟨g, g2⟩ y) (fun _ _ _ => fin_th 2 (by decide) hI hQ) (fun a p e ha e' hp b1 b2 => absurd ⟨b1, b2⟩ w) (fun a p v e ha e' hp ev hv1 hv => absurd ⟨by rw [ev, i_le, ti_m1, m2_toInt (by omega)]; omega, by rw [ev, i_le, m2_toInt (by omega), show (120 : Int32).toInt = 120 from by decide]; omega⟩ w)⟩)⟩
  obtain ⟨a, ha, e1, ec⟩ := in_nI g (by omega)
  obtain ⟨p, hp, e2, -⟩ := in_nI g2 (by omega)
  rw [ec]
  refine ⟨fun z => X2 (fun w => i_lt_le z w.1), fun z => ⟨fun z2 => ?_, fun z2 => X2 (fun w => z2 w.2)⟩⟩
  have b1 : -1 ≤ x3 := i_nlt z
  obtain ⟨v, ev, -, hv⟩ := m2_in b1 z2
  have UA : ∀ b : Nat, x1 = nI b → b < G 12 0 → b = a := fun b e hb => (nI_eq (by omega) (by omega)).mp (e.symm.trans e1)
  have UP : ∀ b : Nat, x2 = nI b → b < G 6 0 → b = p := fun b e hb => (nI_eq (by omega) (by omega)).mp (e.symm.trans e2)
  have UV : ∀ b : Nat, x3 = m2 b → b ≤ 122 → b = v := fun b e hb => (m2_eq (by omega) (by omega)).mp (e.symm.trans ev)
  have Q : ∀ K : Int32 → Sm → Prop, ((G 18 (60 * a + p) = 0 ∨ G 19 (60 * a + p) = 0) → K 0 C) → (G 18 (60 * a + p) ≠ 0 → G 19 (60 * a + p) ≠ 0 → K 1 C) → u_L_hasReached K C a x2 := fun K c0 c1 => by
    rw [e2]; exact cl_hasReached hI.1.1 hQ.2.2.2 ha (by omega) c0 c1
  refine Q _ (fun s => ⟨fun _ => ⟨by omega, by omega, Or.inr (Or.inr ⟨rfl, ?_⟩)⟩, fun y => absurd rfl y⟩) (fun s s2 => ⟨fun y => absurd y d10, fun _ => ?_⟩)
  · refine rf_answer hI (fun y => absurd ⟨g, g2⟩ y) (fun _ _ w => absurd ⟨b1, z2⟩ w) (fun _ _ _ _ _ _ _ _ _ => fin_th 3 (by decide) hI hQ) (fun a' p' v' f1 fa f2 fp f3 _ fv y1 y2 => ?_)
    have u1 := UA a' f1 fa
    have u2 := UP p' f2 fp
    subst u1 u2
    exact absurd s (fun w => w.elim y1 y2)
  · have hI' : Inv (gu G 0 0 0) := inv_th (by decide) hI
    have k := cl_ans (G := gu G 0 0 0) (C := C) (a := a) (p := p) (v := v) (post := fun r C' => v_M_answer (fun b S' => b = r ∧ Fin9 C' S' 0) (encS G) x1 x2 x3) hI' (rq_th hQ) ha (by omega) (fun C' hC' => by
      refine rf_answer hI (fun y => absurd ⟨g, g2⟩ y) (fun _ _ w => absurd ⟨b1, z2⟩ w) (fun a' p' f1 fa f2 fp _ _ y => ?_) (fun a' p' v' f1 fa f2 fp f3 _ fv y1 y2 => ?_)
      · have u1 := UA a' f1 fa
        have u2 := UP p' f2 fp
        subst u1 u2
        exact absurd y (fun w => w.elim s s2)
      · have u1 := UA a' f1 fa
        have u2 := UP p' f2 fp
        have u3 := UV v' f3 fv
        subst u1 u2 u3
        exact ⟨rfl, ⟨(ansR (gu G 0 0 0) a' p' v').2, inv_ans hI' hv, hC', rfl, ans_th.trans rfl⟩⟩)
    rw [← e2, ← ev] at k
    exact k
end OPS8
