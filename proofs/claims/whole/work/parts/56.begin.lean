/-! who is asked; an alarm begins -/
section OPS6
variable {G : Gs} {C : Sm} {mc ms : Nat}
def askB (G : Gs) (g t p : Nat) : Bool := decide (G 7 p = g ∧ (G 11 p = 0 ∨ (t = 1 ∧ G 11 p = 1)))
theorem rf_asks {post : Int32 → Sm → Prop} {g t p : Nat} (h7 : G 7 p ≤ 1000000) (h11 : G 11 p ≤ 1000000) (hp : p < 60) (hg : g ≤ 1000000) (ht : t ≤ 1) (h0 : askB G g t p = false → post 0 (encS G)) (h1 : askB G g t p = true → post 1 (encS G)) : v_M_asks post (encS G) (nI g) (nI t) (nI p) := by
  refine a_ld (n := p) rfl (by show _ < 60; omega) ?_
  show (nI (G 7 p) = nI g → _) ∧ (¬ nI (G 7 p) = nI g → _)
  rw [nI_eq (by omega) (by omega)]
  refine ⟨fun z => a_ld (n := p) rfl (by show _ < 60; omega) ?_, fun z => h0 (decide_eq_false (by omega))⟩
  show (nI (G 11 p) = 0 → _) ∧ (¬ nI (G 11 p) = 0 → (nI t = 0 → _) ∧ (¬ nI t = 0 → _))
  rw [nI_z (n := G 11 p) (by omega), nI_z (n := t) (by omega)]
  refine ⟨fun z2 => h1 (decide_eq_true (by omega)), fun z2 => ⟨fun z3 => h0 (decide_eq_false (by omega)), fun z3 => a_ld (n := p) rfl (by show _ < 60; omega) ?_⟩⟩
  show (nI (G 11 p) = 1 → _) ∧ (¬ nI (G 11 p) = 1 → _)
  rw [nq1 (by omega)]
  exact ⟨fun z4 => h1 (decide_eq_true (by omega)), fun z4 => h0 (decide_eq_false (by omega))⟩
theorem rf_asksAny {post : Int32 → Sm → Prop} {g t : Nat} (hB : IB G) (hnp : G 6 0 ≤ 60) (hg : g ≤ 1000000) (ht : t ≤ 1) (h0 : cnt (askB G g t) (G 6 0) = 0 → post 0 (encS G)) (h1 : cnt (askB G g t) (G 6 0) ≠ 0 → post 1 (encS G)) : v_M_asksAny post (encS G) (nI g) (nI t) := by
  have key : ∀ d l, d + l = G 6 0 → cnt (askB G g t) l = 0 → v_M_asksAny_j2 post (d + 1) (encS G) (nI g) (nI t) (nI l) := by
    intro d
    induction d with
    | zero =>
      intro l hl hz
      have e : l = G 6 0 := by omega
      subst e
      exact ⟨fun _ => h0 hz, fun z => absurd (nI_le (Nat.le_refl _) (by omega)) z⟩
    | succ d ih =>
      intro l hl hz
      refine ⟨fun z => absurd z (nI_ge (a := l) (b := G 6 0) (by omega) (by omega)), fun _ => rf_asks (hB 7 l (by decide)) (hB 11 l (by decide)) (by omega) hg ht (fun s => ⟨fun _ => ?_, fun z => absurd rfl z⟩) (fun s => ⟨fun z => absurd z d10, fun _ => h1 (fun w => ?_)⟩)⟩
      · rw [nI_1]
        exact ih (l + 1) (by omega) (by rw [cnt_0 s]; exact hz)
      · have a1 := cnt_mono (P := askB G g t) (l := l + 1) (G 6 0) (by omega)
        rw [cnt_1 s] at a1
        omega
  have k0 := key (G 6 0) 0 rfl rfl
  rw [nI_0] at k0
  exact ⟨_, k0⟩
theorem cl_wba {post : Int32 → Sm → Prop} {g t p : Nat} (hB : IB G) (hQ : QP G C) (hp : p < G 6 0) (hg : g ≤ 1000000) (ht : t ≤ 1) (h0 : askB G g t p = false → post 0 C) (h1 : askB G g t p = true → post 1 C) : u_P_wouldBeAsked post C p (nI g) (nI t) := by
  obtain ⟨q1, -, q3, -⟩ := hQ p hp
  have h7 := hB 7 p (by decide)
  have h11 := hB 11 p (by decide)
  show (C 20 p = nI g → (C 24 p = 0 → _) ∧ (¬ C 24 p = 0 → (nI t = 0 → _) ∧ (¬ nI t = 0 → (C 24 p = 1 → _) ∧ (¬ C 24 p = 1 → _)))) ∧ (¬ C 20 p = nI g → _)
  rw [q1, q3, nI_eq (a := G 7 p) (b := g) (by omega) (by omega), nI_z (n := G 11 p) (by omega), nI_z (n := t) (by omega), nq1 (n := G 11 p) (by omega)]
  exact ⟨fun z => ⟨fun z2 => h1 (decide_eq_true (by omega)), fun z2 => ⟨fun z3 => h0 (decide_eq_false (by omega)), fun z3 => ⟨fun z4 => h1 (decide_eq_true (by omega)), fun z4 => h0 (decide_eq_false (by omega))⟩⟩⟩, fun z => h0 (decide_eq_false (by omega))⟩
theorem cl_would {post : Int32 → Sm → Prop} {g t : Nat} (hI : InvT G) (hQ : RQ G C) (hg : g ≤ 1000000) (ht : t ≤ 1) (h0 : cnt (askB G g t) (G 6 0) = 0 → post 0 C) (h1 : cnt (askB G g t) (G 6 0) ≠ 0 → post 1 C) : u_A_wouldAskSomebody post C (nI g) (nI t) := by
  have hnp := hI.2.1.2.1
  have e5 := hQ.1.2.2.2.2.2.1
  have key : ∀ d l, d + l = G 6 0 → cnt (askB G g t) l = 0 → u_A_wouldAskSomebody_j2 post (d + 1) C (nI g) (nI t) (nI l) := by
    intro d
    induction d with
    | zero =>
      intro l hl hz
      have e : l = G 6 0 := by omega
      subst e
      exact ⟨fun _ => h0 hz, fun z => absurd (by rw [e5]; exact nI_le (Nat.le_refl _) (by omega)) z⟩
    | succ d ih =>
      intro l hl hz
      refine ⟨fun z => absurd z (by rw [e5]; exact nI_ge (a := l) (b := G 6 0) (by omega) (by omega)), fun _ => ⟨by rw [(rq_cn hI.2.1 hQ.1).2.1]; exact vp_in_nI (by omega) (by omega), ?_⟩⟩
      rw [nI_clamp (by omega)]
      refine cl_wba hI.1 hQ.2.2.1 (by omega) hg ht (fun s => ⟨fun _ => ?_, fun z => absurd rfl z⟩) (fun s => ⟨fun z => absurd z d10, fun _ => h1 (fun w => ?_)⟩)
      · rw [nI_1]
        exact ih (l + 1) (by omega) (by rw [cnt_0 s]; exact hz)
      · have a1 := cnt_mono (P := askB G g t) (l := l + 1) (G 6 0) (by omega)
        rw [cnt_1 s] at a1
        omega
  have k0 := key (G 6 0) 0 rfl rfl
  rw [nI_0] at k0
  exact ⟨_, k0⟩
/-! the state after a beginning -/
def fw (G : Gs) (p : Nat) : Nat → Nat → Nat
  | 0, i => i
  | n + 1, i => if i < G 8 p then (if G 10 (3 * p + i) = 0 then fw G p n (i + 1) else i) else i
def wN (G : Gs) (p : Nat) : Nat := if fw G p 3 0 < G 8 p then G 9 (3 * p + fw G p 3 0) + 1 else 0
def bg1 (G : Gs) (g t r : Nat) : Gs := gu (gu (gu (gu (gu G 13 (G 12 0) g) 14 (G 12 0) t) 15 (G 12 0) (G 1 0)) 16 (G 12 0) r) 17 (G 12 0) 0
def bgV (G : Gs) (g t s p : Nat) : Nat := if s = 18 then (if askB G g t p = true then 1 else 0) else if s = 19 then wN G p else if s = 20 then 20 * fw G p 3 0 else 0
def bgP (H G : Gs) (g t l : Nat) : Gs := fun s k => if (s = 18 ∨ s = 19 ∨ s = 20 ∨ s = 21) ∧ 60 * G 12 0 ≤ k ∧ k < 60 * G 12 0 + l then bgV G g t s (k - 60 * G 12 0) else H s k
def bgC (K : Gs) (n l0 e : Nat) : Gs := fun s k => if s = 18 ∧ 60 * n + l0 ≤ k ∧ k < 60 * n + e then 0 else K s k
def beginG (G : Gs) (g t r : Nat) : Gs := gu (bgC (bgP (bg1 G g t r) G g t (G 6 0)) (G 12 0) (G 6 0) 60) 12 0 (G 12 0 + 1)
theorem fw_le (p : Nat) : ∀ n i, fw G p n i ≤ n + i := by
  intro n
  induction n with
  | zero => intro i; unfold fw; omega
  | succ n ih =>
    intro i
    unfold fw
    have := ih (i + 1)
    split
    · split
      · omega
      · omega
    · omega
theorem bgP_0 (H : Gs) (g t : Nat) : bgP H G g t 0 = H := by
  funext s k
  unfold bgP
  rw [if_neg (by omega)]
theorem bgP_s (H : Gs) (g t l : Nat) : gu (gu (gu (gu (bgP H G g t l) 18 (60 * G 12 0 + l) (if askB G g t l = true then 1 else 0)) 19 (60 * G 12 0 + l) (wN G l)) 20 (60 * G 12 0 + l) (20 * fw G l 3 0)) 21 (60 * G 12 0 + l) 0 = bgP H G g t (l + 1) := by
  funext s k
  by_cases hk : k = 60 * G 12 0 + l
  · subst hk
    by_cases h21 : s = 21
    · subst h21
      rw [gu_s]
      unfold bgP
      rw [if_pos (by omega)]; rfl
    · rw [gu_j h21]
      by_cases h20 : s = 20
      · subst h20
        rw [gu_s]
        unfold bgP
        rw [if_pos (by omega), Nat.add_sub_cancel_left]; rfl
      · rw [gu_j h20]
        by_cases h19 : s = 19
        · subst h19
          rw [gu_s]
          unfold bgP
          rw [if_pos (by omega), Nat.add_sub_cancel_left]; rfl
        · rw [gu_j h19]
          by_cases h18 : s = 18
          · subst h18
            rw [gu_s]
            unfold bgP
            have hc : ((18 : Nat) = 18 ∨ (18 : Nat) = 19 ∨ (18 : Nat) = 20 ∨ (18 : Nat) = 21) ∧ 60 * G 12 0 ≤ 60 * G 12 0 + l ∧ 60 * G 12 0 + l < 60 * G 12 0 + (l + 1) := by omega
            rw [if_pos hc, Nat.add_sub_cancel_left]; rfl
          · rw [gu_j h18]
            unfold bgP
            rw [if_neg (by omega), if_neg (by omega)]
  · rw [gu_k hk, gu_k hk, gu_k hk, gu_k hk]
    unfold bgP
    by_cases z : (s = 18 ∨ s = 19 ∨ s = 20 ∨ s = 21) ∧ 60 * G 12 0 ≤ k ∧ k < 60 * G 12 0 + l
    · rw [if_pos z, if_pos (by omega)]
    · rw [if_neg z, if_neg (by omega)]
theorem bgC_0 (K : Gs) (n l0 : Nat) : bgC K n l0 l0 = K := by
  funext s k
  unfold bgC
  rw [if_neg (by omega)]
theorem bgC_s (K : Gs) (n l0 e : Nat) (h : l0 ≤ e) : gu (bgC K n l0 e) 18 (60 * n + e) 0 = bgC K n l0 (e + 1) := by
  funext s k
  by_cases hk : s = 18 ∧ k = 60 * n + e
  · obtain ⟨rfl, rfl⟩ := hk
    rw [gu_s]
    unfold bgC
    rw [if_pos (by omega)]
  · have e1 : gu (bgC K n l0 e) 18 (60 * n + e) 0 s k = bgC K n l0 e s k := by
      by_cases h1 : s = 18
      · rw [gu_k (fun w => hk ⟨h1, w⟩)]
      · rw [gu_j h1]
    rw [e1]
    unfold bgC
    by_cases z : s = 18 ∧ 60 * n + l0 ≤ k ∧ k < 60 * n + e
    · rw [if_pos z, if_pos (by omega)]
    · rw [if_neg z, if_neg (by omega)]
theorem nar01 {b : Nat} (h : b ≤ 1) : vp_nar .boolean (nI b) = nI b := by
  rcases (show b = 0 ∨ b = 1 by omega) with rfl | rfl <;> decide
theorem rf_begin {post : Sm → Prop} {g t r : Nat} (hI : InvT G) (hn : G 12 0 < 60) (hg : g ≤ 1000000) (ht : t ≤ 1) (h : post (encS (beginG G g t r))) : v_M_begin post (encS G) (nI g) (nI t) (m1 r) := by
  obtain ⟨hB, H0, -, hP, -⟩ := hI
  have hnp := H0.2.1
  refine a_st (n := G 12 0) (m := g) rfl (by show _ < 60; omega) rfl ?_
  refine a_st (n := G 12 0) (m := t) rfl (by show _ < 60; omega) (by rw [nar01 ht]; rfl) ?_
  refine a_st (n := G 12 0) (m := G 1 0) rfl (by show _ < 60; omega) rfl ?_
  refine a_st (n := G 12 0) (m := r) rfl (by show _ < 60; omega) rfl ?_
  refine a_st (n := G 12 0) (m := 0) rfl (by show _ < 60; omega) rfl ?_
  show ∃ nn, v_M_begin_j56 post nn (encS (bg1 G g t r)) (nI g) (nI t) 0
  have key196 : ∀ d e, d + e = 60 → G 6 0 ≤ e → v_M_begin_j196 post (d + 1) (encS (bgC (bgP (bg1 G g t r) G g t (G 6 0)) (G 12 0) (G 6 0) e)) (nI e) := by
    intro d
    induction d with
    | zero =>
      intro e he h6
      have e6 : e = 60 := by omega
      subst e6
      exact ⟨fun _ => a_pf (m := G 12 0 + 1) (nI_1 _) h, fun z => absurd (by decide) z⟩
    | succ d ih =>
      intro e he h6
      refine ⟨fun z => absurd z (nI_ge (a := e) (b := 60) (by omega) (by decide)), fun _ => a_st (n := 60 * G 12 0 + e) (m := 0) (ix60 _ _) (by show _ < 3600; omega) (by decide) ?_⟩
      rw [bgC_s _ _ _ _ h6, nI_1]
      exact ih (e + 1) (by omega) (by omega)
  have key56 : ∀ d l, d + l = G 6 0 → v_M_begin_j56 post (d + 1) (encS (bgP (bg1 G g t r) G g t l)) (nI g) (nI t) (nI l) := by
    intro d
    induction d with
    | zero =>
      intro l hl
      have e : l = G 6 0 := by omega
      subst e
      refine ⟨fun _ => ⟨60 - G 6 0 + 1, ?_⟩, fun z => absurd (nI_le (a := G 6 0) (b := G 6 0) (Nat.le_refl _) (by omega)) z⟩
      have q := key196 (60 - G 6 0) (G 6 0) (by omega) (Nat.le_refl _)
      rw [bgC_0] at q
      exact q
    | succ d ih =>
      intro l hl
      refine ⟨fun z => absurd z (nI_ge (a := l) (b := G 6 0) (by omega) (by omega)), fun _ => ?_⟩
      have hw3 := (hP l (by omega)).1
      have hfw := fw_le (G := G) l 3 0
      have main : ∀ b : Nat, b ≤ 1 → b = (if askB G g t l = true then 1 else 0) → aST (encS (bgP (bg1 G g t r) G g t l)) 18 (nI (G 12 0) * 60 + nI l) (vp_nar .boolean (nI b)) (fun S3 => ∃ nn, v_M_begin_j95 post (v_M_begin_j56 post (d + 1)) nn S3 (nI g) (nI t) (nI l) (nI (G 12 0) * 60 + nI l) 0) := by
        intro b hb eb
        refine a_st (n := 60 * G 12 0 + l) (m := b) (ix60 _ _) (by show _ < 3600; omega) (by rw [nar01 hb]; rfl) ?_
        have k162 : ∀ w : Nat, w = wN G l → v_M_begin_j162 post (v_M_begin_j56 post (d + 1)) (encS (gu (bgP (bg1 G g t r) G g t l) 18 (60 * G 12 0 + l) b)) (nI g) (nI t) (nI l) (nI (G 12 0) * 60 + nI l) (nI (fw G l 3 0)) (m1 w) (nI (G 12 0) * 60 + nI l) := by
          intro w hw
          refine a_st (n := 60 * G 12 0 + l) (m := w) (ix60 _ _) (by show _ < 3600; omega) rfl ?_
          refine a_st (n := 60 * G 12 0 + l) (m := 20 * fw G l 3 0) (ix60 _ _) (by show _ < 3600; omega) (by rw [show (20 : Int32) = nI 20 from rfl, pk_mul]; rfl) ?_
          refine a_st (n := 60 * G 12 0 + l) (m := 0) (ix60 _ _) (by show _ < 3600; omega) (by decide) ?_
          rw [eb, hw, bgP_s, nI_1]
          exact ih (l + 1) (by omega)
        have k128 : v_M_begin_j128 post (v_M_begin_j56 post (d + 1)) (encS (gu (bgP (bg1 G g t r) G g t l) 18 (60 * G 12 0 + l) b)) (nI g) (nI t) (nI l) (nI (G 12 0) * 60 + nI l) (nI (fw G l 3 0)) := by
          refine a_ld (n := l) rfl (by show _ < 60; omega) ?_
          show (nI (G 8 l) ≤ nI (fw G l 3 0) → _) ∧ (¬ nI (G 8 l) ≤ nI (fw G l 3 0) → _)
          rw [nI_leI (by omega) (by omega)]
          refine ⟨fun z => ?_, fun z => a_ld (n := 3 * l + fw G l 3 0) (ix3 _ _) (by show _ < 180; omega) ?_⟩
          · exact k162 0 (by unfold wN; rw [if_neg (by omega)])
          · have q := k162 (G 9 (3 * l + fw G l 3 0) + 1) (by unfold wN; rw [if_pos (by omega)])
            rw [m1_s] at q
            exact q
        have k95 : ∀ e i, e + i = 3 → fw G l e i = fw G l 3 0 → v_M_begin_j95 post (v_M_begin_j56 post (d + 1)) (e + 1) (encS (gu (bgP (bg1 G g t r) G g t l) 18 (60 * G 12 0 + l) b)) (nI g) (nI t) (nI l) (nI (G 12 0) * 60 + nI l) (nI i) := by
          intro e
          induction e with
          | zero =>
            intro i hi hf
            have e3 : i = 3 := by omega
            subst e3
            unfold v_M_begin_j95
            refine a_ld (n := l) rfl (by show _ < 60; omega) ?_
            show (nI (G 8 l) ≤ nI 3 → _) ∧ (¬ nI (G 8 l) ≤ nI 3 → _)
            have ef : fw G l 3 0 = 3 := hf.symm
            rw [← ef]
            refine ⟨fun _ => k128, fun z => absurd (nI_le (by omega) (by omega)) z⟩
          | succ e ih2 =>
            intro i hi hf
            unfold v_M_begin_j95
            refine a_ld (n := l) rfl (by show _ < 60; omega) ?_
            show (nI (G 8 l) ≤ nI i → _) ∧ (¬ nI (G 8 l) ≤ nI i → _)
            rw [nI_leI (by omega) (by omega)]
            replace hf : (if i < G 8 l then (if G 10 (3 * l + i) = 0 then fw G l e (i + 1) else i) else i) = fw G l 3 0 := hf
            refine ⟨fun z => ?_, fun z => a_ld (n := 3 * l + i) (ix3 _ _) (by show _ < 180; omega) ?_⟩
            · rw [if_neg (by omega)] at hf
              have hf' : i = fw G l 3 0 := hf
              rw [hf']; exact k128
            · rw [if_pos (by omega)] at hf
              have h10 := hB 10 (3 * l + i) (by decide)
              show (nI (G 10 (3 * l + i)) = 0 → _) ∧ (¬ nI (G 10 (3 * l + i)) = 0 → _)
              rw [nI_z (by omega)]
              refine ⟨fun z2 => ?_, fun z2 => ?_⟩
              · rw [if_pos z2] at hf
                rw [nI_1]
                exact ih2 (i + 1) (by omega) hf
              · rw [if_neg z2] at hf
                have hf' : i = fw G l 3 0 := hf
                rw [hf']; exact k128
        have q := k95 3 0 rfl rfl
        rw [nI_0] at q
        exact ⟨_, q⟩
      refine rf_asks (G := bgP (bg1 G g t r) G g t l) (hB 7 l (by decide)) (hB 11 l (by decide)) (by omega) hg ht (fun s => ?_) (fun s => ?_)
      · have s' : ¬ askB G g t l = true := by
          have : askB G g t l = false := s
          rw [this]; decide
        exact main 0 (by decide) (if_neg s').symm
      · have s' : askB G g t l = true := s
        exact main 1 (by decide) (if_pos s').symm
  have q := key56 (G 6 0) 0 rfl
  rw [bgP_0, nI_0] at q
  exact ⟨_, q⟩
end OPS6
