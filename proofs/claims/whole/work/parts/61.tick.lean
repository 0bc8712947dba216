/-! tick -/
section OPS11
variable {G : Gs} {C : Sm} {mc ms a U : Nat}
def FD (G : Gs) (U a : Nat) : Prop := a < G 12 0 ∧ G 17 a = 0 ∧ enG G a ≤ U ∧ ∀ b, b < G 12 0 → G 17 b = 0 → (enG G a < enG G b ∨ (enG G a = enG G b ∧ a ≤ b))
def ND (G : Gs) (U : Nat) : Prop := ∀ b, b < G 12 0 → G 17 b = 0 → U < enG G b
def Ev : Nat → Gs → Nat → Gs → Prop
  | 0, G, U, H => ND G U ∧ H = gu G 1 0 U
  | n + 1, G, U, H => (ND G U ∧ H = gu G 1 0 U) ∨ ∃ a, FD G U a ∧ Ev n (clG (gu G 1 0 (enG G a)) a) U H
theorem gu_id (j k : Nat) : gu G j k (G j k) = G := by
  funext s p
  by_cases h : s = j
  · subst h
    by_cases h2 : p = k
    · subst h2; rw [gu_s]
    · rw [gu_k h2]
  · rw [gu_j h]
theorem gu_gu (j k x y : Nat) : gu (gu G j k x) j k y = gu G j k y := by
  funext s p
  by_cases h : s = j
  · subst h
    by_cases h2 : p = k
    · subst h2; rw [gu_s, gu_s]
    · rw [gu_k h2, gu_k h2, gu_k h2]
  · rw [gu_j h, gu_j h, gu_j h]
theorem fd_u {b : Nat} (h1 : FD G U a) (h2 : FD G U b) : a = b := by
  obtain ⟨a1, a2, a3, a4⟩ := h1
  obtain ⟨b1, b2, b3, b4⟩ := h2
  have c1 := a4 b b1 b2
  have c2 := b4 a a1 a2
  omega
theorem ev_nd {H : Gs} (h : ND G U) : ∀ n, Ev n G U H → H = gu G 1 0 U := by
  intro n hE
  cases n with
  | zero => exact hE.2
  | succ n =>
    rcases hE with hE | ⟨a, hF, -⟩
    · exact hE.2
    · have := h a hF.1 hF.2.1
      have := hF.2.2.1
      omega
theorem ev_fd {H : Gs} (h : FD G U a) : ∀ n, Ev n G U H → ∃ m, Ev m (clG (gu G 1 0 (enG G a)) a) U H := by
  intro n hE
  have hx : ¬ ND G U := fun w => by
    have := w a h.1 h.2.1
    have := h.2.2.1
    omega
  cases n with
  | zero => exact absurd hE.1 hx
  | succ n =>
    rcases hE with hE | ⟨b, hF, hE⟩
    · exact absurd hE.1 hx
    · have e := fd_u hF h
      subst e
      exact ⟨n, hE⟩
theorem ev_clock {H : Gs} {x : Nat} : ∀ n, Ev n G U H → Ev n (gu G 1 0 x) U H := by
  intro n hE
  cases n with
  | zero => exact ⟨hE.1, by rw [gu_gu]; exact hE.2⟩
  | succ n =>
    rcases hE with hE | ⟨b, hF, hE⟩
    · exact Or.inl ⟨hE.1, by rw [gu_gu]; exact hE.2⟩
    · refine Or.inr ⟨b, hF, ?_⟩
      have e : enG (gu G 1 0 x) b = enG G b := rfl
      rw [gu_gu, e]
      exact hE
theorem cl_k0 : clG G a 0 0 = G 0 0 := by
  unfold clG
  by_cases z : stopB G a = true
  · rw [if_pos z]; rfl
  · rw [if_neg z]; rfl
theorem cl_k1 : clG G a 1 0 = G 1 0 := by
  unfold clG
  by_cases z : stopB G a = true
  · rw [if_pos z]; rfl
  · rw [if_neg z]; rfl
theorem ev_th {H : Gs} : ∀ n (G : Gs), Ev n G U H → H 0 0 = G 0 0 := by
  intro n
  induction n with
  | zero =>
    intro G hE
    rw [hE.2]; rfl
  | succ n ih =>
    intro G hE
    rcases hE with hE | ⟨b, hF, hE⟩
    · rw [hE.2]; rfl
    · rw [ih _ hE, cl_k0]; rfl
/-- the alarms that still run after a closing -/
theorem cl_run (hI : InvT G) (ha : a < G 12 0) : ∀ b, b < clG G a 12 0 → clG G a 17 b = 0 → (b < G 12 0 ∧ b ≠ a ∧ G 17 b = 0 ∧ enG (clG G a) b = enG G b) ∨ (b = G 12 0 ∧ G 1 0 < enG (clG G a) b) := by
  have h12 := how_12 (G := G) a
  have hn : ∀ b, gu G 17 a (howN G a) 17 b = 0 → b ≠ a ∧ G 17 b = 0 := fun b h => by
    by_cases z : b = a
    · subst z
      rw [gu_s] at h
      omega
    · rw [gu_k z] at h
      exact ⟨z, h⟩
  unfold clG
  by_cases z : stopB G a = true
  · rw [if_pos z]
    intro b hb h
    obtain ⟨c1, c2⟩ := hn b h
    exact Or.inl ⟨hb, c1, c2, rfl⟩
  · rw [if_neg z]
    intro b hb h
    have hb' : b < G 12 0 + 1 := hb
    have h' : (if b = G 12 0 then 0 else gu G 17 a (howN G a) 17 b) = 0 := h
    show _ ∨ (_ ∧ G 1 0 < (if b = G 12 0 then G 1 0 else G 15 b) + G 4 (if b = G 12 0 then G 5 (G 13 a) - 1 else G 13 b))
    by_cases y : b = G 12 0
    · refine Or.inr ⟨y, ?_⟩
      rw [if_pos y, if_pos y]
      have zz : ¬ (howN G a = 1 ∨ G 14 a ≠ 0 ∨ G 5 (G 13 a) = 0 ∨ 60 ≤ G 12 0 ∨ cnt (askB G (G 5 (G 13 a) - 1) 0) (G 6 0) = 0) := fun y => z (decide_eq_true y)
      have h13 := (hI.2.2.2.2 a ha).1
      have h5 := (hI.2.2.1 _ h13).2.2
      have h4 := (hI.2.2.1 (G 5 (G 13 a) - 1) (by omega)).1
      omega
    · rw [if_neg y] at h'
      obtain ⟨c1, c2⟩ := hn b h'
      refine Or.inl ⟨by omega, c1, c2, ?_⟩
      show (if b = G 12 0 then G 1 0 else G 15 b) + G 4 (if b = G 12 0 then G 5 (G 13 a) - 1 else G 13 b) = G 15 b + G 4 (G 13 b)
      rw [if_neg y, if_neg y]
def clsd (G : Gs) : Nat := cnt (fun b => decide (G 17 b ≠ 0)) (G 12 0)
theorem clsd_up (ha : a < G 12 0) (h17 : G 17 a = 0) : clsd (clG G a) = clsd G + 1 := by
  have h12 := how_12 (G := G) a
  have e1 : cnt (fun b => decide (gu G 17 a (howN G a) 17 b ≠ 0)) (G 12 0) = clsd G + 1 := by
    refine cnt_up (k := a) (G 12 0) ha (fun b hb hne => ?_) (decide_eq_false (fun w => w h17)) (decide_eq_true (by rw [gu_s]; omega))
    show _ = decide (gu G 17 a (howN G a) 17 b ≠ 0)
    rw [gu_k hne]
  unfold clG
  by_cases z : stopB G a = true
  · rw [if_pos z]; exact e1
  · rw [if_neg z, ← e1]
    show cnt (fun b => decide ((if b = G 12 0 then 0 else gu G 17 a (howN G a) 17 b) ≠ 0)) (G 12 0 + 1) = _
    rw [cnt_0 (decide_eq_false (fun w => w (if_pos rfl)))]
    refine cnt_cg (fun b hb => ?_)
    show decide ((if b = G 12 0 then 0 else gu G 17 a (howN G a) 17 b) ≠ 0) = _
    rw [if_neg (show ¬ b = G 12 0 by omega)]
theorem clsd_nd (hna : G 12 0 ≤ 60) (h : 60 ≤ clsd G) : ND G U := fun b hb h17 => by
  have h1 := cnt_lt (P := fun b => decide (G 17 b ≠ 0)) (Q := fun _ => true) (k := b) (G 12 0) hb (fun _ _ _ => rfl) (decide_eq_false (fun w => w h17)) rfl
  have h2 := cnt_le (fun _ => true) (G 12 0)
  unfold clsd at h
  omega
theorem en_b (hB : IB G) (a : Nat) : enG G a ≤ 2000000 := by
  have h1 := hB 15 a (by decide)
  have h2 := hB 4 (G 13 a) (by decide)
  unfold enG
  omega
def FDL (G : Gs) (U l D E : Nat) : Prop := (D = 0 ∧ E = U + 1 ∧ ∀ b, b < l → G 17 b = 0 → U < enG G b) ∨ (∃ q, q < l ∧ D = q + 1 ∧ G 17 q = 0 ∧ E = enG G q ∧ enG G q ≤ U ∧ ∀ b, b < l → G 17 b = 0 → (enG G q < enG G b ∨ (enG G q = enG G b ∧ q ≤ b)))
theorem cl_fd {post : Int32 → Sm → Prop} (hI : InvT G) (hQ : RQ G C) (hU : U ≤ 999999) (h0 : ND G U → post (-1) C) (h1 : ∀ a, FD G U a → post (nI a) C) : u_A_firstDue post C (nI U) := by
  have hna := hI.2.1.2.2.1
  have e6 := hQ.1.2.2.2.2.2.2
  have key : ∀ d l D E, d + l = G 12 0 → FDL G U l D E → u_A_firstDue_j9 post (d + 1) C (m1 D) (nI E) (nI l) := by
    intro d
    induction d with
    | zero =>
      intro l D E hl hF
      have e : l = G 12 0 := by omega
      subst e
      refine ⟨fun _ => ?_, fun z => absurd (by rw [e6]; exact nI_le (Nat.le_refl _) (by omega)) z⟩
      rcases hF with ⟨e1, -, hF⟩ | ⟨q, hq, e1, c1, c2, c3, c4⟩
      · rw [e1, m1_0]; exact h0 hF
      · rw [e1, m1_s]; exact h1 q ⟨hq, c1, c3, c4⟩
    | succ d ih =>
      intro l D E hl hF
      obtain ⟨-, -, -, c33, -, c37, -⟩ := hQ.2.2.2 l (by omega)
      have b17 := hI.1 17 l (by decide)
      have bl := en_b hI.1 l
      have bE : E ≤ 2000000 := by
        rcases hF with ⟨-, e1, -⟩ | ⟨q, -, -, -, e1, -, -⟩
        · omega
        · have := en_b hI.1 q; omega
      refine ⟨fun z => absurd z (by rw [e6]; exact nI_ge (a := l) (b := G 12 0) (by omega) (by omega)), fun _ => ⟨by rw [(rq_cn hI.2.1 hQ.1).2.2]; exact vp_in_nI (by omega) (by omega), ?_⟩⟩
      rw [nI_clamp (by omega)]
      have S : FDL G U (l + 1) D E → u_A_firstDue_j61 post (u_A_firstDue_j9 post (d + 1)) C (m1 D) (nI E) (nI l) := fun z => by
        unfold u_A_firstDue_j61
        rw [nI_1]
        exact ih (l + 1) D E (by omega) z
      have c33' : C 33 l = nI (enG G l) := c33
      show (C 37 l = 0 → (nI E ≤ C 33 l → _) ∧ (¬ nI E ≤ C 33 l → _)) ∧ (¬ C 37 l = 0 → _)
      rw [c37, c33', nI_z (by omega), nI_leI (by omega) (by omega)]
      refine ⟨fun z => ⟨fun z2 => S ?_, fun z2 => ?_⟩, fun z => S ?_⟩
      · rcases hF with ⟨e1, e2, hF⟩ | ⟨q, hq, e1, c1, c2, c3, c4⟩
        · refine Or.inl ⟨e1, e2, fun b hb hb2 => ?_⟩
          by_cases y : b = l
          · subst y; omega
          · exact hF b (by omega) hb2
        · refine Or.inr ⟨q, by omega, e1, c1, c2, c3, fun b hb hb2 => ?_⟩
          by_cases y : b = l
          · subst y; omega
          · exact c4 b (by omega) hb2
      · have k := ih (l + 1) (l + 1) (enG G l) (by omega) (Or.inr ⟨l, by omega, rfl, z, rfl, ?_, fun b hb hb2 => ?_⟩)
        · rw [m1_s] at k
          unfold u_A_firstDue_j61
          rw [nI_1]
          exact k
        · rcases hF with ⟨e1, e2, hF⟩ | ⟨q, hq, e1, c1, c2, c3, c4⟩ <;> omega
        · by_cases y : b = l
          · subst y; exact Or.inr ⟨rfl, Nat.le_refl _⟩
          · rcases hF with ⟨e1, e2, hF⟩ | ⟨q, hq, e1, c1, c2, c3, c4⟩
            · have := hF b (by omega) hb2; omega
            · have := c4 b (by omega) hb2; omega
      · rcases hF with ⟨e1, e2, hF⟩ | ⟨q, hq, e1, c1, c2, c3, c4⟩
        · refine Or.inl ⟨e1, e2, fun b hb hb2 => ?_⟩
          by_cases y : b = l
          · subst y; exact absurd hb2 z
          · exact hF b (by omega) hb2
        · refine Or.inr ⟨q, by omega, e1, c1, c2, c3, fun b hb hb2 => ?_⟩
          by_cases y : b = l
          · subst y; exact absurd hb2 z
          · exact c4 b (by omega) hb2
  have k := key (G 12 0) 0 0 (U + 1) rfl (Or.inl ⟨rfl, rfl, fun b hb => absurd hb (by omega)⟩)
  rw [m1_0, ← nI_1, nI_0] at k
  exact ⟨_, k⟩
theorem cl_tl {post : Int32 → Sm → Prop} {px : String → Sm → Prop} {l3 : Int32} (hU : U ≤ 999999) : ∀ n (G : Gs) (C : Sm) (l mc ms : Nat), InvT G → RQ G C → 60 ≤ clsd G + n → l + n = 60 → 4 * n ≤ mc → 228 * n ≤ ms → (∀ (H : Gs) (C' : Sm), Ev n G U H → Inv H → RQ H C' → post (C' 3 0 - l3) C') → u_A_tick_j58 post px (n + 1) mc ms C (nI U) l3 (nI l) := by
  have fin : ∀ (n : Nat) (G : Gs) (C : Sm), InvT G → RQ G C → ND G U → (∀ (H : Gs) (C' : Sm), Ev n G U H → Inv H → RQ H C' → post (C' 3 0 - l3) C') → ∀ mc ms, u_A_tick_j93 post px mc ms C (nI U) l3 := by
    intro n G C hI hQ hN h mc ms
    refine h (gu G 1 0 U) _ ?_ ⟨inv_clock hU hI, hN⟩ (rq_clock hQ)
    cases n with
    | zero => exact ⟨hN, rfl⟩
    | succ n => exact Or.inl ⟨hN, rfl⟩
  intro n
  induction n with
  | zero =>
    intro G C l mc ms hI hQ hc hl _ _ h
    have e : l = 60 := by omega
    subst e
    exact ⟨fun _ => fin 0 G C hI hQ (clsd_nd hI.2.1.2.2.1 hc) h mc ms, fun z => absurd (by decide) z⟩
  | succ n ih =>
    intro G C l mc ms hI hQ hc hl hmc hms h
    refine ⟨fun z => absurd z (nI_ge (a := l) (b := 60) (by omega) (by decide)), fun _ => cl_fd hI hQ hU (fun hN => ⟨fun _ => fin (n + 1) G C hI hQ hN h mc ms, fun y => absurd rfl y⟩) (fun a hF => ⟨fun y => ?_, fun _ => ⟨4, 228, by omega, by omega, ?_⟩⟩)⟩
    · have hna := hI.2.1.2.2.1
      have := hF.1
      exact absurd (nI_pos' (n := a) (by omega)) (by rw [y]; decide)
    · have hE : enG G a ≤ 999999 := by have := hF.2.2.1; omega
      refine cl_close hI hQ hF.1 hF.2.1 hE (Nat.le_refl _) (Nat.le_refl _) (fun C3 hQ3 => ?_)
      rw [nI_1]
      have hI1 : InvT (gu G 1 0 (enG G a)) := inv_clock hE hI
      refine ih _ C3 (l + 1) (mc - 4) (ms - 228) (inv_cl hI1 hF.1) hQ3 ?_ (by omega) (by omega) (by omega) (fun H C' hEv => h H C' (Or.inr ⟨a, hF, hEv⟩))
      rw [clsd_up (G := gu G 1 0 (enG G a)) hF.1 hF.2.1]
      have e : clsd (gu G 1 0 (enG G a)) = clsd G := rfl
      omega
/-! the reference, second by second -/
def TI (G : Gs) (l : Nat) : Prop := ∀ b, b < G 12 0 → G 17 b = 0 → (G 1 0 ≤ enG G b ∧ (b < l → G 1 0 < enG G b))
theorem rf_tin {post : Int32 → Sm → Prop} {K : Sm → Int32 → Int32 → Int32 → Prop} {l1 l2 l3 : Int32} {H : Gs} {T : Nat} (hT : T ≤ U) (hK : ∀ (G : Gs) (m : Nat), InvT G → G 1 0 = T → IO G → Ev m G U H → K (encS G) l1 l2 (l3 + 1)) : ∀ d l m (G : Gs), d + l = 60 → InvT G → G 1 0 = T → TI G l → Ev m G U H → v_M_tick_j63 post K (d + 1) (encS G) l1 l2 l3 (nI l) := by
  intro d
  induction d with
  | zero =>
    intro l m G hl hI h1 hTI hE
    have hna := hI.2.1.2.2.1
    have e : l = 60 := by omega
    subst e
    refine ⟨fun _ => hK G m hI h1 (fun b hb h17 => (hTI b hb h17).2 (by omega)) hE, fun z => absurd (nI_le (a := G 12 0) (b := 60) hna (by decide)) z⟩
  | succ d ih =>
    intro l m G hl hI h1 hTI hE
    have hna := hI.2.1.2.2.1
    have hng := hI.2.1.1
    refine ⟨fun z => ?_, fun z => ?_⟩
    · have z' : G 12 0 ≤ l := (nI_leI (a := G 12 0) (b := l) (by omega) (by omega)).mp z
      exact hK G m hI h1 (fun b hb h17 => (hTI b hb h17).2 (by omega)) hE
    · have z' : l < G 12 0 := Nat.lt_of_not_le (fun y => z (nI_le (a := G 12 0) (b := l) y (by omega)))
      have h13 := (hI.2.2.2.2 l z').1
      have b17 := hI.1 17 l (by decide)
      have b15 := hI.1 15 l (by decide)
      have b4 := hI.1 4 (G 13 l) (by decide)
      have b1 := hI.1 1 0 (by decide)
      have N : (G 17 l = 0 → G 1 0 < enG G l) → v_M_tick_j227 post K (v_M_tick_j63 post K (d + 1)) (encS G) l1 l2 l3 (nI l) := fun y => by
        unfold v_M_tick_j227
        rw [nI_1]
        refine ih (l + 1) m G (by omega) hI h1 (fun b hb h17 => ⟨(hTI b hb h17).1, fun hb2 => ?_⟩) hE
        by_cases w : b = l
        · subst w; exact y h17
        · exact (hTI b hb h17).2 (by omega)
      refine a_ld (n := l) rfl (by show _ < 60; omega) ?_
      show (nI (G 17 l) = 0 → _) ∧ (¬ nI (G 17 l) = 0 → _)
      rw [nI_z (by omega)]
      refine ⟨fun z2 => a_ld (n := l) rfl (by show _ < 60; omega) (a_ld (n := l) rfl (by show _ < 60; omega) (a_ld (n := G 13 l) rfl (by show _ < 12; omega) ?_)), fun z2 => N (fun w => absurd w z2)⟩
      show (nI (G 15 l) + nI (G 4 (G 13 l)) ≤ nI (G 1 0) → _) ∧ (¬ nI (G 15 l) + nI (G 4 (G 13 l)) ≤ nI (G 1 0) → _)
      rw [nI_add, nI_leI (by omega) (by omega)]
      have ee : enG G l = G 15 l + G 4 (G 13 l) := rfl
      refine ⟨fun z3 => rf_close hI z' ?_, fun z3 => N (fun _ => by omega)⟩
      have t1 := (hTI l z' z2).1
      have et : enG G l = G 1 0 := by omega
      have hF : FD G U l := ⟨z', z2, by omega, fun b hb h17 => by
        have t2 := hTI b hb h17
        by_cases w : b < l
        · have := t2.2 w; omega
        · have := t2.1; omega⟩
      obtain ⟨m', hE'⟩ := ev_fd hF m hE
      rw [et, gu_id] at hE'
      unfold v_M_tick_j227
      rw [nI_1]
      refine ih (l + 1) m' (clG G l) (by omega) (inv_cl hI z') (by rw [cl_k1]; exact h1) (fun b hb h17 => ?_) hE'
      rw [cl_k1]
      rcases cl_run hI z' b hb h17 with ⟨c1, c2, c3, c4⟩ | ⟨c1, c2⟩
      · rw [c4]
        refine ⟨(hTI b c1 c3).1, fun hb2 => (hTI b c1 c3).2 (by omega)⟩
      · exact ⟨by omega, fun _ => c2⟩
theorem rf_tout {post : Int32 → Sm → Prop} {l2 : Int32} {H : Gs} {N : Nat} (hN : N ≤ 5000) (hU : U ≤ 999999) (h : post (nI (H 24 0) - l2) (encS H)) : ∀ d k m (G : Gs), d + k = N → InvT G → IO G → G 1 0 + d = U → Ev m G U H → v_M_tick_j45 post (d + 1) (encS G) (nI N) l2 (nI k) := by
  intro d
  induction d with
  | zero =>
    intro k m G hk hI hO h1 hE
    have e : k = N := by omega
    subst e
    refine ⟨fun _ => ?_, fun z => absurd (nI_le (Nat.le_refl _) (by omega)) z⟩
    have e1 : G 1 0 = U := by omega
    have hND : ND G U := fun b hb h17 => by
      have := hO b hb h17
      show U < G 15 b + G 4 (G 13 b)
      omega
    have e2 := ev_nd hND m hE
    rw [← e1, gu_id] at e2
    subst e2
    exact h
  | succ d ih =>
    intro k m G hk hI hO h1 hE
    refine ⟨fun z => absurd z (nI_ge (a := k) (b := N) (by omega) (by omega)), fun _ => a_pf (m := G 1 0 + 1) (nI_1 _) ?_⟩
    have q := rf_tin (post := post) (K := v_M_tick_j45 post (d + 1)) (l1 := nI N) (l2 := l2) (l3 := nI k) (H := H) (U := U) (T := G 1 0 + 1) (by omega) (fun G2 m2 i1 i2 i3 i4 => by
      rw [nI_1]
      exact ih (k + 1) m2 G2 (by omega) i1 i3 (by omega) i4) 60 0 m (gu G 1 0 (G 1 0 + 1)) rfl (inv_clock (by omega) hI) rfl (fun b hb h17 => ⟨hO b hb h17, fun w => absurd w (by omega)⟩) (ev_clock m hE)
    rw [nI_0] at q
    exact ⟨_, q⟩
theorem rf_tick {post : Int32 → Sm → Prop} {x : Int32} (hI : Inv G) (h1 : ¬ (1 ≤ x ∧ x ≤ 5000 ∧ x ≤ 999999 - nI (G 1 0)) → post 0 (encS (gu G 0 0 1))) (h0 : ∀ N : Nat, x = nI N → 1 ≤ N → N ≤ 5000 → G 1 0 + N ≤ 999999 → ∃ m H, Ev m (gu G 0 0 0) (G 1 0 + N) H ∧ post (nI (H 24 0) - nI (G 24 0)) (encS H)) : v_M_tick post (encS G) x := by
  have b1 := hI.1.2.1.2.2.2
  have e9 : (999999 : Int32) - nI (G 1 0) = nI (999999 - G 1 0) := by
    rw [show (999999 : Int32) = nI 999999 from rfl, pk_sub (by omega)]
  have J0 : ¬ (1 ≤ x ∧ x ≤ 5000 ∧ x ≤ 999999 - nI (G 1 0)) → v_M_tick_j27 post (encS G) x := fun w => rf_goes (fun _ => ⟨fun _ => h1 w, fun y => absurd rfl y⟩) (fun y => absurd rfl y) (fun y => absurd rfl y) (fun y => absurd rfl y)
  refine rf_in (fun a b => ⟨fun z => absurd z d10, fun _ => ⟨fun z => J0 (fun w => i_lt_le z w.2.2), fun z => ?_⟩⟩) (fun a => ⟨fun _ => J0 (fun w => a ⟨w.1, w.2.1⟩), fun z => absurd rfl z⟩)
  have z' : x ≤ nI (999999 - G 1 0) := by rw [← e9]; exact i_nlt z
  have a0 : 0 ≤ x := by
    rw [i_le] at a ⊢
    rw [ti_0]
    rw [show (1 : Int32).toInt = 1 from by decide] at a
    omega
  obtain ⟨N, hN, e⟩ := lim_nI (n := 5000) (by decide) a0 b
  subst e
  have hN1 : 1 ≤ N := (n1l (by omega)).mp a
  have hN2 : N ≤ 999999 - G 1 0 := (nI_leI (by omega) (by omega)).mp z'
  obtain ⟨m, H, hE, hp⟩ := h0 N rfl hN1 hN (by omega)
  refine rf_goes (fun y => absurd y d10) (fun _ y => absurd y d10) (fun _ _ y => absurd y d10) (fun _ _ _ => ⟨fun y => absurd y d10, fun _ => ?_⟩)
  have hI' : Inv (gu G 0 0 0) := inv_th (by decide) hI
  have q := rf_tout (post := post) (l2 := nI (G 24 0)) (H := H) (U := G 1 0 + N) hN (by omega) hp N 0 m (gu G 0 0 0) rfl hI'.1 hI'.2 rfl hE
  rw [nI_0] at q
  exact ⟨_, q⟩
theorem op_tick {x : Int32} (hI : Inv G) (hQ : RQ G C) (hmc : 240 ≤ mc) (hms : 13680 ≤ ms) : u_A_tick (fun r C' => v_M_tick (fun b S' => b = r ∧ Fin9 C' S' 0) (encS G) x) (PX1 eIO (fun k C' => v_M_tick (fun _ S' => Fin9 C' S' k) (encS G) x)) mc ms C x := by
  have b1 := hI.1.2.1.2.2.2
  have c0 := hQ.1.1
  have e9 : (999999 : Int32) - nI (G 1 0) = nI (999999 - G 1 0) := by
    rw [show (999999 : Int32) = nI 999999 from rfl, pk_sub (by omega)]
  have X : ¬ (1 ≤ x ∧ x ≤ 5000 ∧ x ≤ 999999 - nI (G 1 0)) → PX1 eIO (fun k C' => v_M_tick (fun _ S' => Fin9 C' S' k) (encS G) x) "java/lang/IndexOutOfBoundsException" C := fun w => by
    refine ⟨rfl, rf_tick hI (fun _ => fin_th 1 (by decide) hI hQ) (fun N e h1 h2 h3 => absurd ⟨?_, ?_, ?_⟩ w)⟩
    · rw [e]; exact (n1l (by omega)).mpr h1
    · rw [e]; exact nI_le (b := 5000) h2 (by decide)
    · rw [e, e9]; exact nI_le (by omega) (by omega)
  refine ⟨fun z => ⟨by omega, by omega, X (fun w => i_lt_le z w.1)⟩, fun z => ⟨fun z2 => ?_, fun z2 => ⟨by omega, by omega, X (fun w => z2 w.2.1)⟩⟩⟩
  rw [c0]
  refine ⟨fun z3 => ?_, fun z3 => ⟨by omega, by omega, X (fun w => z3 w.2.2)⟩⟩
  have a := i_nlt z
  have a0 : 0 ≤ x := by
    rw [i_le] at a ⊢
    rw [ti_0]
    rw [show (1 : Int32).toInt = 1 from by decide] at a
    omega
  obtain ⟨N, hN, e⟩ := lim_nI (n := 5000) (by decide) a0 z2
  subst e
  have hN1 : 1 ≤ N := (n1l (by omega)).mp a
  have hN2 : N ≤ 999999 - G 1 0 := (nI_leI (by omega) (by omega)).mp (e9 ▸ z3)
  have hI' : Inv (gu G 0 0 0) := inv_th (by decide) hI
  refine ⟨60 + 1, ?_⟩
  have k := cl_tl (U := G 1 0 + N) (post := fun r C' => v_M_tick (fun b S' => b = r ∧ Fin9 C' S' 0) (encS G) (nI N)) (px := PX1 eIO (fun k C' => v_M_tick (fun _ S' => Fin9 C' S' k) (encS G) (nI N))) (l3 := C 3 0) (by omega) 60 (gu G 0 0 0) C 0 mc ms hI'.1 (rq_th hQ) (by omega) rfl (by omega) (by omega) (fun H C' hE hH hQ' => by
    refine rf_tick hI (fun w => absurd ⟨a, z2, z3⟩ w) (fun N' e' _ _ _ => ?_)
    have en : N' = N := ((nI_eq (by omega) (by omega)).mp e').symm
    subst en
    refine ⟨60, H, hE, ?_, ⟨H, hH, hQ', rfl, ?_⟩⟩
    · rw [hQ'.1.2.2.2.1, hQ.1.2.2.2.1]
    · rw [ev_th 60 _ hE]; rfl)
  rw [nI_0, ← nI_add] at k
  exact k
end OPS11
