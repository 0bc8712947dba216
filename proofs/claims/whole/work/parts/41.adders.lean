/-! group and person of the class; the constructors. -/
def groupC (C : Sm) (l s : Int32) : Sm := fun k p =>
  if k = 4 ∧ p = 0 then nI (cn C 0 + 1) else if k = 10 ∧ p = cn C 0 then l else if k = 11 ∧ p = cn C 0 then s else if k = 12 ∧ p = cn C 0 then -1 else if k = 13 ∧ p = cn C 0 then 0 else if k = 14 ∧ p = cn C 0 then 0 else C k p
def personC (C : Sm) (g : Int32) : Sm := fun k p =>
  if k = 5 ∧ p = 0 then nI (cn C 1 + 1) else if k = 20 ∧ p = cn C 1 then g else if (k = 23 ∨ k = 24 ∨ k = 25 ∨ k = 26) ∧ p = cn C 1 then 0 else if (k = 21 ∨ k = 22) ∧ 3 * cn C 1 ≤ p ∧ p < 3 * cn C 1 + 3 then 0 else C k p
def u_A_group (post : Int32 → Sm → Prop) (px : String → Sm → Prop) (mc ms : Nat) (C : Sm) (l s : Int32) : Prop :=
  2 ≤ mc ∧ 120 ≤ ms ∧ (¬ (1 ≤ l ∧ l ≤ 20 ∧ 1 ≤ s ∧ s ≤ 3600) → px "java/lang/IndexOutOfBoundsException" C) ∧ ((1 ≤ l ∧ l ≤ 20 ∧ 1 ≤ s ∧ s ≤ 3600) → (¬ cn C 0 < 12 → px "java/lang/UnsupportedOperationException" C) ∧ (cn C 0 < 12 → post (nI (cn C 0)) (groupC C l s)))
def u_A_person (post : Int32 → Sm → Prop) (px : String → Sm → Prop) (mc ms : Nat) (C : Sm) (g : Int32) : Prop :=
  5 ≤ mc ∧ 120 ≤ ms ∧ (¬ vp_in g (cn C 0) → px "java/lang/IllegalArgumentException" C) ∧ (vp_in g (cn C 0) → (¬ cn C 1 < 60 → px "java/lang/UnsupportedOperationException" C) ∧ (cn C 1 < 60 → post (nI (cn C 1)) (personC C g)))
section AD
variable {e0 : Nat} {M0 M : zM} {own : Nat → Prop} {x : Nat} {post : Int32 → Sm → Prop} {po : Int32 → zM → Prop} {px : String → Sm → Prop} {pxo : String → zM → Prop} {mc ms : Nat} {Z : Zc} {nn : Nat → Nat} {C : Sm}
theorem cx_cn (h : RCx e0 M0 own M Z C x nn) {t : Nat} (ht : t < 3) : C (4 + t) 0 = nI (nn t) ∧ nn t ≤ 60 := by
  obtain ⟨b1, b2, b3, b4⟩ := h.1.1.2.2 t ht
  rw [h.2.2 t ht] at b1 b4
  exact ⟨b4, b1⟩
theorem i_nlt {a b : Int32} (h : ¬ a < b) : b ≤ a := Int32.not_lt.mp h
theorem i_nle {a b : Int32} (h : ¬ a ≤ b) : b < a := Int32.not_le.mp h
theorem i_ge1 {a : Int32} (h : ¬ a < 1) : 1 ≤ a := Int32.not_lt.mp h
theorem i_lt_le {a b : Int32} (h : a < b) (h2 : b ≤ a) : False := Int32.not_lt.mpr h2 h
theorem w_any {mc ms : Nat} {P : Prop} (h : 2 ≤ mc) (h2 : 120 ≤ ms) (hP : P) : 1 ≤ mc ∧ 6 ≤ ms ∧ P := ⟨by omega, by omega, hP⟩
theorem p_G_init {post : zM → Prop} {q : Nat} {x1 x2 : Int32} (hq : M q = some (.inr (2, [.int 0, .int 0, .int 0, .int 0, .int 0]))) (hp : ∀ M', M' q = some (.inr (2, [.int x1, .int x2, .int (-1), .int 0, .int 0])) → (∀ a, a ≠ q → M' a = M a) → post M') : w_G_init e0 post M q x1 x2 := by
  refine p_pf hq (by simp) (fun M1 h1 o1 => ?_)
  refine p_pf h1 (by simp) (fun M2 h2 o2 => ?_)
  refine p_pf h2 (by simp) (fun M3 h3 o3 => ?_)
  exact hp M3 h3 (fun a ha => (o3 a ha).trans ((o2 a ha).trans (o1 a ha)))
theorem lc_A_group {l s : Int32} (hR : RCx e0 M0 own M Z C x nn) (hv : u_A_group post px mc ms C l s) (hp : ∀ (r : Int32) (M : zM) (Z : Zc) (C : Sm) (nn : Nat → Nat), RCx e0 M0 own M Z C x nn → post r C → po r M) (hpx : ∀ (E : String) (M : zM) (Z : Zc) (C : Sm) (nn : Nat → Nat), RCx e0 M0 own M Z C x nn → px E C → pxo E M) : w_A_group e0 po pxo mc ms M x l s := by
  obtain ⟨hmc, hms, v1, v2⟩ := hv
  have hx1 : ¬ (1 ≤ l ∧ l ≤ 20 ∧ 1 ≤ s ∧ s ≤ 3600) → 1 ≤ mc ∧ 6 ≤ ms ∧ pxo "java/lang/IndexOutOfBoundsException" M := fun z => w_any hmc hms (hpx _ _ _ _ _ hR (v1 z))
  refine ⟨fun z => hx1 (fun w => i_lt_le z w.1), fun z1 => ⟨fun z2 => ⟨fun z => hx1 (fun w => i_lt_le z w.2.2.1), fun z3 => ⟨fun z4 => ?_, fun z => hx1 (fun w => z w.2.2.2)⟩⟩, fun z => hx1 (fun w => z w.2.1)⟩⟩
  have v3 := v2 ⟨i_nlt z1, z2, i_nlt z3, z4⟩
  obtain ⟨hc, h60⟩ := cx_cn hR (t := 0) (by decide)
  have hcn := hR.2.2 0 (by decide)
  rw [hcn] at v3
  refine cx_gr9 hR rfl ⟨cx_isL hR (by decide), cx_size hR (by decide) ⟨fun z => ?_, fun z => ?_⟩⟩
  · have hlt : nn 0 < 12 := by
      rw [hc] at z
      exact (nI_ltI (b := 12) (by omega) (by decide)).mp z
    have v5 := v3.2 hlt
    refine cx_gr9 hR rfl ⟨by omega, by omega, fun q hq => ?_⟩
    have fq := cx_fr hR hq
    refine p_G_init (va_up_self _ _ _) (fun M1 h1 o1 => ?_)
    have h2 : RCx e0 M0 own M1 Z C x nn := cx_at hR (fun a => a = q) (fun a ha => by rw [ha]; exact fq) (fun a ha => by rw [o1 a ha, va_up_ne _ _ ha])
    refine ⟨cx_isL h2 (by decide), mc - 1, ms - 5, Nat.le_refl _, Nat.le_refl _, ?_⟩
    refine cx_add (t := 0) (na := fun _ => q) (C' := groupC C l s) h2 (by decide) (by omega) h1 (by decide) (fun _ _ => fq) rfl (by omega) (by omega) (fun k _ => by rw [h1]; exact Option.some_ne_none _) (fun k k' hk hk' _ => by unfold nK at hk hk'; omega) ?_ (fun k i s' p hu hd hs => ?_) (fun ea' cap' k hk => ?_) (fun M' Z' hR' => ?_)
    · unfold groupC
      rw [hcn, if_pos ⟨rfl, rfl⟩]
    · unfold cUs at hu
      unfold cDep at hd
      unfold groupC
      rw [if_neg (by omega), if_neg (by omega), if_neg (by omega), if_neg (by omega), if_neg (by omega), if_neg (by omega)]
    · have hk9 := hk
      unfold nK at hk
      have e : k = 1 := by omega
      subst e
      refine ⟨fun e => absurd e (by decide), fun e => absurd e (by decide), fun e => absurd e (by decide), fun _ => ?_, fun e => absurd e (by decide), fun e => absurd e (by decide), fun e => absurd e (by decide), fun e => absurd e (by decide), fun e => absurd e (by decide), fun e => absurd e (by decide)⟩
      rw [zGr_new hk9, h1]
      simp [groupC, hcn]
    · refine cx_gr9 hR' rfl ⟨cx_isL hR' (by decide), cx_size hR' (by decide) ?_⟩
      have e : groupC C l s (4 + 0) 0 - 1 = nI (nn 0) := by
        unfold groupC
        rw [hcn, if_pos ⟨rfl, rfl⟩, nI_pred]
      rw [e]
      exact hp _ _ _ _ _ hR' v5
  · have hlt : ¬ nn 0 < 12 := fun w => z (by rw [hc]; exact nI_lt (b := 12) w (by decide))
    exact w_any hmc hms (hpx _ _ _ _ _ hR (v3.1 hlt))
theorem p_P_init {post : zM → Prop} {q : Nat} {x1 : Int32} (hq : M q = some (.inr (3, [.int 0, .null, .null, .int 0, .int 0, .int 0, .int 0]))) (hmc : 2 ≤ mc) (hms : 6 ≤ ms) (hp : ∀ (q3 q4 : Nat) (M' : zM), M q3 = none → M q4 = none → q3 ≠ q4 → M' q = some (.inr (3, [.int x1, .ref q3, .ref q4, .int 0, .int 0, .int 0, .int 0])) → M' q3 = some (.inl (0, 3, .inl (fun _ => 0))) → M' q4 = some (.inl (1, 3, .inl (fun _ => 0))) → (∀ a, a ≠ q → a ≠ q3 → a ≠ q4 → M' a = M a) → post M') : w_P_init e0 post mc ms M q x1 := by
  refine p_pf hq (by simp) (fun M1 h1 o1 => ?_)
  refine ⟨by decide, by decide, by omega, by omega, by decide, fun q3 hq3 => ?_⟩
  have n3 : q3 ≠ q := fun z => by rw [z, h1] at hq3; cases hq3
  generalize hM2 : va_up M1 q3 (some (.inl (0, 3, .inl (fun _ => 0)))) = M2
  have g1 : M2 q = some (.inr (3, [.int x1, .null, .null, .int 0, .int 0, .int 0, .int 0])) := by rw [← hM2, va_up_ne _ _ (Ne.symm n3)]; exact h1
  have g2 : M2 q3 = some (.inl (0, 3, .inl (fun _ => 0))) := by rw [← hM2, va_up_self]
  have g3 : ∀ a, a ≠ q3 → M2 a = M1 a := fun a ha => by rw [← hM2, va_up_ne _ _ ha]
  refine p_pf g1 (by simp) (fun M3 h3 o3 => ?_)
  refine ⟨by decide, by decide, by omega, by omega, by decide, fun q4 hq4 => ?_⟩
  have n4 : q4 ≠ q := fun z => by rw [z, h3] at hq4; cases hq4
  have n43 : q4 ≠ q3 := fun z => by rw [z, o3 q3 n3, g2] at hq4; cases hq4
  generalize hM4 : va_up M3 q4 (some (.inl (1, 3, .inl (fun _ => 0)))) = M4
  have k1 : M4 q = some (.inr (3, [.int x1, .ref q3, .null, .int 0, .int 0, .int 0, .int 0])) := by rw [← hM4, va_up_ne _ _ (Ne.symm n4)]; exact h3
  have k2 : M4 q4 = some (.inl (1, 3, .inl (fun _ => 0))) := by rw [← hM4, va_up_self]
  have k3 : ∀ a, a ≠ q4 → M4 a = M3 a := fun a ha => by rw [← hM4, va_up_ne _ _ ha]
  refine p_pf k1 (by simp) (fun M5 h5 o5 => ?_)
  refine p_pf h5 (by simp) (fun M6 h6 o6 => ?_)
  refine hp q3 q4 M6 ?_ ?_ (Ne.symm n43) h6 ?_ ?_ (fun a e1 e2 e3 => ?_)
  · rw [← o1 q3 n3]; exact hq3
  · rw [← o1 q4 n4, ← g3 q4 n43, ← o3 q4 n4]; exact hq4
  · rw [o6 q3 n3, o5 q3 n3, k3 q3 (Ne.symm n43), o3 q3 n3]; exact g2
  · rw [o6 q4 n4, o5 q4 n4]; exact k2
  · rw [o6 a e1, o5 a e1, k3 a e3, o3 a e1, g3 a e2]; exact o1 a e1
set_option maxHeartbeats 2000000 in
theorem lc_A_person {g : Int32} (hR : RCx e0 M0 own M Z C x nn) (hv : u_A_person post px mc ms C g) (hp : ∀ (r : Int32) (M : zM) (Z : Zc) (C : Sm) (nn : Nat → Nat), RCx e0 M0 own M Z C x nn → post r C → po r M) (hpx : ∀ (E : String) (M : zM) (Z : Zc) (C : Sm) (nn : Nat → Nat), RCx e0 M0 own M Z C x nn → px E C → pxo E M) : w_A_person e0 po pxo mc ms M x g := by
  obtain ⟨hmc, hms, v1, v2⟩ := hv
  obtain ⟨hc0, h600⟩ := cx_cn hR (t := 0) (by decide)
  obtain ⟨hc, h60⟩ := cx_cn hR (t := 1) (by decide)
  have hcn := hR.2.2 1 (by decide)
  have hcn0 := hR.2.2 0 (by decide)
  rw [hcn0] at v1 v2
  have hx1 : ¬ vp_in g (nn 0) → 1 ≤ 1 ∧ 6 ≤ 6 ∧ pxo "java/lang/IllegalArgumentException" M := fun z => ⟨Nat.le_refl _, Nat.le_refl _, hpx _ _ _ _ _ hR (v1 z)⟩
  refine ⟨cx_is9 hR, 1, 6, by omega, by omega, ⟨fun z => hx1 (fun w => vp_in_ge w z), fun z0 => cx_gr9 hR rfl ⟨cx_isL hR (by decide), cx_size hR (by decide) ⟨fun z => ?_, fun z => hx1 (fun w => ?_)⟩⟩⟩⟩
  · have hg : vp_in g (nn 0) := by
      rcases pk_ix g (n := nn 0) (by omega) with h | h | ⟨j, hj, rfl⟩
      · exact absurd h z0
      · exact absurd (by rw [hc0] at z; exact z) (Int32.not_lt.mpr h)
      · exact vp_in_nI hj (by omega)
    have v3 := v2 hg
    rw [hcn] at v3
    refine cx_gr9 hR rfl ⟨cx_isL hR (by decide), cx_size hR (by decide) ⟨fun z => ?_, fun z => ?_⟩⟩
    · have hlt : nn 1 < 60 := by
        rw [hc] at z
        exact (nI_ltI (b := 60) (by omega) (by decide)).mp z
      have v5 := v3.2 hlt
      refine cx_gr9 hR rfl ⟨by omega, by omega, fun q hq => ?_⟩
      have fq := cx_fr hR hq
      have h1 : RCx e0 M0 own (va_up M q (some (.inr (3, [.int 0, .null, .null, .int 0, .int 0, .int 0, .int 0])))) Z C x nn := cx_at hR (fun a => a = q) (fun a ha => by rw [ha]; exact fq) (fun a ha => va_up_ne _ _ ha)
      refine ⟨2, 6, by omega, by omega, p_P_init (va_up_self _ _ _) (Nat.le_refl _) (Nat.le_refl _) (fun q3 q4 M' a1 a2 a3 a4 a5 a6 a7 => ?_)⟩
      have g3 := cx_fr h1 a1
      have g4 := cx_fr h1 a2
      have n3 : q3 ≠ q := fun z => by rw [z, va_up_self] at a1; cases a1
      have n4 : q4 ≠ q := fun z => by rw [z, va_up_self] at a2; cases a2
      have h2 : RCx e0 M0 own M' Z C x nn := cx_at h1 (fun a => a = q ∨ a = q3 ∨ a = q4) (fun a ha => by rcases ha with rfl | rfl | rfl <;> assumption) (fun a ha => a7 a (fun z => ha (Or.inl z)) (fun z => ha (Or.inr (Or.inl z))) (fun z => ha (Or.inr (Or.inr z))))
      refine ⟨cx_isL h2 (by decide), mc - 1 - 1 - 2, ms - 6 - 7 - 6, Nat.le_refl _, Nat.le_refl _, ?_⟩
      refine cx_add (t := 1) (na := fun k => if k = 2 then q else if k = 3 then q3 else q4) (C' := personC C g) h2 (by decide) (by omega) a4 (by decide) (fun k _ => ?_) rfl ?_ ?_ (fun k _ => ?_) (fun k k' hk hk' hz => ?_) ?_ (fun k i s' p hu hd hs => ?_) (fun ea' cap' k hk => ?_) (fun M' Z' hR' => ?_)
      · show cFr M0 own Z C (if k = 2 then q else if k = 3 then q3 else q4)
        split
        · exact fq
        · split
          · exact g3
          · exact g4
      · omega
      · omega
      · show M' (if k = 2 then q else if k = 3 then q3 else q4) ≠ none
        split
        · rw [a4]; exact Option.some_ne_none _
        · split
          · rw [a5]; exact Option.some_ne_none _
          · rw [a6]; exact Option.some_ne_none _
      · unfold nK at hk hk'
        rcases (show k = 2 ∨ k = 3 ∨ k = 4 by omega) with rfl | rfl | rfl <;> rcases (show k' = 2 ∨ k' = 3 ∨ k' = 4 by omega) with rfl | rfl | rfl <;> simp at hz ⊢
        · exact n3 hz.symm
        · exact n4 hz.symm
        · exact n3 hz
        · exact a3 hz
        · exact n4 hz
        · exact a3 hz.symm
      · unfold personC
        rw [hcn, if_pos ⟨rfl, rfl⟩]
      · unfold cUs at hu
        unfold cDep at hd
        unfold personC
        rw [if_neg (by omega), if_neg (by omega), if_neg (by omega), if_neg (by omega)]
      · have hk9 := hk
        unfold nK at hk
        rcases (show k = 2 ∨ k = 3 ∨ k = 4 by omega) with rfl | rfl | rfl
        · refine ⟨fun e => absurd e (by decide), fun e => absurd e (by decide), fun e => absurd e (by decide), fun e => absurd e (by decide), fun _ => ?_, fun e => absurd e (by decide), fun e => absurd e (by decide), fun e => absurd e (by decide), fun e => absurd e (by decide), fun e => absurd e (by decide)⟩
          rw [zGr_new hk9, zGr_new (k := 3) (by unfold nK; omega), zGr_new (k := 4) (by unfold nK; omega)]
          show M' q = _
          rw [a4]
          simp [personC, hcn]
        · refine ⟨fun e => absurd e (by decide), fun e => absurd e (by decide), fun e => absurd e (by decide), fun e => absurd e (by decide), fun e => absurd e (by decide), fun _ => ⟨_, by rw [zGr_new hk9]; exact a5, fun i hi => ?_⟩, fun e => absurd e (by decide), fun e => absurd e (by decide), fun e => absurd e (by decide), fun e => absurd e (by decide)⟩
          unfold personC
          rw [hcn, if_neg (by omega), if_neg (by omega), if_neg (by omega), if_pos (by omega)]
        · refine ⟨fun e => absurd e (by decide), fun e => absurd e (by decide), fun e => absurd e (by decide), fun e => absurd e (by decide), fun e => absurd e (by decide), fun e => absurd e (by decide), fun _ => ⟨_, by rw [zGr_new hk9]; exact a6, fun i hi => ?_⟩, fun e => absurd e (by decide), fun e => absurd e (by decide), fun e => absurd e (by decide)⟩
          unfold personC
          rw [hcn, if_neg (by omega), if_neg (by omega), if_neg (by omega), if_pos (by omega)]
      · refine cx_gr9 hR' rfl ⟨cx_isL hR' (by decide), cx_size hR' (by decide) ?_⟩
        have e : personC C g (4 + 1) 0 - 1 = nI (nn 1) := by
          unfold personC
          rw [hcn, if_pos ⟨rfl, rfl⟩, nI_pred]
        rw [e]
        exact hp _ _ _ _ _ hR' v5
    · have hlt : ¬ nn 1 < 60 := fun w => z (by rw [hc]; exact nI_lt (b := 60) w (by decide))
      exact ⟨by omega, by omega, hpx _ _ _ _ _ hR (v3.1 hlt)⟩
  · obtain ⟨j, hj, rfl⟩ := vp_in_of w (by omega)
    exact z (by rw [hc0]; exact nI_lt hj (by omega))
end AD
/-! The constructors. -/
def C00 : Sm := fun _ _ => 0
def Z00 (x q0 q1 q2 : Nat) : Zc := (fun k i => if k = 9 then x else if i = 0 then q0 else if i = 1 then q1 else q2, fun _ => 0, fun _ => 0)
theorem cn_00 (t : Nat) : cn C00 t = 0 := rfl
theorem p_Y_init {e0 : Nat} {M : zM} {post : zM → Prop} {q : Nat} (hq : M q = some (.inr (5, [.null, .int 0, .int 0]))) (hp : ∀ M', M' q = some (.inr (5, [.ref e0, .int 0, .int 0])) → (∀ a, a ≠ q → M' a = M a) → post M') : w_Y_init e0 post M q := by
  refine p_pf hq (by simp) (fun M1 h1 o1 => ?_)
  refine p_pf h1 (by simp) (fun M2 h2 o2 => ?_)
  exact hp M2 h2 (fun a ha => (o2 a ha).trans (o1 a ha))
theorem lc_A_init {e0 : Nat} {M : zM} {post : zM → Prop} {mc ms x : Nat} (hx : M x = some (.inr (0, [.null, .null, .null, .int 0, .int 0, .int 0, .int 0]))) (hmc : 3 ≤ mc) (hms : 9 ≤ ms) (hp : ∀ (M' : zM) (q0 q1 q2 : Nat), RCx e0 M (fun a => a = x) M' (Z00 x q0 q1 q2) C00 x (fun _ => 0) → post M') : w_A_init e0 post mc ms M x := by
  refine ⟨by omega, by omega, fun q0 hq0 => ?_⟩
  have n0 : q0 ≠ x := fun z => by rw [z, hx] at hq0; cases hq0
  refine p_Y_init (va_up_self _ _ _) (fun M1 h1 o1 => ?_)
  have x1 : M1 x = some (.inr (0, [.null, .null, .null, .int 0, .int 0, .int 0, .int 0])) := by rw [o1 x (Ne.symm n0), va_up_ne _ _ (Ne.symm n0)]; exact hx
  refine p_pf x1 (by simp) (fun M2 h2 o2 => ?_)
  refine ⟨by omega, by omega, fun q1 hq1 => ?_⟩
  have n1 : q1 ≠ x := fun z => by rw [z, h2] at hq1; cases hq1
  have n10 : q1 ≠ q0 := fun z => by rw [z, o2 q0 n0, h1] at hq1; cases hq1
  refine p_Y_init (va_up_self _ _ _) (fun M3 h3 o3 => ?_)
  have x3 : M3 x = some (.inr (0, [.ref q0, .null, .null, .int 0, .int 0, .int 0, .int 0])) := by rw [o3 x (Ne.symm n1), va_up_ne _ _ (Ne.symm n1)]; exact h2
  refine p_pf x3 (by simp) (fun M4 h4 o4 => ?_)
  refine ⟨by omega, by omega, fun q2 hq2 => ?_⟩
  have n2 : q2 ≠ x := fun z => by rw [z, h4] at hq2; cases hq2
  have n21 : q2 ≠ q1 := fun z => by rw [z, o4 q1 n1, h3] at hq2; cases hq2
  have y0 : M4 q0 = some (.inr (5, [.ref e0, .int 0, .int 0])) := by rw [o4 q0 n0, o3 q0 (Ne.symm n10), va_up_ne _ _ (Ne.symm n10), o2 q0 n0]; exact h1
  have n20 : q2 ≠ q0 := fun z => by rw [z, y0] at hq2; cases hq2
  refine p_Y_init (va_up_self _ _ _) (fun M5 h5 o5 => ?_)
  have x5 : M5 x = some (.inr (0, [.ref q0, .ref q1, .null, .int 0, .int 0, .int 0, .int 0])) := by rw [o5 x (Ne.symm n2), va_up_ne _ _ (Ne.symm n2)]; exact h4
  refine p_pf x5 (by simp) (fun M6 h6 o6 => ?_)
  have z0 : M6 q0 = some (.inr (5, [.ref e0, .int 0, .int 0])) := by rw [o6 q0 n0, o5 q0 (Ne.symm n20), va_up_ne _ _ (Ne.symm n20)]; exact y0
  have z1 : M6 q1 = some (.inr (5, [.ref e0, .int 0, .int 0])) := by rw [o6 q1 n1, o5 q1 (Ne.symm n21), va_up_ne _ _ (Ne.symm n21), o4 q1 n1]; exact h3
  have z2 : M6 q2 = some (.inr (5, [.ref e0, .int 0, .int 0])) := by rw [o6 q2 n2]; exact h5
  have m0 : M q0 = none := hq0
  have m1 : M q1 = none := by rw [o2 q1 n1, o1 q1 n10, va_up_ne _ _ n10] at hq1; exact hq1
  have m2 : M q2 = none := by rw [o4 q2 n2, o3 q2 n21, va_up_ne _ _ n21, o2 q2 n2, o1 q2 n20, va_up_ne _ _ n20] at hq2; exact hq2
  have ho : ∀ a, a ≠ x → a ≠ q0 → a ≠ q1 → a ≠ q2 → M6 a = M a := fun a e0 e1 e2 e3 => by
    rw [o6 a e0, o5 a e3, va_up_ne _ _ e3, o4 a e0, o3 a e2, va_up_ne _ _ e2, o2 a e0, o1 a e1, va_up_ne _ _ e1]
  have hus : ∀ k i, cUs C00 (Z00 x q0 q1 q2).2.1 k i → (k = 9 ∧ i = 0) ∨ (k = 0 ∧ i < 3) := fun k i hu => by
    unfold cUs at hu
    have e : ∀ i, (Z00 x q0 q1 q2).2.1 i = 0 := fun _ => rfl
    rw [cn_00, cn_00, cn_00, e] at hu
    omega
  refine hp M6 q0 q1 q2 ⟨⟨⟨fun k i hu => ?_, fun k i k' i' hu hu' hz => ?_, fun t ht => ?_⟩, fun a h1 h2 => ?_, fun k i hu => ?_⟩, rfl, fun t _ => rfl⟩
  · rcases hus k i hu with ⟨rfl, rfl⟩ | ⟨rfl, hi⟩
    · exact ⟨fun _ => h6, fun e => absurd e (by decide), fun e => absurd e (by decide), fun e => absurd e (by decide), fun e => absurd e (by decide), fun e => absurd e (by decide), fun e => absurd e (by decide), fun e => absurd e (by decide), fun e => absurd e (by decide), fun e => absurd e (by decide)⟩
    · refine ⟨fun e => absurd e (by decide), fun _ => ?_, fun e => absurd e (by decide), fun e => absurd e (by decide), fun e => absurd e (by decide), fun e => absurd e (by decide), fun e => absurd e (by decide), fun e => absurd e (by decide), fun e => absurd e (by decide), fun e => absurd e (by decide)⟩
      rcases (show i = 0 ∨ i = 1 ∨ i = 2 by omega) with rfl | rfl | rfl
      · exact z0
      · exact z1
      · exact z2
  · rcases hus k i hu with ⟨rfl, rfl⟩ | ⟨rfl, hi⟩ <;> rcases hus k' i' hu' with ⟨rfl, rfl⟩ | ⟨rfl, hi'⟩
    · exact ⟨rfl, rfl⟩
    · rcases (show i' = 0 ∨ i' = 1 ∨ i' = 2 by omega) with rfl | rfl | rfl <;> simp [Z00] at hz <;> omega
    · rcases (show i = 0 ∨ i = 1 ∨ i = 2 by omega) with rfl | rfl | rfl <;> simp [Z00] at hz <;> omega
    · rcases (show i = 0 ∨ i = 1 ∨ i = 2 by omega) with rfl | rfl | rfl <;> rcases (show i' = 0 ∨ i' = 1 ∨ i' = 2 by omega) with rfl | rfl | rfl <;> simp [Z00] at hz ⊢ <;> omega
  · exact ⟨by rw [cn_00]; decide, by rw [cn_00]; exact Nat.zero_le _, Nat.zero_le _, rfl⟩
  · refine ho a h2 (fun z => h1 (by rw [z]; exact m0)) (fun z => h1 (by rw [z]; exact m1)) (fun z => h1 (by rw [z]; exact m2))
  · rcases hus k i hu with ⟨rfl, rfl⟩ | ⟨rfl, hi⟩
    · exact Or.inl rfl
    · rcases (show i = 0 ∨ i = 1 ∨ i = 2 by omega) with rfl | rfl | rfl
      · exact Or.inr m0
      · exact Or.inr m1
      · exact Or.inr m2
