/-! Cells outside the class's memory; a new object comes into a list. -/
def cFr (M0 : zM) (own : Nat → Prop) (Z : Zc) (C : Sm) (q : Nat) : Prop := (∀ k i, cUs C Z.2.1 k i → Z.1 k i ≠ q) ∧ (own q ∨ M0 q = none)
theorem p_pf {M : zM} {q ci k : Nat} {fs : List Value} {v : Value} {K : zM → Prop} (h : M q = some (.inr (ci, fs))) (hk : k < fs.length) (hK : ∀ M', M' q = some (.inr (ci, fs.set k v)) → (∀ a, a ≠ q → M' a = M a) → K M') : wPF M q ci k v K :=
  ⟨fs, h, hk, hK _ (va_up_self _ _ _) (fun _ ha => va_up_ne _ _ ha)⟩
theorem p_fill {e0 : Nat} {post : zM → Prop} {M : zM} {a n : Nat} {f : Nat → Int32} {v : Int32} (hM : M a = some (.inl (0, n, .inl f))) (hn : n < 2 ^ 31) (hp : ∀ (g : Nat → Int32) (M' : zM), M' a = some (.inl (0, n, .inl g)) → (∀ i, i < n → g i = v) → (∀ b, b ≠ a → M' b = M b) → post M') : w_YA_fill e0 post M a v := by
  refine ⟨_, _, hM, rfl, ?_⟩
  have key : ∀ d i (M1 : zM) (g : Nat → Int32), d + i = n → M1 a = some (.inl (0, n, .inl g)) → (∀ j, j < i → g j = v) → (∀ b, b ≠ a → M1 b = M b) → w_YA_fill_j5 e0 post (d + 1) M1 a v (nI i) (nI n) := by
    intro d
    induction d with
    | zero =>
      intro i M1 g e h1 h2 h3
      have e2 : i = n := by omega
      subst e2
      exact ⟨fun _ => hp g M1 h1 h2 h3, fun z => absurd (nI_le (Nat.le_refl _) hn) z⟩
    | succ d ih =>
      intro i M1 g e h1 h2 h3
      refine ⟨fun z => absurd z (nI_ge (by omega) hn), fun _ => ⟨n, g, h1, vp_in_nI (by omega) hn, ?_⟩⟩
      rw [nI_clamp (by omega), nI_1]
      refine ih (i + 1) _ (upd g i v) (by omega) (va_up_self _ _ _) (fun j hj => ?_) (fun b hb => by rw [va_up_ne _ _ hb]; exact h3 b hb)
      by_cases z : j = i
      · subst z; exact pk_us
      · rw [pk_un z]; exact h2 j (by omega)
  have k0 := key n 0 M f (by omega) hM (fun j hj => absurd hj (Nat.not_lt_zero _)) (fun _ _ => rfl)
  rw [nI_0] at k0
  exact ⟨n + 1, k0⟩
section FR
variable {e0 : Nat} {M0 M : zM} {own : Nat → Prop} {Z : Zc} {C C' : Sm} {x : Nat} {nn : Nat → Nat} {t : Nat} {na : Nat → Nat}
theorem cx_fr (h : RCx e0 M0 own M Z C x nn) {q : Nat} (hq : M q = none) : cFr M0 own Z C q := by
  refine ⟨fun k i hu z => ?_, ?_⟩
  · exact cOk_some hu (h.1.1.1 k i hu) (by rw [z]; exact hq)
  · by_cases q1 : M0 q = none
    · exact Or.inr q1
    · by_cases q2 : own q
      · exact Or.inl q2
      · rw [h.1.2.1 q q1 q2] at hq; exact absurd hq q1
theorem cx_at (h : RCx e0 M0 own M Z C x nn) {M' : zM} (P : Nat → Prop) (hP : ∀ q, P q → cFr M0 own Z C q) (hM : ∀ a, ¬ P a → M' a = M a) : RCx e0 M0 own M' Z C x nn := by
  obtain ⟨⟨⟨r1, r2, r3⟩, r4, r5⟩, hx, hn⟩ := h
  refine ⟨⟨⟨fun k i hu => cOk_kept (M := M) (hM _ (fun z => (hP _ z).1 k i hu rfl)) (r1 k i hu), r2, r3⟩, fun a h1 h2 => ?_, r5⟩, hx, hn⟩
  rw [hM a (fun z => (hP a z).2.elim h2 h1)]; exact r4 a h1 h2
theorem cx_el (h : RCx e0 M0 own M Z C x nn) (ht : t < 3) {q : Nat} (hq : q < nn t) : Z.1 (cKt t) q ≠ Z.1 0 t ∧ ∃ (ci : Nat) (fs : List Value), M (Z.1 (cKt t) q) = some (.inr (ci, fs)) ∧ 1 ≤ ci ∧ ci ≤ 3 := by
  have hu : cUs C Z.2.1 (cKt t) q := by
    rcases (show t = 0 ∨ t = 1 ∨ t = 2 by omega) with rfl | rfl | rfl
    · exact us1 h hq
    · exact us2 h hq 2 (by simp)
    · exact us5 h hq 5 (by simp)
  refine ⟨fun z => ?_, ?_⟩
  · have := h.1.1.2.1 _ _ _ _ hu (us0 ht) z
    unfold cKt at this
    revert this
    split <;> (try split) <;> omega
  · rcases (show t = 0 ∨ t = 1 ∨ t = 2 by omega) with rfl | rfl | rfl
    · exact ⟨2, _, cxG h hq, by decide, by decide⟩
    · exact ⟨3, _, cxP h hq, by decide, by decide⟩
    · exact ⟨1, _, cxA h hq, by decide, by decide⟩
theorem cx_add {post : Int32 → zM → Prop} {mc ms ob ci : Nat} {fs : List Value} (h : RCx e0 M0 own M Z C x nn) (ht : t < 3) (hn60 : nn t < 60) (hob : M ob = some (.inr (ci, fs))) (hci : 1 ≤ ci ∧ ci ≤ 3) (hfr : ∀ k, nK t k → cFr M0 own Z C (na k)) (hob' : na (cKt t) = ob) (hmc : 1 ≤ mc) (hms : 100 ≤ ms)
    (hM : ∀ k, nK t k → M (na k) ≠ none) (hI : ∀ k k', nK t k → nK t k' → na k = na k' → k = k') (hC0 : C' (4 + t) 0 = nI (nn t + 1)) (hC : ∀ k i s p, cUs C Z.2.1 k i → cDep k i s p → ¬ (s = 4 + t ∧ p = 0) → C' s p = C s p)
    (hN : ∀ ea' cap' k, nK t k → cOk e0 (zGr Z t (nn t) ea' cap' na) C' M k (nn t)) (hp : ∀ M' Z', RCx e0 M0 own M' Z' C' x (fun i => if i = t then nn t + 1 else nn i) → post 1 M') : w_Y_add1 e0 post mc ms M (Z.1 0 t) ob := by
  have hf0 := hfr (cKt t) (nK_kt ht)
  rw [hob'] at hf0
  obtain ⟨b1, b2, b3, b4⟩ := h.1.1.2.2 t ht
  have hc := h.2.2 t ht
  rw [hc] at b1 b2 b4
  have hl := cxL h ht
  rw [b4] at hl
  by_cases hz : Z.2.1 t = 0
  · refine p_add (cap := Z.2.1 t) (f := fun _ => none) hl (Or.inl ⟨by omega, if_pos hz⟩) hn60 hob hci (fun z => hf0.1 0 t (us0 ht) z.symm) hmc hms (fun M' hy => ?_)
    obtain ⟨Z', hR⟩ := rc_grow (na := na) (C' := C') h ht hn60 (f := fun _ => none) (fun z => absurd z (by omega)) (by rw [hob']; exact hy) hC0 hC (fun k hk k' i' hu z => (hfr k hk).1 k' i' hu z.symm) hI hM (fun k hk => (hfr k hk).2) hN
    exact hp M' Z' hR
  · have hu8 : cUs C Z.2.1 8 t := Or.inr (Or.inr (Or.inl ⟨rfl, ht, by omega⟩))
    obtain ⟨f, a1, a2⟩ := (h.1.1.1 8 t hu8).2.2.1 rfl
    rw [hc] at a2
    refine p_add (cap := Z.2.1 t) (f := f) hl (Or.inr ?_) hn60 hob hci (fun z => hf0.1 0 t (us0 ht) z.symm) hmc hms (fun M' hy => ?_)
    · rw [if_neg hz]
      refine ⟨a1, b2, b3, by omega, fun z => ?_, fun z => hf0.1 8 t hu8 z.symm, fun q hq y hy => ?_⟩
      · have := h.1.1.2.1 _ _ _ _ hu8 (us0 ht) z
        omega
      · rw [a2 q hq] at hy
        cases hy
        exact cx_el h ht hq
    · obtain ⟨Z', hR⟩ := rc_grow (na := na) (C' := C') h ht hn60 (f := f) (fun _ q hq => a2 q hq) (by rw [hob']; exact hy) hC0 hC (fun k hk k' i' hu z => (hfr k hk).1 k' i' hu z.symm) hI hM (fun k hk => (hfr k hk).2) hN
      exact hp M' Z' hR
end FR
