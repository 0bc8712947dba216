/-! The class: its memory C, of the same kind as the reference's: slot -> place -> value.
slots: 0 second, 1 late, 2 early, 3 second alarms; 4, 5, 6 how many groups, persons, alarms; 10..14 a group's fields; 20, 23..26 a person's, 21 kinds and 22 working (three places each); 30..34, 37 an alarm's, 35 reach and 36 said (sixty places each).
Addresses Z.1 kind place: 9 the object, 0 its three lists, 8 their arrays, 1 groups, 2 persons, 3 their kinds, 4 their working, 5 alarms, 6 their reach, 7 their said. Z.2.1: what the lists' arrays hold at most (0: the shared empty one). -/
abbrev Zc : Type := (Nat → Nat → Nat) × (Nat → Nat) × (Nat → Int32)
def cn (C : Sm) (t : Nat) : Nat := (C (4 + t) 0).toNatClampNeg
def cKt (t : Nat) : Nat := if t = 0 then 1 else if t = 1 then 2 else 5
def cUs (C : Sm) (cap : Nat → Nat) (k i : Nat) : Prop :=
  (k = 9 ∧ i = 0) ∨ (k = 0 ∧ i < 3) ∨ (k = 8 ∧ i < 3 ∧ 0 < cap i) ∨ (k = 1 ∧ i < cn C 0) ∨ ((k = 2 ∨ k = 3 ∨ k = 4) ∧ i < cn C 1) ∨ ((k = 5 ∨ k = 6 ∨ k = 7) ∧ i < cn C 2)
def cOk (e0 : Nat) (Z : Zc) (C : Sm) (M : zM) (k i : Nat) : Prop :=
  (k = 9 → M (Z.1 9 i) = some (.inr (0, [.ref (Z.1 0 0), .ref (Z.1 0 1), .ref (Z.1 0 2), .int (C 0 0), .int (C 1 0), .int (C 2 0), .int (C 3 0)]))) ∧
  (k = 0 → M (Z.1 0 i) = some (.inr (5, [.ref (if Z.2.1 i = 0 then e0 else Z.1 8 i), .int (C (4 + i) 0), .int (Z.2.2 i)]))) ∧
  (k = 8 → ∃ f : Nat → Option Nat, M (Z.1 8 i) = some (.inl (2, Z.2.1 i, .inr (.inr (.inr (.inr f))))) ∧ ∀ q, q < cn C i → f q = some (Z.1 (cKt i) q)) ∧
  (k = 1 → M (Z.1 1 i) = some (.inr (2, [.int (C 10 i), .int (C 11 i), .int (C 12 i), .int (C 13 i), .int (C 14 i)]))) ∧
  (k = 2 → M (Z.1 2 i) = some (.inr (3, [.int (C 20 i), .ref (Z.1 3 i), .ref (Z.1 4 i), .int (C 23 i), .int (C 24 i), .int (C 25 i), .int (C 26 i)]))) ∧
  (k = 3 → ∃ f : Nat → Int32, M (Z.1 3 i) = some (.inl (0, 3, .inl f)) ∧ ∀ q, q < 3 → f q = C 21 (3 * i + q)) ∧
  (k = 4 → ∃ f : Nat → Int32, M (Z.1 4 i) = some (.inl (1, 3, .inl f)) ∧ ∀ q, q < 3 → f q = C 22 (3 * i + q)) ∧
  (k = 5 → M (Z.1 5 i) = some (.inr (1, [.int (C 30 i), .int (C 31 i), .int (C 32 i), .int (C 33 i), .int (C 34 i), .ref (Z.1 6 i), .ref (Z.1 7 i), .int (C 37 i)]))) ∧
  (k = 6 → ∃ f : Nat → Int32, M (Z.1 6 i) = some (.inl (0, 60, .inl f)) ∧ ∀ q, q < 60 → f q = C 35 (60 * i + q)) ∧
  (k = 7 → ∃ f : Nat → Int32, M (Z.1 7 i) = some (.inl (0, 60, .inl f)) ∧ ∀ q, q < 60 → f q = C 36 (60 * i + q))
def RC (e0 : Nat) (M : zM) (Z : Zc) (C : Sm) : Prop :=
  (∀ k i, cUs C Z.2.1 k i → cOk e0 Z C M k i) ∧ (∀ k i k' i', cUs C Z.2.1 k i → cUs C Z.2.1 k' i' → Z.1 k i = Z.1 k' i' → k = k' ∧ i = i') ∧
  (∀ t, t < 3 → cn C t ≤ 60 ∧ cn C t ≤ Z.2.1 t ∧ Z.2.1 t ≤ 109 ∧ C (4 + t) 0 = nI (cn C t))
/-- own: what it held when the call began; every other cell of M0 is as it was -/
def RCf (e0 : Nat) (M0 : zM) (own : Nat → Prop) (M : zM) (Z : Zc) (C : Sm) : Prop :=
  RC e0 M Z C ∧ (∀ a, M0 a ≠ none → ¬ own a → M a = M0 a) ∧ ∀ k i, cUs C Z.2.1 k i → own (Z.1 k i) ∨ M0 (Z.1 k i) = none
section RCS
variable {e0 : Nat} {M0 M : zM} {own : Nat → Prop} {Z : Zc} {C C' : Sm}
theorem cOk_kept {M1 : zM} {k i : Nat} (hk : M1 (Z.1 k i) = M (Z.1 k i)) (h : cOk e0 Z C M k i) : cOk e0 Z C M1 k i := by
  obtain ⟨h9, h0, h8, h1, h2, h3, h4, h5, h6, h7⟩ := h
  refine ⟨fun e => ?_, fun e => ?_, fun e => ?_, fun e => ?_, fun e => ?_, fun e => ?_, fun e => ?_, fun e => ?_, fun e => ?_, fun e => ?_⟩ <;> (have e9 := e; subst e9; rw [hk])
  · exact h9 rfl
  · exact h0 rfl
  · exact h8 rfl
  · exact h1 rfl
  · exact h2 rfl
  · exact h3 rfl
  · exact h4 rfl
  · exact h5 rfl
  · exact h6 rfl
  · exact h7 rfl
/-- one cell, and one slot at one place, change -/
theorem rc_upd (h : RCf e0 M0 own M Z C) {k0 i0 : Nat} (hu : cUs C Z.2.1 k0 i0) {e : zE} (hn : ∀ t, t < 3 → C' (4 + t) 0 = C (4 + t) 0) (ho : cOk e0 Z C' (va_up M (Z.1 k0 i0) (some e)) k0 i0)
    (hs : ∀ k i, cUs C Z.2.1 k i → ¬ (k = k0 ∧ i = i0) → cOk e0 Z C M k i → cOk e0 Z C' M k i) : RCf e0 M0 own (va_up M (Z.1 k0 i0) (some e)) Z C' := by
  obtain ⟨⟨h1, h2, h3⟩, h4, h5⟩ := h
  have hc : ∀ t, t < 3 → cn C' t = cn C t := fun t ht => by unfold cn; rw [hn t ht]
  have hus : ∀ k i, cUs C' Z.2.1 k i → cUs C Z.2.1 k i := fun k i q => by
    unfold cUs at q ⊢
    rw [hc 0 (by decide), hc 1 (by decide), hc 2 (by decide)] at q
    exact q
  refine ⟨⟨fun k i q => ?_, fun k i k' i' q q' => h2 k i k' i' (hus _ _ q) (hus _ _ q'), fun t ht => ?_⟩, fun a h6 h7 => ?_, fun k i q => h5 k i (hus _ _ q)⟩
  · by_cases hq : k = k0 ∧ i = i0
    · obtain ⟨rfl, rfl⟩ := hq; exact ho
    · refine cOk_kept (M := M) ?_ (hs k i (hus _ _ q) hq (h1 k i (hus _ _ q)))
      exact va_up_ne _ _ (fun z => hq (h2 _ _ _ _ (hus _ _ q) hu z))
  · rw [hc t ht, hn t ht]; exact h3 t ht
  · by_cases z : a = Z.1 k0 i0
    · subst z
      rcases h5 k0 i0 hu with q | q
      · exact absurd q h7
      · exact absurd q h6
    · rw [va_up_ne _ _ z]; exact h4 a h6 h7
theorem su_v (C : Sm) (s p : Nat) (v : Int32) (s' p' : Nat) : su C s p v s' p' = if s' = s ∧ p' = p then v else C s' p' := by
  unfold su va_up upd
  by_cases h1 : s' = s
  · subst h1
    by_cases h2 : p' = p
    · simp [h2]
    · simp [h2]
  · simp [h1]
theorem su_o {C : Sm} {s p : Nat} {v : Int32} {s' p' : Nat} (h : s' ≠ s ∨ p' ≠ p) : su C s p v s' p' = C s' p' := by
  rw [su_v, if_neg]
  rintro ⟨a, b⟩
  rcases h with h | h
  · exact h a
  · exact h b
theorem su_s {C : Sm} {s p : Nat} {v : Int32} : su C s p v s p = v := by rw [su_v, if_pos ⟨rfl, rfl⟩]
end RCS
