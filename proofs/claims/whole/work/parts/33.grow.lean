/-! One more object in a list: the class's memory grows. -/
def nK (t k : Nat) : Prop := (t = 0 ∧ k = 1) ∨ (t = 1 ∧ (k = 2 ∨ k = 3 ∨ k = 4)) ∨ (t = 2 ∧ (k = 5 ∨ k = 6 ∨ k = 7))
/-- the addresses behind it: the new object's (na), the list's array -/
def zGr (Z : Zc) (t n ea' cap' : Nat) (na : Nat → Nat) : Zc :=
  (fun k i => if k = 8 ∧ i = t then ea' else if i = n ∧ ((t = 0 ∧ k = 1) ∨ (t = 1 ∧ (k = 2 ∨ k = 3 ∨ k = 4)) ∨ (t = 2 ∧ (k = 5 ∨ k = 6 ∨ k = 7))) then na k else Z.1 k i, fun i => if i = t then cap' else Z.2.1 i, fun i => if i = t then Z.2.2 i + 1 else Z.2.2 i)
section GR
variable {e0 : Nat} {M0 M M' : zM} {own : Nat → Prop} {Z : Zc} {C C' : Sm} {x : Nat} {nn : Nat → Nat} {t ea' cap' : Nat} {na : Nat → Nat}
theorem zGr_old {n k i : Nat} (h1 : ¬ (k = 8 ∧ i = t)) (h2 : ¬ (i = n ∧ nK t k)) : (zGr Z t n ea' cap' na).1 k i = Z.1 k i := by
  show (if k = 8 ∧ i = t then ea' else if i = n ∧ _ then na k else Z.1 k i) = _
  exact (if_neg h1).trans (if_neg h2)
theorem zGr_new {n k : Nat} (h : nK t k) : (zGr Z t n ea' cap' na).1 k n = na k := by
  show (if k = 8 ∧ n = t then ea' else if n = n ∧ _ then na k else Z.1 k n) = _
  exact (if_neg (by unfold nK at h; omega)).trans (if_pos ⟨rfl, h⟩)
theorem zGr_8 {n : Nat} : (zGr Z t n ea' cap' na).1 8 t = ea' := by
  show (if 8 = 8 ∧ t = t then ea' else _) = _
  rw [if_pos ⟨rfl, rfl⟩]
/-- an old cell, seen by the new addresses -/
theorem cOk_gr {n k i : Nat} (hn : ∀ t', t' < 3 → cn C t' = nn t') (ht : t < 3) (hnt : n = nn t) (hu : cUs C Z.2.1 k i) (h0 : ¬ (k = 0 ∧ i = t)) (h8 : ¬ (k = 8 ∧ i = t)) (hN : ¬ (i = n ∧ nK t k)) (h : cOk e0 Z C M k i) : cOk e0 (zGr Z t n ea' cap' na) C M k i := by
  have eo := zGr_old (Z := Z) (ea' := ea') (cap' := cap') (na := na) h8 hN
  have a0 := hn 0 (by decide)
  have a1 := hn 1 (by decide)
  have a2 := hn 2 (by decide)
  obtain ⟨h9, h0', h8', h1, h2, h3, h4, h5, h6, h7⟩ := h
  refine ⟨fun e => ?_, fun e => ?_, fun e => ?_, fun e => ?_, fun e => ?_, fun e => ?_, fun e => ?_, fun e => ?_, fun e => ?_, fun e => ?_⟩ <;> (have e9 := e; subst e9; rw [eo])
  · rw [zGr_old (by omega) (by unfold nK; omega), zGr_old (by omega) (by unfold nK; omega), zGr_old (by omega) (by unfold nK; omega)]; exact h9 rfl
  · have hi : i ≠ t := fun z => h0 ⟨rfl, z⟩
    have e1 : (zGr Z t n ea' cap' na).2.1 i = Z.2.1 i := if_neg hi
    have e2 : (zGr Z t n ea' cap' na).2.2 i = Z.2.2 i := if_neg hi
    rw [e1, e2, zGr_old (by omega) (by unfold nK; omega)]; exact h0' rfl
  · have hi : i ≠ t := fun z => h8 ⟨rfl, z⟩
    have e1 : (zGr Z t n ea' cap' na).2.1 i = Z.2.1 i := if_neg hi
    obtain ⟨f, q1, q2⟩ := h8' rfl
    have hi3 : i < 3 := by unfold cUs at hu; omega
    refine ⟨f, by rw [e1]; exact q1, fun q hq => ?_⟩
    have hk : ¬ nK t (cKt i) := by
      unfold nK cKt
      rcases (show i = 0 ∨ i = 1 ∨ i = 2 by omega) with rfl | rfl | rfl <;> simp <;> omega
    rw [zGr_old (by unfold cKt; split <;> (try split) <;> omega) (fun z => hk z.2)]
    exact q2 q hq
  · exact h1 rfl
  · rw [zGr_old (k := 3) (by omega) (fun z => hN ⟨z.1, by unfold nK at z ⊢; omega⟩), zGr_old (k := 4) (by omega) (fun z => hN ⟨z.1, by unfold nK at z ⊢; omega⟩)]; exact h2 rfl
  · exact h3 rfl
  · exact h4 rfl
  · rw [zGr_old (k := 6) (by omega) (fun z => hN ⟨z.1, by unfold nK at z ⊢; omega⟩), zGr_old (k := 7) (by omega) (fun z => hN ⟨z.1, by unfold nK at z ⊢; omega⟩)]; exact h5 rfl
  · exact h6 rfl
  · exact h7 rfl
theorem cOk_some {k i : Nat} (hu : cUs C Z.2.1 k i) (h : cOk e0 Z C M k i) : M (Z.1 k i) ≠ none := by
  obtain ⟨h9, h0', h8', h1, h2, h3, h4, h5, h6, h7⟩ := h
  have hk : k = 9 ∨ k = 0 ∨ k = 8 ∨ k = 1 ∨ k = 2 ∨ k = 3 ∨ k = 4 ∨ k = 5 ∨ k = 6 ∨ k = 7 := by unfold cUs at hu; omega
  rcases hk with rfl | rfl | rfl | rfl | rfl | rfl | rfl | rfl | rfl | rfl
  · rw [h9 rfl]; exact Option.some_ne_none _
  · rw [h0' rfl]; exact Option.some_ne_none _
  · obtain ⟨f, q1, -⟩ := h8' rfl; rw [q1]; exact Option.some_ne_none _
  · rw [h1 rfl]; exact Option.some_ne_none _
  · rw [h2 rfl]; exact Option.some_ne_none _
  · obtain ⟨f, q1, -⟩ := h3 rfl; rw [q1]; exact Option.some_ne_none _
  · obtain ⟨f, q1, -⟩ := h4 rfl; rw [q1]; exact Option.some_ne_none _
  · rw [h5 rfl]; exact Option.some_ne_none _
  · obtain ⟨f, q1, -⟩ := h6 rfl; rw [q1]; exact Option.some_ne_none _
  · obtain ⟨f, q1, -⟩ := h7 rfl; rw [q1]; exact Option.some_ne_none _
theorem nK_kt {t : Nat} (ht : t < 3) : nK t (cKt t) := by
  unfold nK cKt
  rcases (show t = 0 ∨ t = 1 ∨ t = 2 by omega) with rfl | rfl | rfl <;> simp
/-- what is used behind it -/
theorem cUs_gr {n k i : Nat} (ht : t < 3) (hn : ∀ t', t' < 3 → cn C t' = nn t') (hnt : n = nn t) (h1 : cn C' t = n + 1) (h2 : ∀ t', t' < 3 → t' ≠ t → cn C' t' = nn t') (hu : cUs C' (zGr Z t n ea' cap' na).2.1 k i) : (k = 8 ∧ i = t) ∨ (i = n ∧ nK t k) ∨ (cUs C Z.2.1 k i ∧ ¬ (k = 8 ∧ i = t) ∧ ¬ (i = n ∧ nK t k)) := by
  have a0 := hn 0 (by decide)
  have a1 := hn 1 (by decide)
  have a2 := hn 2 (by decide)
  by_cases h8 : k = 8 ∧ i = t
  · exact Or.inl h8
  by_cases hN : i = n ∧ nK t k
  · exact Or.inr (Or.inl hN)
  refine Or.inr (Or.inr ⟨?_, h8, hN⟩)
  have ec : i ≠ t → (zGr Z t n ea' cap' na).2.1 i = Z.2.1 i := fun z => if_neg z
  unfold nK at hN
  unfold cUs at hu ⊢
  rcases (show t = 0 ∨ t = 1 ∨ t = 2 by omega) with rfl | rfl | rfl
  · have b1 := h2 1 (by decide) (by decide)
    have b2 := h2 2 (by decide) (by decide)
    rw [h1, b1, b2] at hu
    rw [a0, a1, a2]
    rcases hu with hu | hu | hu | hu | hu | hu
    · exact Or.inl hu
    · exact Or.inr (Or.inl hu)
    · exact Or.inr (Or.inr (Or.inl ⟨hu.1, hu.2.1, by rw [← ec (by omega)]; exact hu.2.2⟩))
    · exact Or.inr (Or.inr (Or.inr (Or.inl ⟨hu.1, by omega⟩)))
    · exact Or.inr (Or.inr (Or.inr (Or.inr (Or.inl hu))))
    · exact Or.inr (Or.inr (Or.inr (Or.inr (Or.inr hu))))
  · have b0 := h2 0 (by decide) (by decide)
    have b2 := h2 2 (by decide) (by decide)
    rw [h1, b0, b2] at hu
    rw [a0, a1, a2]
    rcases hu with hu | hu | hu | hu | hu | hu
    · exact Or.inl hu
    · exact Or.inr (Or.inl hu)
    · exact Or.inr (Or.inr (Or.inl ⟨hu.1, hu.2.1, by rw [← ec (by omega)]; exact hu.2.2⟩))
    · exact Or.inr (Or.inr (Or.inr (Or.inl hu)))
    · exact Or.inr (Or.inr (Or.inr (Or.inr (Or.inl ⟨hu.1, by omega⟩))))
    · exact Or.inr (Or.inr (Or.inr (Or.inr (Or.inr hu))))
  · have b0 := h2 0 (by decide) (by decide)
    have b1 := h2 1 (by decide) (by decide)
    rw [h1, b0, b1] at hu
    rw [a0, a1, a2]
    rcases hu with hu | hu | hu | hu | hu | hu
    · exact Or.inl hu
    · exact Or.inr (Or.inl hu)
    · exact Or.inr (Or.inr (Or.inl ⟨hu.1, hu.2.1, by rw [← ec (by omega)]; exact hu.2.2⟩))
    · exact Or.inr (Or.inr (Or.inr (Or.inl hu)))
    · exact Or.inr (Or.inr (Or.inr (Or.inr (Or.inl hu))))
    · exact Or.inr (Or.inr (Or.inr (Or.inr (Or.inr ⟨hu.1, by omega⟩))))
set_option maxHeartbeats 2000000 in
theorem rc_grow (h : RCx e0 M0 own M Z C x nn) (ht : t < 3) (hn60 : nn t < 60) {f : Nat → Option Nat} (hf : 0 < Z.2.1 t → ∀ q, q < nn t → f q = some (Z.1 (cKt t) q))
    (hy : yAdd M M' (Z.1 0 t) (if Z.2.1 t = 0 then e0 else Z.1 8 t) (nn t) (Z.2.1 t) f (Z.2.2 t) (na (cKt t))) (hC0 : C' (4 + t) 0 = nI (nn t + 1)) (hC : ∀ k i s p, cUs C Z.2.1 k i → cDep k i s p → ¬ (s = 4 + t ∧ p = 0) → C' s p = C s p)
    (hF : ∀ k, nK t k → ∀ k' i', cUs C Z.2.1 k' i' → na k ≠ Z.1 k' i') (hI : ∀ k k', nK t k → nK t k' → na k = na k' → k = k') (hM : ∀ k, nK t k → M (na k) ≠ none) (hO : ∀ k, nK t k → own (na k) ∨ M0 (na k) = none)
    (hN : ∀ ea' cap' k, nK t k → cOk e0 (zGr Z t (nn t) ea' cap' na) C' M k (nn t)) : ∃ Z', RCx e0 M0 own M' Z' C' x (fun i => if i = t then nn t + 1 else nn i) := by
  obtain ⟨ea', cap', f', y1, y2, y3, y4, y5, y6, y7, y8, y9⟩ := hy
  obtain ⟨⟨⟨r1, r2, r3⟩, r4, r5⟩, hx, hn⟩ := h
  have hct : cn C' t = nn t + 1 := by unfold cn; rw [hC0, nI_clamp (by omega)]
  have hco : ∀ t', t' < 3 → t' ≠ t → cn C' t' = nn t' := fun t' h1 h2 => by
    rw [← hn t' h1]; unfold cn
    rw [hC 0 t' (4 + t') 0 (us0 h1) (Or.inr (Or.inl ⟨rfl, rfl, rfl⟩)) (by omega)]
  have hcap : (if Z.2.1 t = 0 then e0 else Z.1 8 t) = ea' ∧ 0 < Z.2.1 t → ea' = Z.1 8 t := fun z => by rw [if_neg (by omega)] at z; exact z.1.symm
  have us8 : 0 < Z.2.1 t → cUs C Z.2.1 8 t := fun z => Or.inr (Or.inr (Or.inl ⟨rfl, ht, z⟩))
  have hne : ∀ k i, cUs C Z.2.1 k i → ¬ (k = 8 ∧ i = t) → Z.1 k i ≠ ea' := fun k i hu h8 z => by
    rcases y7 with y7 | y7
    · have e1 := hcap ⟨y7.1.symm, y7.2⟩
      exact h8 (r2 k i 8 t hu (us8 y7.2) (z.trans e1))
    · rw [← z] at y7; exact cOk_some hu (r1 k i hu) y7
  have hnl : ∀ k i, cUs C Z.2.1 k i → ¬ (k = 0 ∧ i = t) → Z.1 k i ≠ Z.1 0 t := fun k i hu h0 z => h0 (r2 k i 0 t hu (us0 ht) z)
  have hae : ∀ k, nK t k → na k ≠ ea' := fun k hk z => by
    rcases y7 with y7 | y7
    · have e1 := hcap ⟨y7.1.symm, y7.2⟩
      exact hF k hk 8 t (us8 y7.2) (z.trans e1)
    · rw [← z] at y7; exact hM k hk y7
  have oe : own ea' ∨ M0 ea' = none := by
    rcases y7 with y7 | y7
    · have e1 := hcap ⟨y7.1.symm, y7.2⟩
      rw [e1]; exact r5 8 t (us8 y7.2)
    · by_cases q1 : M0 ea' = none
      · exact Or.inr q1
      · by_cases q2 : own ea'
        · exact Or.inl q2
        · rw [r4 ea' q1 q2] at y7; exact absurd y7 q1
  refine ⟨zGr Z t (nn t) ea' cap' na, ⟨⟨fun k i hu => ?_, fun k i k' i' hu hu' hq => ?_, fun t' ht' => ?_⟩, fun a h1 h2 => ?_, fun k i hu => ?_⟩, ?_, fun t' ht' => ?_⟩
  · rcases cUs_gr ht hn rfl hct hco hu with ⟨rfl, rfl⟩ | ⟨rfl, hk⟩ | ⟨hu0, h8, hN0⟩
    · refine ⟨fun e => absurd e (by decide), fun e => absurd e (by decide), fun _ => ⟨f', ?_, fun q hq => ?_⟩, fun e => absurd e (by decide), fun e => absurd e (by decide), fun e => absurd e (by decide), fun e => absurd e (by decide), fun e => absurd e (by decide), fun e => absurd e (by decide), fun e => absurd e (by decide)⟩
      · rw [zGr_8, y2]
        have ec : (zGr Z i (nn i) ea' cap' na).2.1 i = cap' := if_pos rfl
        rw [ec]
      · rw [hct] at hq
        by_cases z : q = nn i
        · subst z; rw [y6, zGr_new (nK_kt ht)]
        · have hlt : q < nn i := by omega
          have hcp : 0 < Z.2.1 i := by have := (r3 i ht).2.1; rw [hn i ht] at this; omega
          rw [y5 q hlt, hf hcp q hlt, zGr_old (by unfold cKt; split <;> (try split) <;> omega) (fun w => z w.1)]
    · refine cOk_kept (M := M) ?_ (hN ea' cap' k hk)
      rw [zGr_new hk]
      exact y9 _ (hF k hk 0 t (us0 ht)) (hae k hk)
    · by_cases h0 : k = 0 ∧ i = t
      · obtain ⟨rfl, rfl⟩ := h0
        refine ⟨fun e => absurd e (by decide), fun _ => ?_, fun e => absurd e (by decide), fun e => absurd e (by decide), fun e => absurd e (by decide), fun e => absurd e (by decide), fun e => absurd e (by decide), fun e => absurd e (by decide), fun e => absurd e (by decide), fun e => absurd e (by decide)⟩
        rw [zGr_old h8 hN0, zGr_8, y1, hC0]
        have ec : (zGr Z i (nn i) ea' cap' na).2.1 i = cap' := if_pos rfl
        have ed : (zGr Z i (nn i) ea' cap' na).2.2 i = Z.2.2 i + 1 := if_pos rfl
        rw [ec, ed, if_neg (by omega)]
      · refine cOk_dep (C := C) (fun s p hd => hC k i s p hu0 hd ?_) ?_
        · intro z
          rcases hd with hd | hd | hd | hd | hd | hd | hd | hd | hd | hd <;> omega
        · refine cOk_kept (M := M) ?_ (cOk_gr hn ht rfl hu0 h0 h8 hN0 (r1 k i hu0))
          rw [zGr_old h8 hN0]
          exact y9 _ (hnl k i hu0 h0) (hne k i hu0 h8)
  · rcases cUs_gr ht hn rfl hct hco hu with ⟨rfl, rfl⟩ | ⟨rfl, hk⟩ | ⟨hu0, h8, hN0⟩
    · rcases cUs_gr ht hn rfl hct hco hu' with ⟨rfl, rfl⟩ | ⟨rfl, hk'⟩ | ⟨hu0', h8', hN0'⟩
      · exact ⟨rfl, rfl⟩
      · rw [zGr_8, zGr_new hk'] at hq; exact absurd hq.symm (hae k' hk')
      · rw [zGr_8, zGr_old h8' hN0'] at hq; exact absurd hq.symm (hne k' i' hu0' h8')
    · rcases cUs_gr ht hn rfl hct hco hu' with ⟨rfl, rfl⟩ | ⟨rfl, hk'⟩ | ⟨hu0', h8', hN0'⟩
      · rw [zGr_8, zGr_new hk] at hq; exact absurd hq (hae k hk)
      · rw [zGr_new hk, zGr_new hk'] at hq; exact ⟨hI k k' hk hk' hq, rfl⟩
      · rw [zGr_new hk, zGr_old h8' hN0'] at hq; exact absurd hq (hF k hk k' i' hu0')
    · rcases cUs_gr ht hn rfl hct hco hu' with ⟨rfl, rfl⟩ | ⟨rfl, hk'⟩ | ⟨hu0', h8', hN0'⟩
      · rw [zGr_8, zGr_old h8 hN0] at hq; exact absurd hq (hne k i hu0 h8)
      · rw [zGr_new hk', zGr_old h8 hN0] at hq; exact absurd hq.symm (hF k' hk' k i hu0)
      · rw [zGr_old h8 hN0, zGr_old h8' hN0'] at hq; exact r2 k i k' i' hu0 hu0' hq
  · by_cases z : t' = t
    · subst z
      have ec : (zGr Z t' (nn t') ea' cap' na).2.1 t' = cap' := if_pos rfl
      rw [hct, ec, hC0]; exact ⟨by omega, y3, y4, rfl⟩
    · have ec : (zGr Z t (nn t) ea' cap' na).2.1 t' = Z.2.1 t' := if_neg z
      obtain ⟨q1, q2, q3, q4⟩ := r3 t' ht'
      rw [hn t' ht'] at q1 q2 q4
      rw [hco t' ht' z, ec, hC 0 t' (4 + t') 0 (us0 ht') (Or.inr (Or.inl ⟨rfl, rfl, rfl⟩)) (by omega)]; exact ⟨q1, q2, q3, q4⟩
  · have g1 : a ≠ Z.1 0 t := fun z => by
      rcases r5 0 t (us0 ht) with q | q
      · exact h2 (by rw [z]; exact q)
      · exact h1 (by rw [z]; exact q)
    have g2 : a ≠ ea' := fun z => by
      rcases oe with q | q
      · exact h2 (by rw [z]; exact q)
      · exact h1 (by rw [z]; exact q)
    rw [y9 a g1 g2]; exact r4 a h1 h2
  · rcases cUs_gr ht hn rfl hct hco hu with ⟨rfl, rfl⟩ | ⟨rfl, hk⟩ | ⟨hu0, h8, hN0⟩
    · rw [zGr_8]; exact oe
    · rw [zGr_new hk]; exact hO k hk
    · rw [zGr_old h8 hN0]; exact r5 k i hu0
  · rw [zGr_old (by omega) (by unfold nK; omega)]; exact hx
  · show cn C' t' = if t' = t then nn t + 1 else nn t'
    by_cases z : t' = t
    · subst z; rw [if_pos rfl]; exact hct
    · rw [if_neg z]; exact hco t' ht' z
end GR
