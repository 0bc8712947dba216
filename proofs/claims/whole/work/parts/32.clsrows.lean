/-! Reads and writes of the class's memory. nn: how many groups, persons, alarms there are. -/
def RCx (e0 : Nat) (M0 : zM) (own : Nat → Prop) (M : zM) (Z : Zc) (C : Sm) (x : Nat) (nn : Nat → Nat) : Prop := RCf e0 M0 own M Z C ∧ Z.1 9 0 = x ∧ ∀ t, t < 3 → cn C t = nn t
/-- what a cell's content hangs on -/
def cDep (k i s p : Nat) : Prop :=
  (k = 9 ∧ s < 4 ∧ p = 0) ∨ (k = 0 ∧ s = 4 + i ∧ p = 0) ∨ (k = 8 ∧ s = 4 + i ∧ p = 0) ∨ (k = 1 ∧ 10 ≤ s ∧ s ≤ 14 ∧ p = i) ∨ (k = 2 ∧ 20 ≤ s ∧ s ≤ 26 ∧ s ≠ 21 ∧ s ≠ 22 ∧ p = i) ∨ (k = 3 ∧ s = 21 ∧ 3 * i ≤ p ∧ p < 3 * i + 3) ∨ (k = 4 ∧ s = 22 ∧ 3 * i ≤ p ∧ p < 3 * i + 3) ∨ (k = 5 ∧ 30 ≤ s ∧ s ≤ 37 ∧ s ≠ 35 ∧ s ≠ 36 ∧ p = i) ∨ (k = 6 ∧ s = 35 ∧ 60 * i ≤ p ∧ p < 60 * i + 60) ∨ (k = 7 ∧ s = 36 ∧ 60 * i ≤ p ∧ p < 60 * i + 60)
theorem cOk_dep {e0 : Nat} {Z : Zc} {C C' : Sm} {M : zM} {k i : Nat} (hd : ∀ s p, cDep k i s p → C' s p = C s p) (h : cOk e0 Z C M k i) : cOk e0 Z C' M k i := by
  obtain ⟨h9, h0, h8, h1, h2, h3, h4, h5, h6, h7⟩ := h
  refine ⟨fun e => ?_, fun e => ?_, fun e => ?_, fun e => ?_, fun e => ?_, fun e => ?_, fun e => ?_, fun e => ?_, fun e => ?_, fun e => ?_⟩
  · rw [hd 0 0 (Or.inl ⟨e, by decide, rfl⟩), hd 1 0 (Or.inl ⟨e, by decide, rfl⟩), hd 2 0 (Or.inl ⟨e, by decide, rfl⟩), hd 3 0 (Or.inl ⟨e, by decide, rfl⟩)]; exact h9 e
  · rw [hd (4 + i) 0 (Or.inr (Or.inl ⟨e, rfl, rfl⟩))]; exact h0 e
  · obtain ⟨f, a1, a2⟩ := h8 e
    refine ⟨f, a1, fun q hq => a2 q ?_⟩
    unfold cn at hq ⊢
    rw [hd (4 + i) 0 (Or.inr (Or.inr (Or.inl ⟨e, rfl, rfl⟩)))] at hq
    exact hq
  · rw [hd 10 i (Or.inr (Or.inr (Or.inr (Or.inl ⟨e, by decide, by decide, rfl⟩)))), hd 11 i (Or.inr (Or.inr (Or.inr (Or.inl ⟨e, by decide, by decide, rfl⟩)))), hd 12 i (Or.inr (Or.inr (Or.inr (Or.inl ⟨e, by decide, by decide, rfl⟩)))), hd 13 i (Or.inr (Or.inr (Or.inr (Or.inl ⟨e, by decide, by decide, rfl⟩)))), hd 14 i (Or.inr (Or.inr (Or.inr (Or.inl ⟨e, by decide, by decide, rfl⟩))))]; exact h1 e
  · rw [hd 20 i (Or.inr (Or.inr (Or.inr (Or.inr (Or.inl ⟨e, by decide, by decide, by decide, by decide, rfl⟩))))), hd 23 i (Or.inr (Or.inr (Or.inr (Or.inr (Or.inl ⟨e, by decide, by decide, by decide, by decide, rfl⟩))))), hd 24 i (Or.inr (Or.inr (Or.inr (Or.inr (Or.inl ⟨e, by decide, by decide, by decide, by decide, rfl⟩))))), hd 25 i (Or.inr (Or.inr (Or.inr (Or.inr (Or.inl ⟨e, by decide, by decide, by decide, by decide, rfl⟩))))), hd 26 i (Or.inr (Or.inr (Or.inr (Or.inr (Or.inl ⟨e, by decide, by decide, by decide, by decide, rfl⟩)))))]; exact h2 e
  · obtain ⟨f, a1, a2⟩ := h3 e
    exact ⟨f, a1, fun q hq => by rw [hd 21 (3 * i + q) (Or.inr (Or.inr (Or.inr (Or.inr (Or.inr (Or.inl ⟨e, rfl, by omega, by omega⟩))))))]; exact a2 q hq⟩
  · obtain ⟨f, a1, a2⟩ := h4 e
    exact ⟨f, a1, fun q hq => by rw [hd 22 (3 * i + q) (Or.inr (Or.inr (Or.inr (Or.inr (Or.inr (Or.inr (Or.inl ⟨e, rfl, by omega, by omega⟩)))))))]; exact a2 q hq⟩
  · rw [hd 30 i (Or.inr (Or.inr (Or.inr (Or.inr (Or.inr (Or.inr (Or.inr (Or.inl ⟨e, by decide, by decide, by decide, by decide, rfl⟩)))))))), hd 31 i (Or.inr (Or.inr (Or.inr (Or.inr (Or.inr (Or.inr (Or.inr (Or.inl ⟨e, by decide, by decide, by decide, by decide, rfl⟩)))))))), hd 32 i (Or.inr (Or.inr (Or.inr (Or.inr (Or.inr (Or.inr (Or.inr (Or.inl ⟨e, by decide, by decide, by decide, by decide, rfl⟩)))))))), hd 33 i (Or.inr (Or.inr (Or.inr (Or.inr (Or.inr (Or.inr (Or.inr (Or.inl ⟨e, by decide, by decide, by decide, by decide, rfl⟩)))))))), hd 34 i (Or.inr (Or.inr (Or.inr (Or.inr (Or.inr (Or.inr (Or.inr (Or.inl ⟨e, by decide, by decide, by decide, by decide, rfl⟩)))))))), hd 37 i (Or.inr (Or.inr (Or.inr (Or.inr (Or.inr (Or.inr (Or.inr (Or.inl ⟨e, by decide, by decide, by decide, by decide, rfl⟩))))))))]; exact h5 e
  · obtain ⟨f, a1, a2⟩ := h6 e
    exact ⟨f, a1, fun q hq => by rw [hd 35 (60 * i + q) (Or.inr (Or.inr (Or.inr (Or.inr (Or.inr (Or.inr (Or.inr (Or.inr (Or.inl ⟨e, rfl, by omega, by omega⟩)))))))))]; exact a2 q hq⟩
  · obtain ⟨f, a1, a2⟩ := h7 e
    exact ⟨f, a1, fun q hq => by rw [hd 36 (60 * i + q) (Or.inr (Or.inr (Or.inr (Or.inr (Or.inr (Or.inr (Or.inr (Or.inr (Or.inr (⟨e, rfl, by omega, by omega⟩))))))))))]; exact a2 q hq⟩
abbrev c9 (Z : Zc) (C : Sm) : List Value := [.ref (Z.1 0 0), .ref (Z.1 0 1), .ref (Z.1 0 2), .int (C 0 0), .int (C 1 0), .int (C 2 0), .int (C 3 0)]
abbrev cG (C : Sm) (i : Nat) : List Value := [.int (C 10 i), .int (C 11 i), .int (C 12 i), .int (C 13 i), .int (C 14 i)]
abbrev cP (Z : Zc) (C : Sm) (i : Nat) : List Value := [.int (C 20 i), .ref (Z.1 3 i), .ref (Z.1 4 i), .int (C 23 i), .int (C 24 i), .int (C 25 i), .int (C 26 i)]
abbrev cA (Z : Zc) (C : Sm) (i : Nat) : List Value := [.int (C 30 i), .int (C 31 i), .int (C 32 i), .int (C 33 i), .int (C 34 i), .ref (Z.1 6 i), .ref (Z.1 7 i), .int (C 37 i)]
section CX
variable {e0 : Nat} {M0 M : zM} {own : Nat → Prop} {Z : Zc} {C : Sm} {x : Nat} {nn : Nat → Nat} {i : Nat}
theorem us9 : cUs C Z.2.1 9 0 := Or.inl ⟨rfl, rfl⟩
theorem us0 {t : Nat} (ht : t < 3) : cUs C Z.2.1 0 t := Or.inr (Or.inl ⟨rfl, ht⟩)
theorem us1 (h : RCx e0 M0 own M Z C x nn) (hi : i < nn 0) : cUs C Z.2.1 1 i := Or.inr (Or.inr (Or.inr (Or.inl ⟨rfl, by rw [h.2.2 0 (by decide)]; exact hi⟩)))
theorem us2 (h : RCx e0 M0 own M Z C x nn) (hi : i < nn 1) (k : Nat) (hk : k = 2 ∨ k = 3 ∨ k = 4) : cUs C Z.2.1 k i := Or.inr (Or.inr (Or.inr (Or.inr (Or.inl ⟨hk, by rw [h.2.2 1 (by decide)]; exact hi⟩))))
theorem us5 (h : RCx e0 M0 own M Z C x nn) (hi : i < nn 2) (k : Nat) (hk : k = 5 ∨ k = 6 ∨ k = 7) : cUs C Z.2.1 k i := Or.inr (Or.inr (Or.inr (Or.inr (Or.inr ⟨hk, by rw [h.2.2 2 (by decide)]; exact hi⟩))))
theorem cx9 (h : RCx e0 M0 own M Z C x nn) : M x = some (.inr (0, c9 Z C)) := by
  have q := (h.1.1.1 9 0 us9).1 rfl
  rw [h.2.1] at q
  exact q
theorem cxL (h : RCx e0 M0 own M Z C x nn) {t : Nat} (ht : t < 3) : M (Z.1 0 t) = some (.inr (5, [.ref (if Z.2.1 t = 0 then e0 else Z.1 8 t), .int (C (4 + t) 0), .int (Z.2.2 t)])) := (h.1.1.1 0 t (us0 ht)).2.1 rfl
theorem cxG (h : RCx e0 M0 own M Z C x nn) (hi : i < nn 0) : M (Z.1 1 i) = some (.inr (2, cG C i)) := (h.1.1.1 1 i (us1 h hi)).2.2.2.1 rfl
theorem cxP (h : RCx e0 M0 own M Z C x nn) (hi : i < nn 1) : M (Z.1 2 i) = some (.inr (3, cP Z C i)) := (h.1.1.1 2 i (us2 h hi 2 (by simp))).2.2.2.2.1 rfl
theorem cxA (h : RCx e0 M0 own M Z C x nn) (hi : i < nn 2) : M (Z.1 5 i) = some (.inr (1, cA Z C i)) := (h.1.1.1 5 i (us5 h hi 5 (by simp))).2.2.2.2.2.2.2.1 rfl
theorem cx_is9 (h : RCx e0 M0 own M Z C x nn) : wIs M x 0 := ⟨_, cx9 h⟩
theorem cx_isL (h : RCx e0 M0 own M Z C x nn) {t : Nat} (ht : t < 3) : wIs M (Z.1 0 t) 5 := ⟨_, cxL h ht⟩
theorem cx_isG (h : RCx e0 M0 own M Z C x nn) (hi : i < nn 0) : wIs M (Z.1 1 i) 2 := ⟨_, cxG h hi⟩
theorem cx_isP (h : RCx e0 M0 own M Z C x nn) (hi : i < nn 1) : wIs M (Z.1 2 i) 3 := ⟨_, cxP h hi⟩
theorem cx_isA (h : RCx e0 M0 own M Z C x nn) (hi : i < nn 2) : wIs M (Z.1 5 i) 1 := ⟨_, cxA h hi⟩
theorem cx_gi9 (h : RCx e0 M0 own M Z C x nn) {k : Nat} {v : Int32} {K : Int32 → Prop} (hj : (c9 Z C)[k]? = some (.int v)) (hK : K v) : wGI M x 0 k K := ⟨_, _, cx9 h, hj, hK⟩
theorem cx_gr9 (h : RCx e0 M0 own M Z C x nn) {k v : Nat} {K : Nat → Prop} (hj : (c9 Z C)[k]? = some (.ref v)) (hK : K v) : wGR M x 0 k K := ⟨_, _, cx9 h, hj, hK⟩
theorem cx_giG (h : RCx e0 M0 own M Z C x nn) (hi : i < nn 0) {k : Nat} {v : Int32} {K : Int32 → Prop} (hj : (cG C i)[k]? = some (.int v)) (hK : K v) : wGI M (Z.1 1 i) 2 k K := ⟨_, _, cxG h hi, hj, hK⟩
theorem cx_giP (h : RCx e0 M0 own M Z C x nn) (hi : i < nn 1) {k : Nat} {v : Int32} {K : Int32 → Prop} (hj : (cP Z C i)[k]? = some (.int v)) (hK : K v) : wGI M (Z.1 2 i) 3 k K := ⟨_, _, cxP h hi, hj, hK⟩
theorem cx_grP (h : RCx e0 M0 own M Z C x nn) (hi : i < nn 1) {k v : Nat} {K : Nat → Prop} (hj : (cP Z C i)[k]? = some (.ref v)) (hK : K v) : wGR M (Z.1 2 i) 3 k K := ⟨_, _, cxP h hi, hj, hK⟩
theorem cx_giA (h : RCx e0 M0 own M Z C x nn) (hi : i < nn 2) {k : Nat} {v : Int32} {K : Int32 → Prop} (hj : (cA Z C i)[k]? = some (.int v)) (hK : K v) : wGI M (Z.1 5 i) 1 k K := ⟨_, _, cxA h hi, hj, hK⟩
theorem cx_grA (h : RCx e0 M0 own M Z C x nn) (hi : i < nn 2) {k v : Nat} {K : Nat → Prop} (hj : (cA Z C i)[k]? = some (.ref v)) (hK : K v) : wGR M (Z.1 5 i) 1 k K := ⟨_, _, cxA h hi, hj, hK⟩
theorem cx_size (h : RCx e0 M0 own M Z C x nn) {t : Nat} (ht : t < 3) {post : Int32 → zM → Prop} (hp : post (C (4 + t) 0) M) : w_Y_size e0 post M (Z.1 0 t) := p_size (cxL h ht) hp
theorem cx_get (h : RCx e0 M0 own M Z C x nn) {t : Nat} (ht : t < 3) {q : Int32} (hq : vp_in q (nn t)) {post : Option Nat → zM → Prop} (hp : post (some (Z.1 (cKt t) q.toNatClampNeg)) M) : w_Y_get e0 post M (Z.1 0 t) q := by
  have hlt := vp_in_lt hq
  obtain ⟨b1, b2, b3, b4⟩ := h.1.1.2.2 t ht
  have hc := h.2.2 t ht
  have hl := cxL h ht
  rw [if_neg (by omega), b4] at hl
  obtain ⟨f, a1, a2⟩ := (h.1.1.1 8 t (Or.inr (Or.inr (Or.inl ⟨rfl, ht, by omega⟩)))).2.2.1 rfl
  refine p_get hl a1 b2 (by omega) (by rw [hc]; exact hq) ?_
  rw [a2 _ (by rw [hc]; exact hlt)]
  exact hp
theorem cx_ld {K : Int32 → Prop} (h : RCx e0 M0 own M Z C x nn) (k k0 len s : Nat) (hu : cUs C Z.2.1 k i) (hk : (k = 3 ∧ k0 = 0 ∧ len = 3 ∧ s = 21) ∨ (k = 4 ∧ k0 = 1 ∧ len = 3 ∧ s = 22) ∨ (k = 6 ∧ k0 = 0 ∧ len = 60 ∧ s = 35) ∨ (k = 7 ∧ k0 = 0 ∧ len = 60 ∧ s = 36)) {q : Int32} (hq : vp_in q len) (hK : K (C s (len * i + q.toNatClampNeg))) : wLI M (Z.1 k i) k0 q K := by
  have hlt := vp_in_lt hq
  have ho := h.1.1.1 k i hu
  rcases hk with ⟨rfl, rfl, rfl, rfl⟩ | ⟨rfl, rfl, rfl, rfl⟩ | ⟨rfl, rfl, rfl, rfl⟩ | ⟨rfl, rfl, rfl, rfl⟩
  · obtain ⟨f, a1, a2⟩ := ho.2.2.2.2.2.1 rfl
    exact ⟨_, f, _, a1, hq, a2 _ hlt, hK⟩
  · obtain ⟨f, a1, a2⟩ := ho.2.2.2.2.2.2.1 rfl
    exact ⟨_, f, _, a1, hq, a2 _ hlt, hK⟩
  · obtain ⟨f, a1, a2⟩ := ho.2.2.2.2.2.2.2.2.1 rfl
    exact ⟨_, f, _, a1, hq, a2 _ hlt, hK⟩
  · obtain ⟨f, a1, a2⟩ := ho.2.2.2.2.2.2.2.2.2 rfl
    exact ⟨_, f, _, a1, hq, a2 _ hlt, hK⟩
theorem cx_alen {K : Int32 → Prop} (h : RCx e0 M0 own M Z C x nn) (hi : i < nn 2) (k : Nat) (hk : k = 6 ∨ k = 7) (hK : K 60) : wAL M (Z.1 k i) 0 K := by
  have ho := h.1.1.1 k i (us5 h hi k (Or.inr hk))
  rcases hk with rfl | rfl
  · obtain ⟨f, a1, -⟩ := ho.2.2.2.2.2.2.2.2.1 rfl
    exact ⟨_, _, a1, rfl, hK⟩
  · obtain ⟨f, a1, -⟩ := ho.2.2.2.2.2.2.2.2.2 rfl
    exact ⟨_, _, a1, rfl, hK⟩
/-- a write: slot s at place p, of the cell of kind k0 at i0 -/
theorem cx_w (h : RCx e0 M0 own M Z C x nn) {k0 i0 s p : Nat} {v : Int32} {e : zE} (hu : cUs C Z.2.1 k0 i0) (hd : ∀ k i, ((k = 9 → i = 0) ∧ (k = 0 ∨ k = 8 → i < 3)) → ¬ (k = k0 ∧ i = i0) → ¬ cDep k i s p) (hs : s < 4 ∨ 6 < s) (ho : cOk e0 Z (su C s p v) (va_up M (Z.1 k0 i0) (some e)) k0 i0) : RCx e0 M0 own (va_up M (Z.1 k0 i0) (some e)) Z (su C s p v) x nn := by
  have hn : ∀ t, t < 3 → su C s p v (4 + t) 0 = C (4 + t) 0 := fun t ht => su_o (Or.inl (by omega))
  refine ⟨rc_upd h.1 hu hn ho (fun k i hu9 hne hk => cOk_dep (fun s' p' hd' => su_o ?_) hk), h.2.1, fun t ht => ?_⟩
  · by_cases q : s' = s
    · refine Or.inr (fun z => ?_)
      subst q; subst z
      exact hd k i ⟨fun e => by unfold cUs at hu9; omega, fun e => by unfold cUs at hu9; omega⟩ hne hd'
    · exact Or.inl q
  · rw [← h.2.2 t ht]; unfold cn; rw [hn t ht]
theorem cx_p9 (h : RCx e0 M0 own M Z C x nn) {k : Nat} (hk : 3 ≤ k ∧ k < 7) {v : Int32} {K : zM → Prop} (hK : ∀ M', RCx e0 M0 own M' Z (su C (k - 3) 0 v) x nn → K M') : wPF M x 0 k (.int v) K := by
  have hx := h.2.1
  subst hx
  refine ⟨_, cx9 h, by simp only [List.length]; omega, hK _ ?_⟩
  refine cx_w (s := k - 3) (p := 0) (v := v) h us9 (fun k' i' h9 hne hd => by rcases hd with hd | hd | hd | hd | hd | hd | hd | hd | hd | hd <;> omega) (by omega) ⟨fun _ => ?_, fun e => absurd e (by decide), fun e => absurd e (by decide), fun e => absurd e (by decide), fun e => absurd e (by decide), fun e => absurd e (by decide), fun e => absurd e (by decide), fun e => absurd e (by decide), fun e => absurd e (by decide), fun e => absurd e (by decide)⟩
  rw [va_up_self]
  rcases (show k = 3 ∨ k = 4 ∨ k = 5 ∨ k = 6 by omega) with rfl | rfl | rfl | rfl <;> simp [su_v]
theorem cx_pG (h : RCx e0 M0 own M Z C x nn) (hi : i < nn 0) {k : Nat} (hk : 2 ≤ k ∧ k < 5) {v : Int32} {K : zM → Prop} (hK : ∀ M', RCx e0 M0 own M' Z (su C (10 + k) i v) x nn → K M') : wPF M (Z.1 1 i) 2 k (.int v) K := by
  refine ⟨_, cxG h hi, by simp only [List.length]; omega, hK _ ?_⟩
  refine cx_w (s := 10 + k) (p := i) (v := v) h (us1 h hi) (fun k' i' h9 hne hd => by rcases hd with hd | hd | hd | hd | hd | hd | hd | hd | hd | hd <;> omega) (by omega) ⟨fun e => absurd e (by decide), fun e => absurd e (by decide), fun e => absurd e (by decide), fun _ => ?_, fun e => absurd e (by decide), fun e => absurd e (by decide), fun e => absurd e (by decide), fun e => absurd e (by decide), fun e => absurd e (by decide), fun e => absurd e (by decide)⟩
  rw [va_up_self]
  rcases (show k = 2 ∨ k = 3 ∨ k = 4 by omega) with rfl | rfl | rfl <;> simp [su_v]
theorem cx_pP (h : RCx e0 M0 own M Z C x nn) (hi : i < nn 1) {k : Nat} (hk : 3 ≤ k ∧ k < 7) {v : Int32} {K : zM → Prop} (hK : ∀ M', RCx e0 M0 own M' Z (su C (20 + k) i v) x nn → K M') : wPF M (Z.1 2 i) 3 k (.int v) K := by
  refine ⟨_, cxP h hi, by simp only [List.length]; omega, hK _ ?_⟩
  refine cx_w (s := 20 + k) (p := i) (v := v) h (us2 h hi 2 (by simp)) (fun k' i' h9 hne hd => by rcases hd with hd | hd | hd | hd | hd | hd | hd | hd | hd | hd <;> omega) (by omega) ⟨fun e => absurd e (by decide), fun e => absurd e (by decide), fun e => absurd e (by decide), fun e => absurd e (by decide), fun _ => ?_, fun e => absurd e (by decide), fun e => absurd e (by decide), fun e => absurd e (by decide), fun e => absurd e (by decide), fun e => absurd e (by decide)⟩
  rw [va_up_self]
  rcases (show k = 3 ∨ k = 4 ∨ k = 5 ∨ k = 6 by omega) with rfl | rfl | rfl | rfl <;> simp [su_v]
theorem cx_pA (h : RCx e0 M0 own M Z C x nn) (hi : i < nn 2) {v : Int32} {K : zM → Prop} (hK : ∀ M', RCx e0 M0 own M' Z (su C 37 i v) x nn → K M') : wPF M (Z.1 5 i) 1 7 (.int v) K := by
  refine ⟨_, cxA h hi, by simp only [List.length]; omega, hK _ ?_⟩
  refine cx_w (s := 37) (p := i) (v := v) h (us5 h hi 5 (by simp)) (fun k' i' h9 hne hd => by rcases hd with hd | hd | hd | hd | hd | hd | hd | hd | hd | hd <;> omega) (by omega) ⟨fun e => absurd e (by decide), fun e => absurd e (by decide), fun e => absurd e (by decide), fun e => absurd e (by decide), fun e => absurd e (by decide), fun e => absurd e (by decide), fun e => absurd e (by decide), fun _ => ?_, fun e => absurd e (by decide), fun e => absurd e (by decide)⟩
  rw [va_up_self]
  simp [su_v]
theorem cx_s3 (h : RCx e0 M0 own M Z C x nn) (hi : i < nn 1) {q v : Int32} (hq : vp_in q 3) {K : zM → Prop} (hK : ∀ M', RCx e0 M0 own M' Z (su C 21 (3 * i + q.toNatClampNeg) v) x nn → K M') : wSI M (Z.1 3 i) 0 q v K := by
  have hlt := vp_in_lt hq
  obtain ⟨f, a1, a2⟩ := (h.1.1.1 3 i (us2 h hi 3 (by simp))).2.2.2.2.2.1 rfl
  refine ⟨_, f, a1, hq, hK _ ?_⟩
  refine cx_w (s := 21) (p := 3 * i + q.toNatClampNeg) (v := v) h (us2 h hi 3 (by simp)) (fun k' i' h9 hne hd => by rcases hd with hd | hd | hd | hd | hd | hd | hd | hd | hd | hd <;> omega) (by omega) ⟨fun e => absurd e (by decide), fun e => absurd e (by decide), fun e => absurd e (by decide), fun e => absurd e (by decide), fun e => absurd e (by decide), fun _ => ⟨_, va_up_self _ _ _, fun q' hq' => ?_⟩, fun e => absurd e (by decide), fun e => absurd e (by decide), fun e => absurd e (by decide), fun e => absurd e (by decide)⟩
  rw [su_v]
  by_cases z : q' = q.toNatClampNeg
  · subst z; rw [if_pos ⟨rfl, rfl⟩, pk_us]
  · rw [if_neg (by omega), pk_un z]; exact a2 q' hq'
theorem cx_s4 (h : RCx e0 M0 own M Z C x nn) (hi : i < nn 1) {q v : Int32} (hq : vp_in q 3) {K : zM → Prop} (hK : ∀ M', RCx e0 M0 own M' Z (su C 22 (3 * i + q.toNatClampNeg) (vp_nar .boolean v)) x nn → K M') : wSZ M (Z.1 4 i) 1 q v K := by
  have hlt := vp_in_lt hq
  obtain ⟨f, a1, a2⟩ := (h.1.1.1 4 i (us2 h hi 4 (by simp))).2.2.2.2.2.2.1 rfl
  refine ⟨_, f, a1, hq, hK _ ?_⟩
  refine cx_w (s := 22) (p := 3 * i + q.toNatClampNeg) (v := vp_nar .boolean v) h (us2 h hi 4 (by simp)) (fun k' i' h9 hne hd => by rcases hd with hd | hd | hd | hd | hd | hd | hd | hd | hd | hd <;> omega) (by omega) ⟨fun e => absurd e (by decide), fun e => absurd e (by decide), fun e => absurd e (by decide), fun e => absurd e (by decide), fun e => absurd e (by decide), fun e => absurd e (by decide), fun _ => ⟨_, va_up_self _ _ _, fun q' hq' => ?_⟩, fun e => absurd e (by decide), fun e => absurd e (by decide), fun e => absurd e (by decide)⟩
  rw [su_v]
  by_cases z : q' = q.toNatClampNeg
  · subst z; rw [if_pos ⟨rfl, rfl⟩, pk_us]
  · rw [if_neg (by omega), pk_un z]; exact a2 q' hq'
theorem cx_s7 (h : RCx e0 M0 own M Z C x nn) (hi : i < nn 2) {q v : Int32} (hq : vp_in q 60) {K : zM → Prop} (hK : ∀ M', RCx e0 M0 own M' Z (su C 36 (60 * i + q.toNatClampNeg) v) x nn → K M') : wSI M (Z.1 7 i) 0 q v K := by
  have hlt := vp_in_lt hq
  obtain ⟨f, a1, a2⟩ := (h.1.1.1 7 i (us5 h hi 7 (by simp))).2.2.2.2.2.2.2.2.2 rfl
  refine ⟨_, f, a1, hq, hK _ ?_⟩
  refine cx_w (s := 36) (p := 60 * i + q.toNatClampNeg) (v := v) h (us5 h hi 7 (by simp)) (fun k' i' h9 hne hd => by rcases hd with hd | hd | hd | hd | hd | hd | hd | hd | hd | hd <;> omega) (by omega) ⟨fun e => absurd e (by decide), fun e => absurd e (by decide), fun e => absurd e (by decide), fun e => absurd e (by decide), fun e => absurd e (by decide), fun e => absurd e (by decide), fun e => absurd e (by decide), fun e => absurd e (by decide), fun e => absurd e (by decide), fun _ => ⟨_, va_up_self _ _ _, fun q' hq' => ?_⟩⟩
  rw [su_v]
  by_cases z : q' = q.toNatClampNeg
  · subst z; rw [if_pos ⟨rfl, rfl⟩, pk_us]
  · rw [if_neg (by omega), pk_un z]; exact a2 q' hq'
end CX
