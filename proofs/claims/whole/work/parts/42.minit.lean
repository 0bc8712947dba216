/-! The reference's constructor. -/
def MJ (M0 M : zM) (m : Nat) (J : List Nat) (ad : Nat → Nat) (fs : List Value) : Prop :=
  M m = some (.inr (4, fs)) ∧ (∀ j ∈ J, M (ad j) = some (.inl (mKd j, mLn j, .inl (fun _ => 0)))) ∧ (∀ j ∈ J, ad j ≠ m) ∧ (∀ i ∈ J, ∀ j ∈ J, ad i = ad j → i = j) ∧ (∀ a, a ≠ m → (∀ j ∈ J, a ≠ ad j) → M a = M0 a) ∧ ∀ j ∈ J, M0 (ad j) = none
theorem mj_step {M0 M : zM} {m : Nat} {J : List Nat} {ad : Nat → Nat} {fs : List Value} (h : MJ M0 M m J ad fs) (j : Nat) (hj : j ∉ J) {k0 N by9 mc ms : Nat} {n : Int32} (hk : k0 = mKd j) (hN : N = mLn j) (hl : j < fs.length) (hn : ¬ n < 0) (hb : N * by9 ≤ 536870912) (hmc : 1 ≤ mc) (hms : N ≤ ms) (hcl : n.toNatClampNeg = N) {K : zM → Prop} (hK : ∀ (M' : zM) (q : Nat), MJ M0 M' m (j :: J) (va_up ad j q) (fs.set j (.ref q)) → K M') : wNA M k0 n N by9 mc ms (fun q M' => wPF M' m 4 j (.ref q) K) := by
  subst hk; subst hN
  obtain ⟨h1, h2, h3, h4, h5, h6⟩ := h
  refine ⟨hn, hb, hmc, hms, hcl, fun q hq => ?_⟩
  have n1 : q ≠ m := fun z => by rw [z, h1] at hq; cases hq
  have n2 : ∀ i ∈ J, q ≠ ad i := fun i hi z => by rw [z, h2 i hi] at hq; cases hq
  have ne : ∀ i ∈ J, i ≠ j := fun i hi z => hj (by rw [← z]; exact hi)
  have q0 : M0 q = none := by rw [← h5 q n1 n2]; exact hq
  have x1 : va_up M q (some (.inl (mKd j, mLn j, .inl (fun _ => 0)))) m = some (.inr (4, fs)) := by rw [va_up_ne _ _ (Ne.symm n1)]; exact h1
  refine p_pf x1 hl (fun M2 y1 y2 => hK M2 q ⟨y1, fun i hi => ?_, fun i hi => ?_, fun i hi i' hi' hz => ?_, fun a a1 a2 => ?_, fun i hi => ?_⟩)
  · rcases List.mem_cons.mp hi with rfl | hi
    · rw [va_up_self, y2 q n1, va_up_self]
    · rw [va_up_ne _ _ (ne i hi), y2 _ (h3 i hi), va_up_ne _ _ (Ne.symm (n2 i hi))]; exact h2 i hi
  · rcases List.mem_cons.mp hi with rfl | hi
    · rw [va_up_self]; exact n1
    · rw [va_up_ne _ _ (ne i hi)]; exact h3 i hi
  · rcases List.mem_cons.mp hi with g1 | g1
    · rcases List.mem_cons.mp hi' with g2 | g2
      · rw [g1, g2]
      · rw [g1, va_up_self, va_up_ne _ _ (ne i' g2)] at hz; exact absurd hz (n2 i' g2)
    · rcases List.mem_cons.mp hi' with g2 | g2
      · rw [g2, va_up_self, va_up_ne _ _ (ne i g1)] at hz; exact absurd hz.symm (n2 i g1)
      · rw [va_up_ne _ _ (ne i g1), va_up_ne _ _ (ne i' g2)] at hz; exact h4 i g1 i' g2 hz
  · have a3 := a2 j (List.mem_cons.mpr (Or.inl rfl))
    rw [va_up_self] at a3
    rw [y2 a a1, va_up_ne _ _ a3]
    refine h5 a a1 (fun i hi => ?_)
    have a4 := a2 i (List.mem_cons.mpr (Or.inr hi))
    rw [va_up_ne _ _ (ne i hi)] at a4
    exact a4
  · rcases List.mem_cons.mp hi with rfl | hi
    · rw [va_up_self]; exact q0
    · rw [va_up_ne _ _ (ne i hi)]; exact h6 i hi
abbrev mf0 : List Value := [.int 0, .int 0, .int 0, .null, .null, .null, .int 0, .null, .null, .null, .null, .null, .int 0, .null, .null, .null, .null, .null, .null, .null, .null, .null, .int 0, .int 0, .int 0]
set_option maxRecDepth 100000 in
set_option maxHeartbeats 4000000 in
theorem lf_M_init {e0 : Nat} {M : zM} {post : zM → Prop} {mc ms m : Nat} (hM : M m = some (.inr (4, mf0))) (hmc : 20 ≤ mc) (hms : 20000 ≤ ms) (hp : ∀ (M' : zM) (ad : Nat → Nat), RMf M M' m ad (fun _ _ => 0) → (∀ j ∈ mIs, M (ad j) = none) → post M') : w_M_init e0 post mc ms M m := by
  have h0 : MJ M M m [] (fun _ => 0) mf0 := ⟨hM, fun _ h => absurd h (List.not_mem_nil), fun _ h => absurd h (List.not_mem_nil), fun _ h => absurd h (List.not_mem_nil), fun _ _ _ => rfl, fun _ h => absurd h (List.not_mem_nil)⟩
  unfold w_M_init
  refine mj_step h0 3 (by decide) (by decide) (by decide) (by simp) (by decide) (by decide) (by omega) (by omega) (by decide) (fun M1 q1 h1 => ?_)
  refine mj_step h1 4 (by decide) (by decide) (by decide) (by simp) (by decide) (by decide) (by omega) (by omega) (by decide) (fun M2 q2 h2 => ?_)
  refine mj_step h2 5 (by decide) (by decide) (by decide) (by simp) (by decide) (by decide) (by omega) (by omega) (by decide) (fun M3 q3 h3 => ?_)
  refine mj_step h3 7 (by decide) (by decide) (by decide) (by simp) (by decide) (by decide) (by omega) (by omega) (by decide) (fun M4 q4 h4 => ?_)
  refine mj_step h4 8 (by decide) (by decide) (by decide) (by simp) (by decide) (by decide) (by omega) (by omega) (by decide) (fun M5 q5 h5 => ?_)
  refine mj_step h5 9 (by decide) (by decide) (by decide) (by simp) (by decide) (by decide) (by omega) (by omega) (by decide) (fun M6 q6 h6 => ?_)
  refine mj_step h6 10 (by decide) (by decide) (by decide) (by simp) (by decide) (by decide) (by omega) (by omega) (by decide) (fun M7 q7 h7 => ?_)
  refine mj_step h7 11 (by decide) (by decide) (by decide) (by simp) (by decide) (by decide) (by omega) (by omega) (by decide) (fun M8 q8 h8 => ?_)
  refine mj_step h8 13 (by decide) (by decide) (by decide) (by simp) (by decide) (by decide) (by omega) (by omega) (by decide) (fun M9 q9 h9 => ?_)
  refine mj_step h9 14 (by decide) (by decide) (by decide) (by simp) (by decide) (by decide) (by omega) (by omega) (by decide) (fun M10 q10 h10 => ?_)
  refine mj_step h10 15 (by decide) (by decide) (by decide) (by simp) (by decide) (by decide) (by omega) (by omega) (by decide) (fun M11 q11 h11 => ?_)
  refine mj_step h11 16 (by decide) (by decide) (by decide) (by simp) (by decide) (by decide) (by omega) (by omega) (by decide) (fun M12 q12 h12 => ?_)
  refine mj_step h12 17 (by decide) (by decide) (by decide) (by simp) (by decide) (by decide) (by omega) (by omega) (by decide) (fun M13 q13 h13 => ?_)
  refine mj_step h13 18 (by decide) (by decide) (by decide) (by simp) (by decide) (by decide) (by omega) (by omega) (by decide) (fun M14 q14 h14 => ?_)
  refine mj_step h14 19 (by decide) (by decide) (by decide) (by simp) (by decide) (by decide) (by omega) (by omega) (by decide) (fun M15 q15 h15 => ?_)
  refine mj_step h15 20 (by decide) (by decide) (by decide) (by simp) (by decide) (by decide) (by omega) (by omega) (by decide) (fun M16 q16 h16 => ?_)
  refine mj_step h16 21 (by decide) (by decide) (by decide) (by simp) (by decide) (by decide) (by omega) (by omega) (by decide) (fun M17 q17 h17 => ?_)
  obtain ⟨r1, r2, r3, r4, r5, r6⟩ := h17
  have hs : ∀ j ∈ mIs, j ∈ [21, 20, 19, 18, 17, 16, 15, 14, 13, 11, 10, 9, 8, 7, 5, 4, 3] := by decide
  have hs' : ∀ j ∈ [21, 20, 19, 18, 17, 16, 15, 14, 13, 11, 10, 9, 8, 7, 5, 4, 3], j ∈ mIs := by decide
  exact hp _ _ ⟨⟨(by exact r1), fun j hj => r2 j (hs j hj), fun j hj => r3 j (hs j hj), fun i hi j hj => r4 i (hs i hi) j (hs j hj)⟩, fun a a1 a2 => r5 a a1 (fun j hj => a2 j (hs' j hj))⟩ (fun j hj => r6 j (hs j hj))
