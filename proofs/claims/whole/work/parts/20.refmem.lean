/-! The reference: its memory S: slot of a field -> place -> value. RMf: the map holds it at m, with its arrays at ad; nothing else changed since M0. -/
abbrev Sm : Type := Nat → Nat → Int32
def su (S : Sm) (j k : Nat) (v : Int32) : Sm := va_up S j (upd (S j) k v)
def mIs : List Nat := [3, 4, 5, 7, 8, 9, 10, 11, 13, 14, 15, 16, 17, 18, 19, 20, 21]
def mKd (j : Nat) : Nat := if j = 10 ∨ j = 14 ∨ j = 18 then 1 else 0
def mLn (j : Nat) : Nat := if j = 3 then 12 else if j = 4 then 12 else if j = 5 then 12 else if j = 7 then 60 else if j = 8 then 60 else if j = 9 then 180 else if j = 10 then 180 else if j = 11 then 60 else if j = 13 then 60 else if j = 14 then 60 else if j = 15 then 60 else if j = 16 then 60 else if j = 17 then 60 else if j = 18 then 3600 else if j = 19 then 3600 else if j = 20 then 3600 else if j = 21 then 3600 else 0
abbrev mfs (ad : Nat → Nat) (S : Sm) : List Value := [.int (S 0 0), .int (S 1 0), .int (S 2 0), .ref (ad 3), .ref (ad 4), .ref (ad 5), .int (S 6 0), .ref (ad 7), .ref (ad 8), .ref (ad 9), .ref (ad 10), .ref (ad 11), .int (S 12 0), .ref (ad 13), .ref (ad 14), .ref (ad 15), .ref (ad 16), .ref (ad 17), .ref (ad 18), .ref (ad 19), .ref (ad 20), .ref (ad 21), .int (S 22 0), .int (S 23 0), .int (S 24 0)]
def RM (M : zM) (m : Nat) (ad : Nat → Nat) (S : Sm) : Prop := M m = some (.inr (4, mfs ad S)) ∧ (∀ j ∈ mIs, M (ad j) = some (.inl (mKd j, mLn j, .inl (S j)))) ∧ (∀ j ∈ mIs, ad j ≠ m) ∧ ∀ i ∈ mIs, ∀ j ∈ mIs, ad i = ad j → i = j
def RMf (M0 M : zM) (m : Nat) (ad : Nat → Nat) (S : Sm) : Prop := RM M m ad S ∧ ∀ a, a ≠ m → (∀ j ∈ mIs, a ≠ ad j) → M a = M0 a
def aPF (S : Sm) (j : Nat) (v : Int32) (K : Sm → Prop) : Prop := K (su S j 0 v)
def aLD (S : Sm) (j : Nat) (i : Int32) (K : Int32 → Prop) : Prop := vp_in i (mLn j) ∧ K (S j i.toNatClampNeg)
def aST (S : Sm) (j : Nat) (i v : Int32) (K : Sm → Prop) : Prop := vp_in i (mLn j) ∧ K (su S j i.toNatClampNeg v)
theorem su_at (S : Sm) (j k : Nat) (v : Int32) : su S j k v j = upd (S j) k v := va_up_self _ _ _
theorem su_ne (S : Sm) {i j : Nat} (k : Nat) (v : Int32) (h : i ≠ j) : su S j k v i = S i := va_up_ne _ _ h
section RMS
variable {M0 M : zM} {m : Nat} {ad : Nat → Nat} {S : Sm}
theorem rm_is (h : RMf M0 M m ad S) : wIs M m 4 := ⟨_, h.1.1⟩
theorem rm_gi (h : RMf M0 M m ad S) {j : Nat} {K : Int32 → Prop} {v : Int32} (hj : (mfs ad S)[j]? = some (.int v)) (hK : K v) : wGI M m 4 j K := ⟨_, _, h.1.1, hj, hK⟩
theorem rm_gr (h : RMf M0 M m ad S) {j : Nat} {K : Nat → Prop} (hj : (mfs ad S)[j]? = some (.ref (ad j))) (hK : K (ad j)) : wGR M m 4 j K := ⟨_, _, h.1.1, hj, hK⟩
theorem rm_ld (h : RMf M0 M m ad S) {j k0 : Nat} (hj : j ∈ mIs ∧ mKd j = k0) {i : Int32} (hi : vp_in i (mLn j)) {K : Int32 → Prop} (hK : K (S j i.toNatClampNeg)) : wLI M (ad j) k0 i K := by
  obtain ⟨h1, rfl⟩ := hj
  exact ⟨_, _, _, h.1.2.1 j h1, hi, rfl, hK⟩
theorem rm_up (h : RMf M0 M m ad S) {j : Nat} (hj : j ∈ mIs) (f : Nat → Int32) (hi : ∀ i, i < 25 → i ∉ mIs → i ≠ j) : RMf M0 (va_up M (ad j) (some (.inl (mKd j, mLn j, .inl f)))) m ad (va_up S j f) := by
  obtain ⟨⟨h1, h2, h3, h4⟩, h5⟩ := h
  have e : mfs ad (va_up S j f) = mfs ad S := by
    have q : ∀ i, i < 25 → i ∉ mIs → va_up S j f i = S i := fun i a b => va_up_ne _ _ (hi i a b)
    simp only [mfs, q 0 (by decide) (by decide), q 1 (by decide) (by decide), q 2 (by decide) (by decide), q 6 (by decide) (by decide), q 12 (by decide) (by decide), q 22 (by decide) (by decide), q 23 (by decide) (by decide), q 24 (by decide) (by decide)]
  refine ⟨⟨?_, fun i hi9 => ?_, h3, h4⟩, fun a h6 h7 => ?_⟩
  · rw [va_up_ne _ _ (Ne.symm (h3 j hj)), e]; exact h1
  · by_cases q : i = j
    · subst q; rw [va_up_self, va_up_self]
    · rw [va_up_ne _ _ (fun z => q (h4 i hi9 j hj z)), va_up_ne _ _ q]; exact h2 i hi9
  · rw [va_up_ne _ _ (h7 j hj)]; exact h5 a h6 h7
theorem rm_st (h : RMf M0 M m ad S) {j : Nat} (hj : j ∈ mIs ∧ mKd j = 0) {i x : Int32} (hi : vp_in i (mLn j)) {K : zM → Prop} (hK : ∀ M', RMf M0 M' m ad (su S j i.toNatClampNeg x) → K M') : wSI M (ad j) 0 i x K := by
  have e : M (ad j) = some (.inl (0, mLn j, .inl (S j))) := by rw [h.1.2.1 j hj.1, hj.2]
  refine ⟨_, _, e, hi, hK _ ?_⟩
  have q := rm_up h hj.1 (upd (S j) i.toNatClampNeg x) (fun a _ b z => b (z ▸ hj.1))
  rw [hj.2] at q
  exact q
theorem rm_sz (h : RMf M0 M m ad S) {j : Nat} (hj : j ∈ mIs) (h1 : mKd j = 1) {i x : Int32} (hi : vp_in i (mLn j)) {K : zM → Prop} (hK : ∀ M', RMf M0 M' m ad (su S j i.toNatClampNeg (vp_nar .boolean x)) → K M') : wSZ M (ad j) 1 i x K := by
  have e : M (ad j) = some (.inl (1, mLn j, .inl (S j))) := by rw [h.1.2.1 j hj, h1]
  refine ⟨_, _, e, hi, hK _ ?_⟩
  have q := rm_up h hj (upd (S j) i.toNatClampNeg (vp_nar .boolean x)) (fun a _ b z => b (z ▸ hj))
  rw [h1] at q
  exact q
theorem rm_pf (h : RMf M0 M m ad S) {j : Nat} {v : Int32} (hj : j ∉ mIs) (e : (mfs ad S).set j (.int v) = mfs ad (su S j 0 v)) (hl : j < 25) {K : zM → Prop} (hK : ∀ M', RMf M0 M' m ad (su S j 0 v) → K M') : wPF M m 4 j (.int v) K := by
  obtain ⟨⟨h1, h2, h3, h4⟩, h5⟩ := h
  refine ⟨_, h1, hl, hK _ ?_⟩
  rw [e]
  refine ⟨⟨va_up_self _ _ _, fun i hi => ?_, h3, h4⟩, fun a h6 h7 => ?_⟩
  · rw [va_up_ne _ _ (h3 i hi), su_ne (i := i) (j := j) S 0 v (fun z => hj (by rw [← z]; exact hi))]; exact h2 i hi
  · rw [va_up_ne _ _ h6]; exact h5 a h6 h7
theorem rm_pf_0 (h : RMf M0 M m ad S) {v : Int32} {K : zM → Prop} (hK : ∀ M', RMf M0 M' m ad (su S 0 0 v) → K M') : wPF M m 4 0 (.int v) K :=
  rm_pf h (by decide) (by simp only [mfs, su_at, pk_us, su_ne S (i := 1) (j := 0) 0 v (by decide), su_ne S (i := 2) (j := 0) 0 v (by decide), su_ne S (i := 6) (j := 0) 0 v (by decide), su_ne S (i := 12) (j := 0) 0 v (by decide), su_ne S (i := 22) (j := 0) 0 v (by decide), su_ne S (i := 23) (j := 0) 0 v (by decide), su_ne S (i := 24) (j := 0) 0 v (by decide), List.set]) (by decide) hK
theorem rm_pf_1 (h : RMf M0 M m ad S) {v : Int32} {K : zM → Prop} (hK : ∀ M', RMf M0 M' m ad (su S 1 0 v) → K M') : wPF M m 4 1 (.int v) K :=
  rm_pf h (by decide) (by simp only [mfs, su_at, pk_us, su_ne S (i := 0) (j := 1) 0 v (by decide), su_ne S (i := 2) (j := 1) 0 v (by decide), su_ne S (i := 6) (j := 1) 0 v (by decide), su_ne S (i := 12) (j := 1) 0 v (by decide), su_ne S (i := 22) (j := 1) 0 v (by decide), su_ne S (i := 23) (j := 1) 0 v (by decide), su_ne S (i := 24) (j := 1) 0 v (by decide), List.set]) (by decide) hK
theorem rm_pf_2 (h : RMf M0 M m ad S) {v : Int32} {K : zM → Prop} (hK : ∀ M', RMf M0 M' m ad (su S 2 0 v) → K M') : wPF M m 4 2 (.int v) K :=
  rm_pf h (by decide) (by simp only [mfs, su_at, pk_us, su_ne S (i := 0) (j := 2) 0 v (by decide), su_ne S (i := 1) (j := 2) 0 v (by decide), su_ne S (i := 6) (j := 2) 0 v (by decide), su_ne S (i := 12) (j := 2) 0 v (by decide), su_ne S (i := 22) (j := 2) 0 v (by decide), su_ne S (i := 23) (j := 2) 0 v (by decide), su_ne S (i := 24) (j := 2) 0 v (by decide), List.set]) (by decide) hK
theorem rm_pf_6 (h : RMf M0 M m ad S) {v : Int32} {K : zM → Prop} (hK : ∀ M', RMf M0 M' m ad (su S 6 0 v) → K M') : wPF M m 4 6 (.int v) K :=
  rm_pf h (by decide) (by simp only [mfs, su_at, pk_us, su_ne S (i := 0) (j := 6) 0 v (by decide), su_ne S (i := 1) (j := 6) 0 v (by decide), su_ne S (i := 2) (j := 6) 0 v (by decide), su_ne S (i := 12) (j := 6) 0 v (by decide), su_ne S (i := 22) (j := 6) 0 v (by decide), su_ne S (i := 23) (j := 6) 0 v (by decide), su_ne S (i := 24) (j := 6) 0 v (by decide), List.set]) (by decide) hK
theorem rm_pf_12 (h : RMf M0 M m ad S) {v : Int32} {K : zM → Prop} (hK : ∀ M', RMf M0 M' m ad (su S 12 0 v) → K M') : wPF M m 4 12 (.int v) K :=
  rm_pf h (by decide) (by simp only [mfs, su_at, pk_us, su_ne S (i := 0) (j := 12) 0 v (by decide), su_ne S (i := 1) (j := 12) 0 v (by decide), su_ne S (i := 2) (j := 12) 0 v (by decide), su_ne S (i := 6) (j := 12) 0 v (by decide), su_ne S (i := 22) (j := 12) 0 v (by decide), su_ne S (i := 23) (j := 12) 0 v (by decide), su_ne S (i := 24) (j := 12) 0 v (by decide), List.set]) (by decide) hK
theorem rm_pf_22 (h : RMf M0 M m ad S) {v : Int32} {K : zM → Prop} (hK : ∀ M', RMf M0 M' m ad (su S 22 0 v) → K M') : wPF M m 4 22 (.int v) K :=
  rm_pf h (by decide) (by simp only [mfs, su_at, pk_us, su_ne S (i := 0) (j := 22) 0 v (by decide), su_ne S (i := 1) (j := 22) 0 v (by decide), su_ne S (i := 2) (j := 22) 0 v (by decide), su_ne S (i := 6) (j := 22) 0 v (by decide), su_ne S (i := 12) (j := 22) 0 v (by decide), su_ne S (i := 23) (j := 22) 0 v (by decide), su_ne S (i := 24) (j := 22) 0 v (by decide), List.set]) (by decide) hK
theorem rm_pf_23 (h : RMf M0 M m ad S) {v : Int32} {K : zM → Prop} (hK : ∀ M', RMf M0 M' m ad (su S 23 0 v) → K M') : wPF M m 4 23 (.int v) K :=
  rm_pf h (by decide) (by simp only [mfs, su_at, pk_us, su_ne S (i := 0) (j := 23) 0 v (by decide), su_ne S (i := 1) (j := 23) 0 v (by decide), su_ne S (i := 2) (j := 23) 0 v (by decide), su_ne S (i := 6) (j := 23) 0 v (by decide), su_ne S (i := 12) (j := 23) 0 v (by decide), su_ne S (i := 22) (j := 23) 0 v (by decide), su_ne S (i := 24) (j := 23) 0 v (by decide), List.set]) (by decide) hK
theorem rm_pf_24 (h : RMf M0 M m ad S) {v : Int32} {K : zM → Prop} (hK : ∀ M', RMf M0 M' m ad (su S 24 0 v) → K M') : wPF M m 4 24 (.int v) K :=
  rm_pf h (by decide) (by simp only [mfs, su_at, pk_us, su_ne S (i := 0) (j := 24) 0 v (by decide), su_ne S (i := 1) (j := 24) 0 v (by decide), su_ne S (i := 2) (j := 24) 0 v (by decide), su_ne S (i := 6) (j := 24) 0 v (by decide), su_ne S (i := 12) (j := 24) 0 v (by decide), su_ne S (i := 22) (j := 24) 0 v (by decide), su_ne S (i := 23) (j := 24) 0 v (by decide), List.set]) (by decide) hK
end RMS
