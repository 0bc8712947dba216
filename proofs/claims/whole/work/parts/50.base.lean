/-! The mathematics: an abstract state G of natural numbers, slot -> place -> number. The reference's memory is encS G; the class's memory is told of G by RQ. -/
abbrev Gs : Type := Nat → Nat → Nat
def gu (G : Gs) (j k n : Nat) : Gs := fun s p => if s = j then (if p = k then n else G s p) else G s p
abbrev m1 (n : Nat) : Int32 := nI n + (-1)
abbrev m2 (n : Nat) : Int32 := nI n + (-2)
def enc (j n : Nat) : Int32 := if j = 5 ∨ j = 16 ∨ j = 19 then m1 n else if j = 21 then m2 n else nI n
def encS (G : Gs) : Sm := fun j k => enc j (G j k)
theorem gu_s {G : Gs} {j k n : Nat} : gu G j k n j k = n := by unfold gu; rw [if_pos rfl, if_pos rfl]
theorem gu_j {G : Gs} {j k n s p : Nat} (h : s ≠ j) : gu G j k n s p = G s p := by unfold gu; rw [if_neg h]
theorem gu_k {G : Gs} {j k n s p : Nat} (h : p ≠ k) : gu G j k n s p = G s p := by
  unfold gu
  by_cases q : s = j
  · rw [if_pos q, if_neg h]
  · rw [if_neg q]
theorem gu_v {G : Gs} {j k n p : Nat} : gu G j k n j p = if p = k then n else G j p := by unfold gu; rw [if_pos rfl]
theorem en_u (G : Gs) (j k n : Nat) : su (encS G) j k (enc j n) = encS (gu G j k n) := by
  funext s p
  rw [su_v]
  unfold encS gu
  by_cases h : s = j
  · subst h
    by_cases h2 : p = k
    · subst h2; rw [if_pos ⟨rfl, rfl⟩, if_pos rfl, if_pos rfl]
    · rw [if_neg (fun z => h2 z.2), if_pos rfl, if_neg h2]
  · rw [if_neg (fun z => h z.1), if_neg h]
/-! numbers -/
theorem m1_0 : m1 0 = -1 := by decide
theorem m1_s (n : Nat) : m1 (n + 1) = nI n := pk_m1 n
theorem m2_0 : m2 0 = -2 := by decide
theorem m2_1 : m2 1 = -1 := by decide
theorem m2_s (n : Nat) : m2 (n + 2) = nI n := by
  have e : (-2 : Int32) = -1 + -1 := by decide
  show nI (n + 2) + (-2) = nI n
  rw [e, ← Int32.add_assoc]
  show nI (n + 1 + 1) + -1 + -1 = nI n
  rw [pk_m1, pk_m1]
theorem m1_toInt {n : Nat} (h : n < 2 ^ 31) : (m1 n).toInt = (n : Int) - 1 := by
  cases n with
  | zero => decide
  | succ n => rw [m1_s, nI_toInt (by omega)]; omega
theorem m2_toInt {n : Nat} (h : n < 2 ^ 31) : (m2 n).toInt = (n : Int) - 2 := by
  match n with
  | 0 => decide
  | 1 => decide
  | n + 2 => rw [m2_s, nI_toInt (by omega)]; omega
theorem i_lt {a b : Int32} : a < b ↔ a.toInt < b.toInt := Int32.lt_iff_toInt_lt
theorem i_le {a b : Int32} : a ≤ b ↔ a.toInt ≤ b.toInt := Int32.le_iff_toInt_le
theorem i_eq {a b : Int32} : a = b ↔ a.toInt = b.toInt := Int32.toInt_inj.symm
theorem ti_m1 : (-1 : Int32).toInt = -1 := by decide
theorem ti_m2 : (-2 : Int32).toInt = -2 := by decide
theorem ti_0 : (0 : Int32).toInt = 0 := by decide
theorem m1_lt0 {n : Nat} (h : n < 2 ^ 31) : m1 n < 0 ↔ n = 0 := by rw [i_lt, m1_toInt h, ti_0]; omega
theorem m1_ge0 {n : Nat} (h : n < 2 ^ 31) : 0 ≤ m1 n ↔ n ≠ 0 := by rw [i_le, m1_toInt h, ti_0]; omega
theorem m1_eq1 {n : Nat} (h : n < 2 ^ 31) : m1 n = -1 ↔ n = 0 := by rw [i_eq, m1_toInt h, ti_m1]; omega
theorem m2_lt0 {n : Nat} (h : n < 2 ^ 31) : m2 n < 0 ↔ n < 2 := by rw [i_lt, m2_toInt h, ti_0]; omega
theorem m2_ge0 {n : Nat} (h : n < 2 ^ 31) : 0 ≤ m2 n ↔ 2 ≤ n := by rw [i_le, m2_toInt h, ti_0]; omega
theorem m2_eq2 {n : Nat} (h : n < 2 ^ 31) : m2 n = -2 ↔ n = 0 := by rw [i_eq, m2_toInt h, ti_m2]; omega
theorem m2_lt1 {n : Nat} (h : n < 2 ^ 31) : m2 n < -1 ↔ n = 0 := by rw [i_lt, m2_toInt h, ti_m1]; omega
theorem m2_lt {a b : Nat} (ha : a < 2 ^ 31) (hb : b < 2 ^ 31) : m2 a < m2 b ↔ a < b := by rw [i_lt, m2_toInt ha, m2_toInt hb]; omega
theorem m2_eq {a b : Nat} (ha : a < 2 ^ 31) (hb : b < 2 ^ 31) : m2 a = m2 b ↔ a = b := by rw [i_eq, m2_toInt ha, m2_toInt hb]; omega
theorem nI_z {n : Nat} (h : n < 2 ^ 31) : nI n = 0 ↔ n = 0 := by rw [i_eq, nI_toInt h, ti_0]; omega
theorem ix60 (a p : Nat) : nI a * 60 + nI p = nI (60 * a + p) := by
  rw [show (60 : Int32) = nI 60 from rfl, pk_mul, nI_add, Nat.mul_comm]
theorem ix3 (a p : Nat) : 3 * nI a + nI p = nI (3 * a + p) := by
  rw [show (3 : Int32) = nI 3 from rfl, pk_mul, nI_add]
/-! counting -/
def cnt (P : Nat → Bool) : Nat → Nat
  | 0 => 0
  | n + 1 => cnt P n + (if P n = true then 1 else 0)
def sm (f : Nat → Nat) : Nat → Nat
  | 0 => 0
  | n + 1 => sm f n + f n
theorem cnt_le (P : Nat → Bool) (n : Nat) : cnt P n ≤ n := by
  induction n with
  | zero => exact Nat.le_refl _
  | succ n ih => unfold cnt; split <;> omega
theorem cnt_cg {P Q : Nat → Bool} {n : Nat} (h : ∀ i, i < n → P i = Q i) : cnt P n = cnt Q n := by
  induction n with
  | zero => rfl
  | succ n ih => unfold cnt; rw [ih (fun i hi => h i (by omega)), h n (by omega)]
theorem sm_cg {f g : Nat → Nat} {n : Nat} (h : ∀ i, i < n → f i = g i) : sm f n = sm g n := by
  induction n with
  | zero => rfl
  | succ n ih => unfold sm; rw [ih (fun i hi => h i (by omega)), h n (by omega)]
theorem sm_le {f : Nat → Nat} {B : Nat} : ∀ n, (∀ i, i < n → f i ≤ B) → sm f n ≤ B * n := by
  intro n
  induction n with
  | zero => intro _; exact Nat.le_refl _
  | succ n ih =>
    intro h
    have h1 := ih (fun i hi => h i (by omega))
    have h2 := h n (by omega)
    unfold sm
    rw [Nat.mul_succ]
    omega
/-- one more place counts -/
theorem cnt_up {P Q : Nat → Bool} {k : Nat} : ∀ n, k < n → (∀ i, i < n → i ≠ k → P i = Q i) → P k = false → Q k = true → cnt Q n = cnt P n + 1 := by
  intro n
  induction n with
  | zero => intro h; omega
  | succ n ih =>
    intro h h1 h2 h3
    unfold cnt
    by_cases q : k = n
    · subst q
      rw [cnt_cg (P := Q) (Q := P) (fun i hi => (h1 i (by omega) (by omega)).symm), if_pos h3, if_neg (by rw [h2]; decide)]
    · rw [ih (by omega) (fun i hi => h1 i (by omega)) h2 h3, h1 n (by omega) (fun z => q z.symm)]
      omega
theorem sm_up {f g : Nat → Nat} {k d : Nat} : ∀ n, k < n → (∀ i, i < n → i ≠ k → f i = g i) → g k = f k + d → sm g n = sm f n + d := by
  intro n
  induction n with
  | zero => intro h; omega
  | succ n ih =>
    intro h h1 h2
    unfold sm
    by_cases q : k = n
    · subst q
      rw [sm_cg (f := g) (g := f) (fun i hi => (h1 i (by omega) (by omega)).symm), h2]
      omega
    · rw [ih (by omega) (fun i hi => h1 i (by omega)) h2, h1 n (by omega) (fun z => q z.symm)]
      omega
def mAsk (G : Gs) (a : Nat) : Nat := cnt (fun p => decide (G 18 (60 * a + p) ≠ 0)) 60
def mRea (G : Gs) (a : Nat) : Nat := cnt (fun p => decide (G 18 (60 * a + p) ≠ 0 ∧ G 19 (60 * a + p) ≠ 0)) 60
def mAns (G : Gs) (a : Nat) : Nat := cnt (fun p => decide (G 18 (60 * a + p) ≠ 0 ∧ G 21 (60 * a + p) ≠ 0)) 60
def mCom (G : Gs) (a : Nat) : Nat := cnt (fun p => decide (G 18 (60 * a + p) ≠ 0 ∧ 2 ≤ G 21 (60 * a + p))) 60
def sAll (G : Gs) (g : Nat) : Nat := sm (fun a => if G 13 a = g ∧ G 17 a ≠ 0 then mAsk G a else 0) (G 12 0)
def sGood (G : Gs) (g : Nat) : Nat := sm (fun a => if G 13 a = g ∧ G 17 a ≠ 0 then mAns G a else 0) (G 12 0)
def cAsk (G : Gs) (p : Nat) : Nat := cnt (fun a => decide (G 17 a ≠ 0 ∧ G 18 (60 * a + p) ≠ 0)) (G 12 0)
def cAns (G : Gs) (p : Nat) : Nat := cnt (fun a => decide (G 17 a ≠ 0 ∧ G 18 (60 * a + p) ≠ 0 ∧ G 21 (60 * a + p) ≠ 0)) (G 12 0)
def rN (G : Gs) (k : Nat) : Nat := if G 18 k = 0 then 0 else if G 19 k = 0 then 1 else 10 * G 20 k + G 19 k + 1
def sN (G : Gs) (k : Nat) : Nat := if G 18 k = 0 then 0 else G 21 k
/-! what holds between calls -/
def IB (G : Gs) : Prop := ∀ j k, j < 22 → G j k ≤ 1000000
def I0 (G : Gs) : Prop := G 2 0 ≤ 12 ∧ G 6 0 ≤ 60 ∧ G 12 0 ≤ 60 ∧ G 1 0 ≤ 999999
def IG (G : Gs) : Prop := ∀ i, i < G 2 0 → 1 ≤ G 4 i ∧ G 4 i ≤ 3600 ∧ G 5 i ≤ G 2 0
def IP (G : Gs) : Prop := ∀ p, p < 60 → G 8 p ≤ 3 ∧ (∀ i, i < G 8 p → G 9 (3 * p + i) ≤ 2) ∧ (∀ i j, i < j → j < G 8 p → G 9 (3 * p + i) ≠ G 9 (3 * p + j)) ∧ (G 6 0 ≤ p → G 8 p = 0 ∧ G 11 p = 0)
def IA (G : Gs) : Prop := ∀ a, a < G 12 0 → G 13 a < G 2 0 ∧ G 15 a ≤ 999999 ∧ ∀ p, p < 60 → (G 6 0 ≤ p → G 18 (60 * a + p) = 0) ∧ (G 18 (60 * a + p) ≠ 0 → G 19 (60 * a + p) ≤ 3)
def IO (G : Gs) : Prop := ∀ a, a < G 12 0 → G 17 a = 0 → G 1 0 < G 15 a + G 4 (G 13 a)
def InvT (G : Gs) : Prop := IB G ∧ I0 G ∧ IG G ∧ IP G ∧ IA G
def Inv (G : Gs) : Prop := InvT G ∧ IO G
def Q0 (G : Gs) (C : Sm) : Prop := C 0 0 = nI (G 1 0) ∧ C 1 0 = nI (G 22 0) ∧ C 2 0 = nI (G 23 0) ∧ C 3 0 = nI (G 24 0) ∧ C 4 0 = nI (G 2 0) ∧ C 5 0 = nI (G 6 0) ∧ C 6 0 = nI (G 12 0)
def QG (G : Gs) (C : Sm) : Prop := ∀ i, i < G 2 0 → C 10 i = nI (G 3 i) ∧ C 11 i = nI (G 4 i) ∧ C 12 i = m1 (G 5 i) ∧ C 13 i = nI (sAll G i) ∧ C 14 i = nI (sGood G i)
def QP (G : Gs) (C : Sm) : Prop := ∀ p, p < G 6 0 → C 20 p = nI (G 7 p) ∧ C 23 p = nI (G 8 p) ∧ C 24 p = nI (G 11 p) ∧ C 25 p = nI (cAsk G p) ∧ C 26 p = nI (cAns G p) ∧ ∀ i, i < G 8 p → C 21 (3 * p + i) = nI (G 9 (3 * p + i)) ∧ C 22 (3 * p + i) = nI (G 10 (3 * p + i))
def QA (G : Gs) (C : Sm) : Prop := ∀ a, a < G 12 0 → C 30 a = nI (G 13 a) ∧ C 31 a = nI (G 14 a) ∧ C 32 a = nI (G 15 a) ∧ C 33 a = nI (G 15 a + G 4 (G 13 a)) ∧ C 34 a = m1 (G 16 a) ∧ C 37 a = nI (G 17 a) ∧ ∀ p, p < 60 → C 35 (60 * a + p) = m2 (rN G (60 * a + p)) ∧ C 36 (60 * a + p) = m2 (sN G (60 * a + p))
def RQ (G : Gs) (C : Sm) : Prop := Q0 G C ∧ QG G C ∧ QP G C ∧ QA G C
def Fin9 (C S : Sm) (k : Nat) : Prop := ∃ G : Gs, Inv G ∧ RQ G C ∧ S = encS G ∧ G 0 0 = k
theorem inv_th {G : Gs} {k : Nat} (hk : k ≤ 3) (h : Inv G) : Inv (gu G 0 0 k) := by
  refine ⟨⟨fun j p hj => ?_, h.1.2⟩, h.2⟩
  unfold gu
  split
  · split
    · omega
    · exact h.1.1 j p hj
  · exact h.1.1 j p hj
theorem rq_th {G : Gs} {C : Sm} {k : Nat} (h : RQ G C) : RQ (gu G 0 0 k) C := h
theorem fin_th {G : Gs} {C : Sm} (k : Nat) (hk : k ≤ 3) (h : Inv G) (hQ : RQ G C) : Fin9 C (encS (gu G 0 0 k)) k := ⟨_, inv_th hk h, rq_th hQ, rfl, gu_s⟩
/-! reads and writes of the reference's memory -/
theorem ite_le9 {P : Prop} [Decidable P] {a b B : Nat} (ha : a ≤ B) (hb : b ≤ B) : (if P then a else b) ≤ B := by
  by_cases h : P
  · rw [if_pos h]; exact ha
  · rw [if_neg h]; exact hb
theorem mLn_le (j : Nat) : mLn j ≤ 3600 := by
  unfold mLn
  iterate 17 (refine ite_le9 (by decide) ?_)
  decide
theorem a_ld {S : Sm} {j n : Nat} {e : Int32} {K : Int32 → Prop} (he : e = nI n) (h : n < mLn j) (hK : K (S j n)) : aLD S j e K := by
  have := mLn_le j
  subst he
  refine ⟨vp_in_nI h (by omega), ?_⟩
  rw [nI_clamp (by omega)]; exact hK
theorem a_st {G : Gs} {j n m : Nat} {e v : Int32} {K : Sm → Prop} (he : e = nI n) (h : n < mLn j) (hv : v = enc j m) (hK : K (encS (gu G j n m))) : aST (encS G) j e v K := by
  have := mLn_le j
  subst he; subst hv
  refine ⟨vp_in_nI h (by omega), ?_⟩
  rw [nI_clamp (by omega), en_u]; exact hK
theorem a_pf {G : Gs} {j m : Nat} {v : Int32} {K : Sm → Prop} (hv : v = enc j m) (hK : K (encS (gu G j 0 m))) : aPF (encS G) j v K := by
  subst hv
  show K (su (encS G) j 0 (enc j m))
  rw [en_u]; exact hK
theorem rf_in {post : Int32 → Sm → Prop} {S : Sm} {a b c : Int32} (h1 : b ≤ a → a ≤ c → post 1 S) (h0 : ¬ (b ≤ a ∧ a ≤ c) → post 0 S) : v_M_in post S a b c :=
  ⟨fun z => h0 (fun w => i_lt_le z w.1), fun z => ⟨fun z2 => h0 (fun w => i_lt_le z2 w.2), fun z2 => h1 (i_nlt z) (i_nlt z2)⟩⟩
theorem rf_goes {post : Int32 → Sm → Prop} {G : Gs} {x1 x2 x3 : Int32} (h1 : x1 = 0 → post 0 (encS (gu G 0 0 1))) (h2 : ¬ x1 = 0 → x2 = 0 → post 0 (encS (gu G 0 0 2))) (h3 : ¬ x1 = 0 → ¬ x2 = 0 → x3 = 0 → post 0 (encS (gu G 0 0 3))) (h0 : ¬ x1 = 0 → ¬ x2 = 0 → ¬ x3 = 0 → post 1 (encS (gu G 0 0 0))) : v_M_goes post (encS G) x1 x2 x3 := by
  have key : ∀ (k : Nat) (v : Int32), v = enc 0 k → k < 4 → (k ≠ 0 → post 0 (encS (gu G 0 0 k))) → (k = 0 → post 1 (encS (gu G 0 0 k))) → v_M_goes_j26 post (encS G) v := by
    intro k v hv hk a1 a2
    refine a_pf hv ?_
    have e : encS (gu G 0 0 k) 0 0 = nI k := rfl
    rw [e]
    exact ⟨fun z => a2 ((nI_z (by omega)).mp z), fun z => a1 (fun w => z ((nI_z (by omega)).mpr w))⟩
  refine ⟨fun z => ?_, fun z => ⟨fun z2 => ?_, fun z2 => ⟨fun z3 => ?_, fun z3 => ?_⟩⟩⟩
  · exact key 1 1 rfl (by decide) (fun _ => h1 z) (fun w => absurd w (by decide))
  · exact key 2 2 rfl (by decide) (fun _ => h2 z z2) (fun w => absurd w (by decide))
  · exact key 3 3 rfl (by decide) (fun _ => h3 z z2 z3) (fun w => absurd w (by decide))
  · exact key 0 0 rfl (by decide) (fun w => absurd rfl w) (fun _ => h0 z z2 z3)
theorem in_lim {x : Int32} {n : Nat} (hn : n < 2 ^ 30) : (0 ≤ x ∧ x ≤ nI n - 1) ↔ vp_in x n := by
  rw [vp_in_iff, i_le, i_le, ti_0]
  have e : nI n - 1 = m1 n := by
    show nI n - 1 = nI n + (-1)
    rw [Int32.sub_eq_add_neg]
  rw [e, m1_toInt (by omega)]
  omega
theorem rf_is9 {post : Int32 → Sm → Prop} {S : Sm} {x : Int32} {n : Nat} (hn : n < 2 ^ 30) (h1 : vp_in x n → post 1 S) (h0 : ¬ vp_in x n → post 0 S) : v_M_in (fun r2 S1 => (narrow .boolean (.int r2) = .int r2) ∧ post r2 S1) S x 0 (nI n - 1) :=
  rf_in (fun a b => ⟨by decide, h1 ((in_lim hn).mp ⟨a, b⟩)⟩) (fun a => ⟨by decide, h0 (fun w => a ((in_lim hn).mpr w))⟩)
section RFI
variable {post : Int32 → Sm → Prop} {G : Gs} {x : Int32}
theorem rf_isGroup (hI : I0 G) (h1 : vp_in x (G 2 0) → post 1 (encS G)) (h0 : ¬ vp_in x (G 2 0) → post 0 (encS G)) : v_M_isGroup post (encS G) x := rf_is9 (by have := hI.1; omega) h1 h0
theorem rf_isPerson (hI : I0 G) (h1 : vp_in x (G 6 0) → post 1 (encS G)) (h0 : ¬ vp_in x (G 6 0) → post 0 (encS G)) : v_M_isPerson post (encS G) x := rf_is9 (by have := hI.2.1; omega) h1 h0
theorem rf_isAlarm (hI : I0 G) (h1 : vp_in x (G 12 0) → post 1 (encS G)) (h0 : ¬ vp_in x (G 12 0) → post 0 (encS G)) : v_M_isAlarm post (encS G) x := rf_is9 (by have := hI.2.2.1; omega) h1 h0
end RFI
/-! the class's tests -/
theorem vp_lt {x : Int32} {n : Nat} (hn : n < 2 ^ 31) (h0 : ¬ x < 0) : x < nI n ↔ vp_in x n := by
  rw [i_lt, ti_0] at h0
  rw [vp_in_iff, i_lt, nI_toInt hn]; omega
section CLT
variable {G : Gs} {C : Sm} {px : String → Sm → Prop} {mc ms : Nat} {x : Int32}
theorem rq_cn (hI : I0 G) (hQ : Q0 G C) : cn C 0 = G 2 0 ∧ cn C 1 = G 6 0 ∧ cn C 2 = G 12 0 := by
  obtain ⟨h1, h2, h3, -⟩ := hI
  obtain ⟨-, -, -, -, a, b, c⟩ := hQ
  unfold cn
  refine ⟨?_, ?_, ?_⟩
  · show (C 4 0).toNatClampNeg = _
    rw [a, nI_clamp (by omega)]
  · show (C 5 0).toNatClampNeg = _
    rw [b, nI_clamp (by omega)]
  · show (C 6 0).toNatClampNeg = _
    rw [c, nI_clamp (by omega)]
theorem cl_rqG {post : Sm → Prop} (hI : I0 G) (hQ : Q0 G C) (hmc : 1 ≤ mc) (hms : 6 ≤ ms) (h1 : vp_in x (G 2 0) → post C) (h0 : ¬ vp_in x (G 2 0) → px "java/lang/IllegalArgumentException" C) : u_A_requireGroup post px mc ms C x := by
  have hx : ¬ vp_in x (G 2 0) → u_A_requireGroup_j15 post px mc ms C := fun z => ⟨hmc, hms, h0 z⟩
  refine ⟨fun z => hx (fun w => vp_in_ge w z), fun z => ?_⟩
  have h2 := hI.1
  rw [hQ.2.2.2.2.1]
  exact ⟨fun w => h1 ((vp_lt (by omega) z).mp w), fun w => hx (fun w2 => w ((vp_lt (by omega) z).mpr w2))⟩
theorem cl_rqP {post : Sm → Prop} (hI : I0 G) (hQ : Q0 G C) (hmc : 1 ≤ mc) (hms : 6 ≤ ms) (h1 : vp_in x (G 6 0) → post C) (h0 : ¬ vp_in x (G 6 0) → px "java/lang/IllegalArgumentException" C) : u_A_requirePerson post px mc ms C x := by
  have hx : ¬ vp_in x (G 6 0) → u_A_requirePerson_j15 post px mc ms C := fun z => ⟨hmc, hms, h0 z⟩
  refine ⟨fun z => hx (fun w => vp_in_ge w z), fun z => ?_⟩
  have h2 := hI.2.1
  rw [hQ.2.2.2.2.2.1]
  exact ⟨fun w => h1 ((vp_lt (by omega) z).mp w), fun w => hx (fun w2 => w ((vp_lt (by omega) z).mpr w2))⟩
theorem cl_rqA {post : Sm → Prop} (hI : I0 G) (hQ : Q0 G C) (hmc : 1 ≤ mc) (hms : 6 ≤ ms) (h1 : vp_in x (G 12 0) → post C) (h0 : ¬ vp_in x (G 12 0) → px "java/lang/IllegalArgumentException" C) : u_A_requireAlarm post px mc ms C x := by
  have hx : ¬ vp_in x (G 12 0) → u_A_requireAlarm_j15 post px mc ms C := fun z => ⟨hmc, hms, h0 z⟩
  refine ⟨fun z => hx (fun w => vp_in_ge w z), fun z => ?_⟩
  have h2 := hI.2.2.1
  rw [hQ.2.2.2.2.2.2]
  exact ⟨fun w => h1 ((vp_lt (by omega) z).mp w), fun w => hx (fun w2 => w ((vp_lt (by omega) z).mpr w2))⟩
theorem cl_gOf {post : Nat → Sm → Prop} (hI : I0 G) (hQ : Q0 G C) (hmc : 1 ≤ mc) (hms : 6 ≤ ms) (h1 : vp_in x (G 2 0) → post x.toNatClampNeg C) (h0 : ¬ vp_in x (G 2 0) → px "java/lang/IllegalArgumentException" C) : u_A_groupOf post px mc ms C x :=
  ⟨1, 6, hmc, hms, cl_rqG hI hQ (Nat.le_refl _) (Nat.le_refl _) (fun w => ⟨by rw [(rq_cn hI hQ).1]; exact w, h1 w⟩) h0⟩
theorem cl_pOf {post : Nat → Sm → Prop} (hI : I0 G) (hQ : Q0 G C) (hmc : 1 ≤ mc) (hms : 6 ≤ ms) (h1 : vp_in x (G 6 0) → post x.toNatClampNeg C) (h0 : ¬ vp_in x (G 6 0) → px "java/lang/IllegalArgumentException" C) : u_A_personOf post px mc ms C x :=
  ⟨1, 6, hmc, hms, cl_rqP hI hQ (Nat.le_refl _) (Nat.le_refl _) (fun w => ⟨by rw [(rq_cn hI hQ).2.1]; exact w, h1 w⟩) h0⟩
theorem cl_aOf {post : Nat → Sm → Prop} (hI : I0 G) (hQ : Q0 G C) (hmc : 1 ≤ mc) (hms : 6 ≤ ms) (h1 : vp_in x (G 12 0) → post x.toNatClampNeg C) (h0 : ¬ vp_in x (G 12 0) → px "java/lang/IllegalArgumentException" C) : u_A_alarmOf post px mc ms C x :=
  ⟨1, 6, hmc, hms, cl_rqA hI hQ (Nat.le_refl _) (Nat.le_refl _) (fun w => ⟨by rw [(rq_cn hI hQ).2.2]; exact w, h1 w⟩) h0⟩
end CLT
