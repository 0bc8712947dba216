/-! what a beginning keeps; alarm -/
section OPS7
variable {G : Gs} {C : Sm} {mc ms g t r : Nat}
theorem bg_lo {s k : Nat} (hs : 18 ≤ s) (hk : k < 60 * G 12 0) : beginG G g t r s k = G s k := by
  unfold beginG
  rw [gu_j (by omega)]
  unfold bgC
  rw [if_neg (by omega)]
  unfold bgP
  rw [if_neg (by omega)]
  unfold bg1
  rw [gu_j (by omega), gu_j (by omega), gu_j (by omega), gu_j (by omega), gu_j (by omega)]
theorem bg_18 {p : Nat} (hp : p < 60) : beginG G g t r 18 (60 * G 12 0 + p) = if p < G 6 0 ∧ askB G g t p = true then 1 else 0 := by
  unfold beginG
  rw [gu_j (by decide)]
  unfold bgC
  by_cases z : p < G 6 0
  · rw [if_neg (by omega)]
    unfold bgP
    rw [if_pos (by omega), Nat.add_sub_cancel_left]
    show (if askB G g t p = true then 1 else 0) = _
    by_cases y : askB G g t p = true
    · rw [if_pos y, if_pos ⟨z, y⟩]
    · rw [if_neg y, if_neg (fun w => y w.2)]
  · rw [if_pos (by omega), if_neg (fun w => z w.1)]
theorem bg_19 {p : Nat} (hp : p < G 6 0) : beginG G g t r 19 (60 * G 12 0 + p) = wN G p := by
  unfold beginG
  rw [gu_j (by decide)]
  unfold bgC
  rw [if_neg (by omega)]
  unfold bgP
  rw [if_pos (by omega), Nat.add_sub_cancel_left]; rfl
theorem bg_20 {p : Nat} (hp : p < G 6 0) : beginG G g t r 20 (60 * G 12 0 + p) = 20 * fw G p 3 0 := by
  unfold beginG
  rw [gu_j (by decide)]
  unfold bgC
  rw [if_neg (by omega)]
  unfold bgP
  rw [if_pos (by omega), Nat.add_sub_cancel_left]; rfl
theorem bg_21 {p : Nat} (hp : p < G 6 0) : beginG G g t r 21 (60 * G 12 0 + p) = 0 := by
  unfold beginG
  rw [gu_j (by decide)]
  unfold bgC
  rw [if_neg (by omega)]
  unfold bgP
  rw [if_pos (by omega), Nat.add_sub_cancel_left]; rfl
theorem wN_le (hP : IP G) {p : Nat} (hp : p < 60) : wN G p ≤ 3 := by
  unfold wN
  by_cases z : fw G p 3 0 < G 8 p
  · rw [if_pos z]
    have := (hP p hp).2.1 _ z
    omega
  · rw [if_neg z]; omega
theorem ib_begin (hB : IB G) (hP : IP G) (h6 : G 6 0 ≤ 60) (h1 : G 1 0 ≤ 999999) (hn : G 12 0 < 60) (hg : g ≤ 1000000) (ht : t ≤ 1) (hr : r ≤ 1000000) : IB (beginG G g t r) := by
  refine ib_u (fun s k hs => ?_) (by omega)
  unfold bgC
  refine ite_le9 (by decide) ?_
  unfold bgP
  by_cases z : (s = 18 ∨ s = 19 ∨ s = 20 ∨ s = 21) ∧ 60 * G 12 0 ≤ k ∧ k < 60 * G 12 0 + G 6 0
  · rw [if_pos z]
    unfold bgV
    have := wN_le hP (p := k - 60 * G 12 0) (by omega)
    have h2 := fw_le (G := G) (k - 60 * G 12 0) 3 0
    exact ite_le9 (ite_le9 (by decide) (by decide)) (ite_le9 (by omega) (ite_le9 (by omega) (by decide)))
  · rw [if_neg z]
    exact ib_u (ib_u (ib_u (ib_u (ib_u hB hg) (by omega)) (by omega)) hr) (by decide) s k hs
theorem inv_begin (hI : InvT G) (hg : g < G 2 0) (ht : t ≤ 1) (hr : r ≤ 1000000) (hn : G 12 0 < 60) : InvT (beginG G g t r) := by
  obtain ⟨hB, H0, hG, hP, hA⟩ := hI
  refine ⟨ib_begin hB hP H0.2.1 H0.2.2.2 hn (by have := H0.1; omega) ht hr, ⟨H0.1, H0.2.1, hn, H0.2.2.2⟩, hG, hP, fun a ha => ?_⟩
  have ha' : a < G 12 0 + 1 := ha
  show (if a = G 12 0 then g else G 13 a) < G 2 0 ∧ (if a = G 12 0 then G 1 0 else G 15 a) ≤ 999999 ∧ ∀ p, p < 60 → (G 6 0 ≤ p → beginG G g t r 18 (60 * a + p) = 0) ∧ (beginG G g t r 18 (60 * a + p) ≠ 0 → beginG G g t r 19 (60 * a + p) ≤ 3)
  by_cases z : a = G 12 0
  · subst z
    rw [if_pos rfl, if_pos rfl]
    refine ⟨hg, H0.2.2.2, fun p hp => ?_⟩
    rw [bg_18 hp]
    refine ⟨fun w => if_neg (by omega), fun w => ?_⟩
    have hp6 : p < G 6 0 := Nat.lt_of_not_le (fun y => w (if_neg (by omega)))
    rw [bg_19 hp6]
    exact wN_le hP hp
  · rw [if_neg z, if_neg z]
    obtain ⟨a1, a2, a3⟩ := hA a (by omega)
    refine ⟨a1, a2, fun p hp => ?_⟩
    rw [bg_lo (by decide) (by omega), bg_lo (by decide) (by omega)]
    exact a3 p hp
theorem io_begin (hI : Inv G) (hg : g < G 2 0) : IO (beginG G g t r) := by
  intro a ha h17
  have ha' : a < G 12 0 + 1 := ha
  have h17' : (if a = G 12 0 then 0 else G 17 a) = 0 := h17
  show G 1 0 < (if a = G 12 0 then G 1 0 else G 15 a) + G 4 (if a = G 12 0 then g else G 13 a)
  by_cases z : a = G 12 0
  · rw [if_pos z, if_pos z]
    have := (hI.1.2.2.1 g hg).1
    omega
  · rw [if_neg z] at h17'
    rw [if_neg z, if_neg z]
    exact hI.2 a (by omega) h17'
theorem bg_mAsk {a : Nat} (ha : a < G 12 0) : mAsk (beginG G g t r) a = mAsk G a := cnt_cg (fun p hp => by
  show decide (beginG G g t r 18 (60 * a + p) ≠ 0) = _
  rw [bg_lo (by decide) (by omega)])
theorem bg_mAns {a : Nat} (ha : a < G 12 0) : mAns (beginG G g t r) a = mAns G a := cnt_cg (fun p hp => by
  show decide (beginG G g t r 18 (60 * a + p) ≠ 0 ∧ beginG G g t r 21 (60 * a + p) ≠ 0) = _
  rw [bg_lo (by decide) (by omega), bg_lo (by decide) (by omega)])
theorem bg_sAll (i : Nat) : sAll (beginG G g t r) i = sAll G i := by
  show sm (fun a => if (if a = G 12 0 then g else G 13 a) = i ∧ (if a = G 12 0 then 0 else G 17 a) ≠ 0 then mAsk (beginG G g t r) a else 0) (G 12 0 + 1) = _
  unfold sm
  rw [if_neg (fun w => w.2 (if_pos rfl)), Nat.add_zero]
  refine sm_cg (fun a ha => ?_)
  show (if (if a = G 12 0 then g else G 13 a) = i ∧ (if a = G 12 0 then 0 else G 17 a) ≠ 0 then mAsk (beginG G g t r) a else 0) = _
  rw [if_neg (show ¬ a = G 12 0 by omega), if_neg (show ¬ a = G 12 0 by omega), bg_mAsk ha]
theorem bg_sGood (i : Nat) : sGood (beginG G g t r) i = sGood G i := by
  show sm (fun a => if (if a = G 12 0 then g else G 13 a) = i ∧ (if a = G 12 0 then 0 else G 17 a) ≠ 0 then mAns (beginG G g t r) a else 0) (G 12 0 + 1) = _
  unfold sm
  rw [if_neg (fun w => w.2 (if_pos rfl)), Nat.add_zero]
  refine sm_cg (fun a ha => ?_)
  show (if (if a = G 12 0 then g else G 13 a) = i ∧ (if a = G 12 0 then 0 else G 17 a) ≠ 0 then mAns (beginG G g t r) a else 0) = _
  rw [if_neg (show ¬ a = G 12 0 by omega), if_neg (show ¬ a = G 12 0 by omega), bg_mAns ha]
theorem bg_cAsk {p : Nat} (hp : p < 60) : cAsk (beginG G g t r) p = cAsk G p := by
  have e : cAsk (beginG G g t r) p = cnt (fun a => decide ((if a = G 12 0 then 0 else G 17 a) ≠ 0 ∧ beginG G g t r 18 (60 * a + p) ≠ 0)) (G 12 0 + 1) := rfl
  rw [e, cnt_0 (decide_eq_false (fun w => w.1 (if_pos rfl)))]
  refine cnt_cg (fun a ha => ?_)
  show decide ((if a = G 12 0 then 0 else G 17 a) ≠ 0 ∧ beginG G g t r 18 (60 * a + p) ≠ 0) = _
  rw [if_neg (show ¬ a = G 12 0 by omega), bg_lo (by decide) (by omega)]
theorem bg_cAns {p : Nat} (hp : p < 60) : cAns (beginG G g t r) p = cAns G p := by
  have e : cAns (beginG G g t r) p = cnt (fun a => decide ((if a = G 12 0 then 0 else G 17 a) ≠ 0 ∧ beginG G g t r 18 (60 * a + p) ≠ 0 ∧ beginG G g t r 21 (60 * a + p) ≠ 0)) (G 12 0 + 1) := rfl
  rw [e, cnt_0 (decide_eq_false (fun w => w.1 (if_pos rfl)))]
  refine cnt_cg (fun a ha => ?_)
  show decide ((if a = G 12 0 then 0 else G 17 a) ≠ 0 ∧ beginG G g t r 18 (60 * a + p) ≠ 0 ∧ beginG G g t r 21 (60 * a + p) ≠ 0) = _
  rw [if_neg (show ¬ a = G 12 0 by omega), bg_lo (by decide) (by omega), bg_lo (by decide) (by omega)]
theorem rsC_o {x y z : Int32} {s k : Nat} (h6 : ¬ (s = 6 ∧ k = 0)) (ha : (s < 35 ∨ s = 37) → 30 ≤ s → k ≠ cn C 2) (hb : (s = 35 ∨ s = 36) → k < 60 * cn C 2) : raiseC C x y z s k = C s k := by
  unfold raiseC
  rw [if_neg h6, if_neg (by omega), if_neg (by omega), if_neg (by omega), if_neg (by omega), if_neg (by omega), if_neg (by omega), if_neg (by omega), if_neg (by omega)]
theorem rsC_35 {x y z : Int32} {p : Nat} (hp : p < 60) : raiseC C x y z 35 (60 * cn C 2 + p) = if p < cn C 1 ∧ asksC C x y p = true then rnC C p 4 0 else -2 := by
  unfold raiseC
  rw [if_neg (by omega), if_neg (by omega), if_neg (by omega), if_neg (by omega), if_neg (by omega), if_neg (by omega), if_neg (by omega), if_pos (by omega), Nat.add_sub_cancel_left]
theorem rsC_36 {x y z : Int32} {p : Nat} (hp : p < 60) : raiseC C x y z 36 (60 * cn C 2 + p) = -2 := by
  unfold raiseC
  rw [if_neg (by omega), if_neg (by omega), if_neg (by omega), if_neg (by omega), if_neg (by omega), if_neg (by omega), if_neg (by omega), if_neg (by omega), if_pos (by omega)]
theorem as_eq (hB : IB G) (hQ : QP G C) {p : Nat} (hp : p < G 6 0) (hg : g ≤ 1000000) (ht : t ≤ 1) : asksC C (nI g) (nI t) p = askB G g t p := by
  obtain ⟨q1, -, q3, -⟩ := hQ p hp
  have h7 := hB 7 p (by decide)
  have h11 := hB 11 p (by decide)
  apply Bool.eq_iff_iff.mpr
  unfold asksC askB
  rw [q1, q3]
  simp only [Bool.and_eq_true, Bool.or_eq_true, decide_eq_true_eq]
  rw [nI_eq (a := G 7 p) (b := g) (by omega) (by omega), nI_z (n := G 11 p) (by omega), nI_z (n := t) (by omega), nq1 (n := G 11 p) (by omega)]
  omega
theorem rn_fw (hB : IB G) {p : Nat} (hw3 : G 8 p ≤ 3) (h23 : C 23 p = nI (G 8 p)) (hQ : ∀ i, i < G 8 p → C 21 (3 * p + i) = nI (G 9 (3 * p + i)) ∧ C 22 (3 * p + i) = nI (G 10 (3 * p + i))) : ∀ n i, n + i = 3 → rnC C p (n + 1) i = if fw G p n i < G 8 p then nI (200 * fw G p n i + G 9 (3 * p + fw G p n i)) else -1 := by
  intro n
  induction n with
  | zero =>
    intro i hi
    unfold rnC
    rw [if_neg (by omega)]
    show _ = if i < G 8 p then _ else _
    rw [if_neg (by omega)]
  | succ n ih =>
    intro i hi
    have e1 : rnC C p (n + 1 + 1) i = if nI i < C 23 p ∧ i < 3 then (if C 22 (3 * p + i) = 0 then rnC C p (n + 1) (i + 1) else 200 * nI i + C 21 (3 * p + i)) else -1 := rfl
    have e2 : fw G p (n + 1) i = if i < G 8 p then (if G 10 (3 * p + i) = 0 then fw G p n (i + 1) else i) else i := rfl
    have hlt : nI i < nI (G 8 p) ↔ i < G 8 p := nI_ltI (by omega) (by omega)
    rw [e1, e2, h23]
    by_cases z : i < G 8 p
    · obtain ⟨q1, q2⟩ := hQ i z
      have h10 := hB 10 (3 * p + i) (by decide)
      rw [if_pos ⟨hlt.mpr z, by omega⟩, if_pos z, q2, q1]
      by_cases y : G 10 (3 * p + i) = 0
      · rw [if_pos y, if_pos ((nI_z (by omega)).mpr y)]
        exact ih (i + 1) (by omega)
      · rw [if_neg y, if_neg (fun w => y ((nI_z (by omega)).mp w)), if_pos z, show (200 : Int32) = nI 200 from rfl, pk_mul, nI_add]
    · rw [if_neg (fun w => z (hlt.mp w.1)), if_neg z, if_neg z]
theorem rq_begin (hI : InvT G) (hQ : RQ G C) (hg : g < G 2 0) (ht : t ≤ 1) (hn : G 12 0 < 60) : RQ (beginG G g t r) (raiseC C (nI g) (nI t) (m1 r)) := by
  obtain ⟨hB, H0, hG, hP, hA⟩ := hI
  obtain ⟨q0, qG, qP, qA⟩ := hQ
  obtain ⟨c0, c1, c2⟩ := rq_cn H0 q0
  have hg12 := H0.1
  refine ⟨⟨q0.1, q0.2.1, q0.2.2.1, q0.2.2.2.1, q0.2.2.2.2.1, q0.2.2.2.2.2.1, ?_⟩, fun i hi => ?_, fun p hp => ?_, fun a ha => ?_⟩
  · show nI (cn C 2 + 1) = nI (G 12 0 + 1)
    rw [c2]
  · obtain ⟨a1, a2, a3, a4, a5⟩ := qG i hi
    rw [bg_sAll, bg_sGood]
    exact ⟨a1, a2, a3, a4, a5⟩
  · have hp6 : p < G 6 0 := hp
    have hp60 : p < 60 := by have := H0.2.1; omega
    obtain ⟨a1, a2, a3, a4, a5, a6⟩ := qP p hp
    rw [bg_cAsk hp60, bg_cAns hp60]
    exact ⟨a1, a2, a3, a4, a5, a6⟩
  · have ha' : a < G 12 0 + 1 := ha
    by_cases z : a = G 12 0
    · subst z
      have e30 : raiseC C (nI g) (nI t) (m1 r) 30 (G 12 0) = nI g := by
        rw [← c2]; unfold raiseC; rw [if_neg (by omega), if_pos ⟨rfl, rfl⟩]
      have e31 : raiseC C (nI g) (nI t) (m1 r) 31 (G 12 0) = nI t := by
        rw [← c2]; unfold raiseC; rw [if_neg (by omega), if_neg (by omega), if_pos ⟨rfl, rfl⟩]
      have e32 : raiseC C (nI g) (nI t) (m1 r) 32 (G 12 0) = C 0 0 := by
        rw [← c2]; unfold raiseC; rw [if_neg (by omega), if_neg (by omega), if_neg (by omega), if_pos ⟨rfl, rfl⟩]
      have e33 : raiseC C (nI g) (nI t) (m1 r) 33 (G 12 0) = C 0 0 + C 11 (nI g).toNatClampNeg := by
        rw [← c2]; unfold raiseC; rw [if_neg (by omega), if_neg (by omega), if_neg (by omega), if_neg (by omega), if_pos ⟨rfl, rfl⟩]
      have e34 : raiseC C (nI g) (nI t) (m1 r) 34 (G 12 0) = m1 r := by
        rw [← c2]; unfold raiseC; rw [if_neg (by omega), if_neg (by omega), if_neg (by omega), if_neg (by omega), if_neg (by omega), if_pos ⟨rfl, rfl⟩]
      have e37 : raiseC C (nI g) (nI t) (m1 r) 37 (G 12 0) = 0 := by
        rw [← c2]; unfold raiseC; rw [if_neg (by omega), if_neg (by omega), if_neg (by omega), if_neg (by omega), if_neg (by omega), if_neg (by omega), if_pos ⟨rfl, rfl⟩]
      rw [e30, e31, e32, e33, e34, e37]
      show nI g = nI (if G 12 0 = G 12 0 then g else _) ∧ nI t = nI (if G 12 0 = G 12 0 then t else _) ∧ C 0 0 = nI (if G 12 0 = G 12 0 then G 1 0 else _) ∧ C 0 0 + C 11 (nI g).toNatClampNeg = nI ((if G 12 0 = G 12 0 then G 1 0 else _) + G 4 (if G 12 0 = G 12 0 then g else _)) ∧ m1 r = m1 (if G 12 0 = G 12 0 then r else _) ∧ 0 = nI (if G 12 0 = G 12 0 then 0 else _) ∧ _
      rw [if_pos rfl, if_pos rfl, if_pos rfl, if_pos rfl, if_pos rfl, nI_clamp (by omega), q0.1, (qG g hg).2.1, nI_add]
      refine ⟨rfl, rfl, rfl, rfl, rfl, rfl, fun p hp => ?_⟩
      have f35 := rsC_35 (C := C) (x := nI g) (y := nI t) (z := m1 r) hp
      have f36 := rsC_36 (C := C) (x := nI g) (y := nI t) (z := m1 r) hp
      rw [c2] at f35 f36
      rw [f35, f36, c1]
      have e18 := bg_18 (G := G) (g := g) (t := t) (r := r) hp
      unfold rN sN
      rw [e18]
      by_cases y : p < G 6 0 ∧ askB G g t p = true
      · have y' : p < G 6 0 ∧ asksC C (nI g) (nI t) p = true := ⟨y.1, by rw [as_eq hB qP y.1 (by omega) ht]; exact y.2⟩
        rw [if_pos y, if_pos y', if_neg (show ¬ (1 : Nat) = 0 by decide), if_neg (show ¬ (1 : Nat) = 0 by decide), bg_19 y.1, bg_20 y.1, bg_21 y.1]
        refine ⟨?_, by decide⟩
        obtain ⟨-, b2, -, -, -, b6⟩ := qP p y.1
        rw [rn_fw hB (hP p hp).1 b2 b6 3 0 rfl]
        unfold wN
        by_cases w : fw G p 3 0 < G 8 p
        · rw [if_pos w, if_pos w, if_neg (by omega)]
          show _ = m2 (10 * (20 * fw G p 3 0) + G 9 (3 * p + fw G p 3 0) + 2)
          rw [m2_s]
          congr 1
          omega
        · rw [if_neg w, if_neg w, if_pos rfl]; decide
      · have y' : ¬ (p < G 6 0 ∧ asksC C (nI g) (nI t) p = true) := fun w => y ⟨w.1, by rw [← as_eq hB qP w.1 (by omega) ht]; exact w.2⟩
        rw [if_neg y, if_neg y', if_pos rfl, if_pos rfl]
        exact ⟨by decide, by decide⟩
    · have hlt : a < G 12 0 := by omega
      obtain ⟨a1, a2, a3, a4, a5, a6, a7⟩ := qA a hlt
      rw [rsC_o (by omega) (by omega) (by omega), rsC_o (by omega) (by omega) (by omega), rsC_o (by omega) (by omega) (by omega), rsC_o (by omega) (by omega) (by omega), rsC_o (by omega) (by omega) (by omega), rsC_o (by omega) (by omega) (by omega)]
      show C 30 a = nI (if a = G 12 0 then g else G 13 a) ∧ C 31 a = nI (if a = G 12 0 then t else G 14 a) ∧ C 32 a = nI (if a = G 12 0 then G 1 0 else G 15 a) ∧ C 33 a = nI ((if a = G 12 0 then G 1 0 else G 15 a) + G 4 (if a = G 12 0 then g else G 13 a)) ∧ C 34 a = m1 (if a = G 12 0 then r else G 16 a) ∧ C 37 a = nI (if a = G 12 0 then 0 else G 17 a) ∧ _
      rw [if_neg z, if_neg z, if_neg z, if_neg z, if_neg z]
      refine ⟨a1, a2, a3, a4, a5, a6, fun p hp => ?_⟩
      rw [rsC_o (by omega) (by omega) (by omega), rsC_o (by omega) (by omega) (by omega)]
      unfold rN sN
      rw [bg_lo (by decide) (by omega), bg_lo (by decide) (by omega), bg_lo (by decide) (by omega), bg_lo (by decide) (by omega)]
      exact a7 p hp
theorem rf_alarm {post : Int32 → Sm → Prop} {x1 : Int32} (hI : Inv G) (ht : t ≤ 1) (h1 : ¬ vp_in x1 (G 2 0) → post 0 (encS (gu G 0 0 1))) (h2 : ∀ g : Nat, x1 = nI g → g < G 2 0 → cnt (askB G g t) (G 6 0) = 0 → post 0 (encS (gu G 0 0 2))) (h3 : ∀ g : Nat, x1 = nI g → g < G 2 0 → cnt (askB G g t) (G 6 0) ≠ 0 → ¬ G 12 0 < 60 → post 0 (encS (gu G 0 0 3))) (h0 : ∀ g : Nat, x1 = nI g → g < G 2 0 → cnt (askB G g t) (G 6 0) ≠ 0 → G 12 0 < 60 → post (nI (G 12 0)) (encS (beginG (gu G 0 0 0) g t 0))) : v_M_alarm post (encS G) x1 (nI t) := by
  have H0 := hI.1.2.1
  have hna := H0.2.2.1
  have hng := H0.1
  have e12 : encS G 12 0 = nI (G 12 0) := rfl
  refine rf_isGroup H0 (fun g => rf_isGroup H0 (fun _ => ⟨fun z => absurd z d10, fun _ => ?_⟩) (fun w => absurd g w)) (fun g => rf_isGroup H0 (fun w => absurd w g) (fun _ => ⟨fun _ => ?_, fun z => absurd rfl z⟩))
  · obtain ⟨i, hi, e1, -⟩ := in_nI g (by omega)
    rw [e1]
    refine rf_asksAny hI.1.1 H0.2.1 (by omega) ht (fun s => ⟨fun _ => ?_, fun z => absurd rfl z⟩) (fun s => ⟨fun z => absurd z d10, fun _ => ?_⟩)
    · have J : ∀ s0, v_M_alarm_j42 post (encS G) (nI i) (nI t) s0 0 1 := fun s0 => rf_goes (fun z => absurd z d10) (fun _ _ => ⟨fun _ => h2 i e1 hi s, fun z => absurd rfl z⟩) (fun _ z => absurd rfl z) (fun _ z => absurd rfl z)
      exact ⟨fun _ => J 0, fun _ => J 1⟩
    · refine ⟨fun z => ?_, fun z => ?_⟩
      · refine rf_goes (fun z => absurd z d10) (fun _ z => absurd z d10) (fun _ _ _ => ⟨fun _ => h3 i e1 hi s (fun y => absurd z (nI_ge (a := G 12 0) (b := 60) y (by decide))), fun z => absurd rfl z⟩) (fun _ _ z => absurd rfl z)
      · have hn : G 12 0 < 60 := Nat.lt_of_not_le (fun y => z (nI_le (a := 60) y (by omega)))
        refine rf_goes (fun z => absurd z d10) (fun _ z => absurd z d10) (fun _ _ z => absurd z d10) (fun _ _ _ => ⟨fun z => absurd z d10, fun _ => ?_⟩)
        have q := rf_begin (G := gu G 0 0 0) (r := 0) (t := t) (g := i) (post := fun S3 => post ((S3 12 0) - 1) S3) (inv_th (by decide) hI).1 hn (by omega) ht (by
          show post (nI (G 12 0 + 1) - 1) _
          rw [nI_pred]
          exact h0 i e1 hi s hn)
        rw [m1_0] at q
        exact q
  · have J : ∀ s0, v_M_alarm_j42 post (encS G) x1 (nI t) s0 0 0 := fun s0 => rf_goes (fun _ => ⟨fun _ => h1 g, fun z => absurd rfl z⟩) (fun z => absurd rfl z) (fun z => absurd rfl z) (fun z => absurd rfl z)
    exact ⟨fun _ => J 0, fun _ => J 1⟩
theorem op_alarm {x1 x2 : Int32} (hx : x2 = 0 ∨ x2 = 1) (hI : Inv G) (hQ : RQ G C) (hmc : 10 ≤ mc) (hms : 300 ≤ ms) : u_A_alarm (fun r C' => v_M_alarm (fun b S' => b = r ∧ Fin9 C' S' 0) (encS G) x1 x2) (PX3 eIA eIS eUO (fun k C' => v_M_alarm (fun _ S' => Fin9 C' S' k) (encS G) x1 x2)) mc ms C x1 x2 := by
  have H0 := hI.1.2.1
  have hna := H0.2.2.1
  have hng := H0.1
  obtain ⟨t, ht, et⟩ : ∃ t : Nat, t ≤ 1 ∧ x2 = nI t := hx.elim (fun e => ⟨0, by decide, e⟩) (fun e => ⟨1, by decide, e⟩)
  subst et
  obtain ⟨c0, c1, c2⟩ := rq_cn H0 hQ.1
  refine ⟨1, 6, by omega, by omega, cl_rqG H0 hQ.1 (Nat.le_refl _) (Nat.le_refl _) (fun g => ?_) (fun g => Or.inl ⟨rfl, rf_alarm hI ht (fun _ => fin_th 1 (by decide) hI hQ) (fun i e hi => absurd (by rw [e]; exact vp_in_nI hi (by omega)) g) (fun i e hi => absurd (by rw [e]; exact vp_in_nI hi (by omega)) g) (fun i e hi => absurd (by rw [e]; exact vp_in_nI hi (by omega)) g)⟩)⟩
  obtain ⟨i, hi, e1, ec⟩ := in_nI g (by omega)
  subst e1
  have U : ∀ j : Nat, nI i = nI j → j < G 2 0 → j = i := fun j e hj => ((nI_eq (by omega) (by omega)).mp e).symm
  refine cl_would hI.1 hQ (by omega) ht (fun s => ⟨fun _ => ⟨by omega, by omega, Or.inr (Or.inl ⟨rfl, ?_⟩)⟩, fun z => absurd rfl z⟩) (fun s => ⟨fun z => absurd z d10, fun _ => ⟨fun z => ⟨4, 228, by omega, by omega, ?_⟩, fun z => ⟨by omega, by omega, Or.inr (Or.inr ⟨rfl, ?_⟩)⟩⟩⟩)
  · exact rf_alarm hI ht (fun w => absurd g w) (fun _ _ _ _ => fin_th 2 (by decide) hI hQ) (fun j e hj w => absurd (U j e hj ▸ s) w) (fun j e hj w => absurd (U j e hj ▸ s) w)
  · have z' : nI (G 12 0) < 60 := by rw [← hQ.1.2.2.2.2.2.2]; exact z
    have hn : G 12 0 < 60 := (nI_ltI (b := 60) (by omega) (by decide)).mp z'
    refine ⟨by rw [c0]; exact g, by rw [c2]; exact hn, hx, Nat.le_refl _, Nat.le_refl _, ?_⟩
    refine rf_alarm hI ht (fun w => absurd g w) (fun j e hj w => absurd w (U j e hj ▸ s)) (fun j e hj _ w => absurd hn w) (fun j e hj _ _ => ?_)
    have ej := U j e hj
    subst ej
    have q1 := inv_begin (G := gu G 0 0 0) (g := j) (t := t) (r := 0) (inv_th (by decide) hI).1 hi ht (by decide) hn
    have q2 := io_begin (G := gu G 0 0 0) (g := j) (t := t) (r := 0) (inv_th (by decide) hI) hi
    have q3 := rq_begin (G := gu G 0 0 0) (C := C) (g := j) (t := t) (r := 0) (inv_th (by decide) hI).1 (rq_th hQ) hi ht hn
    rw [m1_0] at q3
    refine ⟨?_, ⟨beginG (gu G 0 0 0) j t 0, ⟨q1, q2⟩, q3, rfl, rfl⟩⟩
    show nI (G 12 0) = nI (cn C 2 + 1) - 1
    rw [c2, nI_pred]
  · have z' : ¬ nI (G 12 0) < 60 := by rw [← hQ.1.2.2.2.2.2.2]; exact z
    have hn : ¬ G 12 0 < 60 := fun y => z' (nI_lt (b := 60) y (by decide))
    exact rf_alarm hI ht (fun w => absurd g w) (fun j e hj w => absurd w (U j e hj ▸ s)) (fun _ _ _ _ _ => fin_th 3 (by decide) hI hQ) (fun j e hj _ w => absurd w hn)
end OPS7
