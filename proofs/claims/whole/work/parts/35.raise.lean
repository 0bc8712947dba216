/-! What raising an alarm does to the class's memory. -/
def asksC (C : Sm) (g t : Int32) (p : Nat) : Bool := decide (C 20 p = g) && (decide (C 24 p = 0) || (decide (¬ t = 0) && decide (C 24 p = 1)))
def rnC (C : Sm) (p : Nat) : Nat → Nat → Int32
  | 0, _ => -1
  | n + 1, i => if nI i < C 23 p ∧ i < 3 then (if C 22 (3 * p + i) = 0 then rnC C p n (i + 1) else 200 * nI i + C 21 (3 * p + i)) else -1
def raiseC (C : Sm) (g t rs : Int32) : Sm := fun s p =>
  if s = 6 ∧ p = 0 then nI (cn C 2 + 1) else if s = 30 ∧ p = cn C 2 then g else if s = 31 ∧ p = cn C 2 then t else if s = 32 ∧ p = cn C 2 then C 0 0 else if s = 33 ∧ p = cn C 2 then C 0 0 + C 11 g.toNatClampNeg else if s = 34 ∧ p = cn C 2 then rs else if s = 37 ∧ p = cn C 2 then 0
  else if s = 35 ∧ 60 * cn C 2 ≤ p ∧ p < 60 * cn C 2 + 60 then (if p - 60 * cn C 2 < cn C 1 ∧ asksC C g t (p - 60 * cn C 2) = true then rnC C (p - 60 * cn C 2) 4 0 else -2) else if s = 36 ∧ 60 * cn C 2 ≤ p ∧ p < 60 * cn C 2 + 60 then -2 else C s p
def u_A_raise (post : Sm → Prop) (px : String → Sm → Prop) (mc ms : Nat) (C : Sm) (g t rs : Int32) : Prop := vp_in g (cn C 0) ∧ cn C 2 < 60 ∧ (t = 0 ∨ t = 1) ∧ 4 ≤ mc ∧ 228 ≤ ms ∧ post (raiseC C g t rs)

theorem p_L_init {e0 : Nat} {post : zM → Prop} {mc ms : Nat} {M : zM} {q : Nat} {x1 x2 x3 x4 x5 : Int32} (hq : M q = some (.inr (1, [.int 0, .int 0, .int 0, .int 0, .int 0, .null, .null, .int 0]))) (h2 : x2 = 0 ∨ x2 = 1) (hmc : 2 ≤ mc) (hms : 120 ≤ ms)
    (hp : ∀ (q6 q7 : Nat) (f6 f7 : Nat → Int32) (M' : zM), M q6 = none → M q7 = none → q6 ≠ q7 → M' q = some (.inr (1, [.int x1, .int x2, .int x3, .int x4, .int x5, .ref q6, .ref q7, .int 0])) → M' q6 = some (.inl (0, 60, .inl f6)) → (∀ i, i < 60 → f6 i = -2) → M' q7 = some (.inl (0, 60, .inl f7)) → (∀ i, i < 60 → f7 i = -2) → (∀ a, a ≠ q → a ≠ q6 → a ≠ q7 → M' a = M a) → post M') : w_L_init e0 post mc ms M q x1 x2 x3 x4 x5 := by
  refine p_pf hq (by simp) (fun M1 h1 o1 => ?_)
  refine ⟨by rcases h2 with rfl | rfl <;> exact ⟨by decide, by decide⟩, ?_⟩
  refine p_pf h1 (by simp) (fun M2 h2 o2 => ?_)
  refine p_pf h2 (by simp) (fun M3 h3 o3 => ?_)
  refine p_pf h3 (by simp) (fun M4 h4 o4 => ?_)
  refine p_pf h4 (by simp) (fun M5 h5 o5 => ?_)
  refine p_pf h5 (by simp) (fun M6 h6 o6 => ?_)
  have o : ∀ a, a ≠ q → M6 a = M a := fun a ha => (o6 a ha).trans ((o5 a ha).trans ((o4 a ha).trans ((o3 a ha).trans ((o2 a ha).trans (o1 a ha)))))
  have h6' : M6 q = some (.inr (1, [.int x1, .int x2, .int x3, .int x4, .int x5, .null, .null, .int 0])) := h6
  refine ⟨by decide, by decide, by omega, by omega, by decide, fun q6 hq6 => ?_⟩
  have n6 : q6 ≠ q := fun z => by rw [z, h6'] at hq6; cases hq6
  generalize hM7 : va_up M6 q6 (some (.inl (0, 60, .inl (fun _ => 0)))) = M7
  have g1 : M7 q = some (.inr (1, [.int x1, .int x2, .int x3, .int x4, .int x5, .null, .null, .int 0])) := by rw [← hM7, va_up_ne _ _ (Ne.symm n6)]; exact h6'
  have g2 : M7 q6 = some (.inl (0, 60, .inl (fun _ => 0))) := by rw [← hM7, va_up_self]
  have g3 : ∀ a, a ≠ q6 → M7 a = M6 a := fun a ha => by rw [← hM7, va_up_ne _ _ ha]
  refine p_pf g1 (by simp) (fun M8 h8 o8 => ?_)
  refine ⟨by decide, by decide, by omega, by omega, by decide, fun q7 hq7 => ?_⟩
  have n7 : q7 ≠ q := fun z => by rw [z, h8] at hq7; cases hq7
  have n76 : q7 ≠ q6 := fun z => by rw [z, o8 q6 n6, g2] at hq7; cases hq7
  generalize hM9 : va_up M8 q7 (some (.inl (0, 60, .inl (fun _ => 0)))) = M9
  have k1 : M9 q = some (.inr (1, [.int x1, .int x2, .int x3, .int x4, .int x5, .ref q6, .null, .int 0])) := by rw [← hM9, va_up_ne _ _ (Ne.symm n7)]; exact h8
  have k2 : M9 q7 = some (.inl (0, 60, .inl (fun _ => 0))) := by rw [← hM9, va_up_self]
  have k3 : ∀ a, a ≠ q7 → M9 a = M8 a := fun a ha => by rw [← hM9, va_up_ne _ _ ha]
  refine p_pf k1 (by simp) (fun M10 h10 o10 => ?_)
  have h10' : M10 q = some (.inr (1, [.int x1, .int x2, .int x3, .int x4, .int x5, .ref q6, .ref q7, .int 0])) := h10
  have j6 : M10 q6 = some (.inl (0, 60, .inl (fun _ => 0))) := by rw [o10 q6 n6, k3 q6 (Ne.symm n76), o8 q6 n6]; exact g2
  have j7 : M10 q7 = some (.inl (0, 60, .inl (fun _ => 0))) := by rw [o10 q7 n7]; exact k2
  refine ⟨_, _, h10', rfl, ?_⟩
  refine p_fill j6 (by decide) (fun f6 M11 a1 a2 a3 => ?_)
  have h11 : M11 q = some (.inr (1, [.int x1, .int x2, .int x3, .int x4, .int x5, .ref q6, .ref q7, .int 0])) := by rw [a3 q (Ne.symm n6)]; exact h10'
  refine ⟨_, _, h11, rfl, ?_⟩
  have j7' : M11 q7 = some (.inl (0, 60, .inl (fun _ => 0))) := by rw [a3 q7 n76]; exact j7
  refine p_fill j7' (by decide) (fun f7 M12 b1 b2 b3 => ?_)
  refine hp q6 q7 f6 f7 M12 ?_ ?_ (Ne.symm n76) ?_ ?_ a2 b1 b2 (fun a e1 e2 e3 => ?_)
  · rw [← o q6 n6]; exact hq6
  · rw [← o q7 n7, ← g3 q7 n76, ← o8 q7 n7]; exact hq7
  · rw [b3 q (Ne.symm n7)]; exact h11
  · rw [b3 q6 (Ne.symm n76)]; exact a1
  · rw [b3 a e3, a3 a e2, o10 a e1, k3 a e3, o8 a e1, g3 a e2]; exact o a e1
section RZ
variable {e0 : Nat} {M0 M : zM} {own : Nat → Prop} {Z : Zc} {C : Sm} {x : Nat} {nn : Nat → Nat}
theorem p_wba (h : RCx e0 M0 own M Z C x nn) {i : Nat} (hi : i < nn 1) {post : Int32 → zM → Prop} {g t : Int32} (hp : post (if asksC C g t i = true then 1 else 0) M) : w_P_wouldBeAsked e0 post M (Z.1 2 i) g t := by
  unfold asksC at hp
  refine cx_giP h hi rfl ?_
  refine ⟨fun h1 => ?_, fun h1 => ?_⟩
  · refine cx_giP h hi rfl ?_
    refine ⟨fun h2 => ?_, fun h2 => ?_⟩
    · rw [if_pos (by simp [h1, h2])] at hp; exact hp
    · refine ⟨fun h3 => ?_, fun h3 => ?_⟩
      · rw [if_neg (by simp [h2, h3])] at hp; exact hp
      · refine cx_giP h hi rfl ?_
        refine ⟨fun h4 => ?_, fun h4 => ?_⟩
        · rw [if_pos (by simp [h1, h3, h4])] at hp; exact hp
        · rw [if_neg (by simp [h2, h4])] at hp; exact hp
  · rw [if_neg (by simp [h1])] at hp; exact hp
theorem p_rn (h : RCx e0 M0 own M Z C x nn) {p : Nat} (hi : p < nn 1) {post : Int32 → zM → Prop} : ∀ d i : Nat, d + i = 3 → post (rnC C p (d + 1) i) M → w_P_reachNow_j2 e0 post (d + 1) M (Z.1 2 p) (nI i) := by
  intro d
  induction d with
  | zero =>
    intro i hd hp
    have e : i = 3 := by omega
    subst e
    have hp' : post (-1) M := by
      have : rnC C p 1 3 = -1 := by rw [rnC, if_neg (by omega)]
      rw [this] at hp; exact hp
    refine cx_giP h hi rfl ?_
    refine ⟨fun _ => hp', fun _ => ⟨fun _ => hp', fun z => absurd (by decide) z⟩⟩
  | succ d ih =>
    intro i hd hp
    rw [rnC] at hp
    refine cx_giP h hi rfl ?_
    refine ⟨fun z => ?_, fun z => ⟨fun z2 => ?_, fun _ => ?_⟩⟩
    · rw [if_neg (fun w => Int32.not_lt.mpr z w.1)] at hp; exact hp
    · exact absurd z2 (nI_ge (a := i) (b := 3) (by omega) (by decide))
    · rw [if_pos ⟨Int32.not_le.mp z, by omega⟩] at hp
      refine cx_grP h hi rfl ?_
      refine cx_ld h 4 1 3 22 (us2 h hi 4 (by decide)) (by decide) (vp_in_nI (by omega) (by decide)) ?_
      rw [nI_clamp (by omega)]
      refine ⟨fun z3 => ?_, fun z3 => ?_⟩
      · rw [if_pos z3] at hp
        rw [nI_1]
        exact ih (i + 1) (by omega) hp
      · rw [if_neg z3] at hp
        refine cx_grP h hi rfl ?_
        refine cx_ld h 3 0 3 21 (us2 h hi 3 (by decide)) (by decide) (vp_in_nI (by omega) (by decide)) ?_
        rw [nI_clamp (by omega)]
        exact hp
theorem p_groupOf (h : RCx e0 M0 own M Z C x nn) {g : Int32} (hg : vp_in g (nn 0)) {post : Option Nat → zM → Prop} {px : String → zM → Prop} {mc ms : Nat} (hp : post (some (Z.1 1 g.toNatClampNeg)) M) : w_A_groupOf e0 post px mc ms M x g := by
  obtain ⟨b1, b2, b3, b4⟩ := h.1.1.2.2 0 (by decide)
  have hc := h.2.2 0 (by decide)
  obtain ⟨j, hj, e⟩ := vp_in_of hg (by omega)
  refine ⟨cx_is9 h, 0, 0, Nat.zero_le _, Nat.zero_le _, ?_⟩
  refine ⟨fun z => absurd z (vp_in_ge hg), fun _ => cx_gr9 h rfl ⟨cx_isL h (by decide), cx_size h (by decide) ⟨fun _ => ?_, fun z => ?_⟩⟩⟩
  · refine cx_gr9 h rfl ⟨cx_isL h (by decide), cx_get h (by decide) hg ?_⟩
    exact ⟨_, rfl, cx_isG h (vp_in_lt hg), hp⟩
  · exact absurd (by rw [b4, e, hc]; exact nI_lt hj (by omega)) z

theorem raiseC_35 (hc : cn C 2 = nn 2) (hd : cn C 1 = nn 1) {g t rs : Int32} {i : Nat} (hi : i < 60) : raiseC C g t rs 35 (60 * nn 2 + i) = if i < nn 1 ∧ asksC C g t i = true then rnC C i 4 0 else -2 := by
  unfold raiseC
  rw [hc, hd, if_neg (by omega), if_neg (by omega), if_neg (by omega), if_neg (by omega), if_neg (by omega), if_neg (by omega), if_neg (by omega), if_pos ⟨rfl, by omega, by omega⟩, Nat.add_sub_cancel_left]
theorem raiseC_36 (hc : cn C 2 = nn 2) {g t rs : Int32} {i : Nat} (hi : i < 60) : raiseC C g t rs 36 (60 * nn 2 + i) = -2 := by
  unfold raiseC
  rw [hc, if_neg (by omega), if_neg (by omega), if_neg (by omega), if_neg (by omega), if_neg (by omega), if_neg (by omega), if_neg (by omega), if_neg (by omega), if_pos ⟨rfl, by omega, by omega⟩]
set_option maxHeartbeats 2000000 in
theorem p_raise {po : zM → Prop} {pxo : String → zM → Prop} {mc ms : Nat} {g t rs : Int32} {q q6 q7 : Nat} (hmc : 1 ≤ mc) (hms : 100 ≤ ms) (h60 : nn 2 < 60) (fq : cFr M0 own Z C q) (f6 : cFr M0 own Z C q6) (f7 : cFr M0 own Z C q7) (n6 : q6 ≠ q) (n7 : q7 ≠ q) (n67 : q6 ≠ q7)
    (hp : ∀ M' Z', RCx e0 M0 own M' Z' (raiseC C g t rs) x (fun i => if i = 2 then nn 2 + 1 else nn i) → po M') :
    ∀ d p (M : zM) (f f' : Nat → Int32), d + p = nn 1 → RCx e0 M0 own M Z C x nn → M q = some (.inr (1, [.int g, .int t, .int (C 0 0), .int (C 0 0 + C 11 g.toNatClampNeg), .int rs, .ref q6, .ref q7, .int 0])) → M q6 = some (.inl (0, 60, .inl f)) → (∀ i, i < 60 → f i = if i < p ∧ asksC C g t i = true then rnC C i 4 0 else -2) → M q7 = some (.inl (0, 60, .inl f')) → (∀ i, i < 60 → f' i = -2) → w_A_raise_j32 e0 po pxo (d + 1) mc ms M x g t q (nI p) := by
  intro d
  induction d with
  | zero =>
    intro p M f f' hd h hq h6 hf h7 hf'
    obtain ⟨b1, b2, b3, b4⟩ := h.1.1.2.2 1 (by decide)
    have hc1 := h.2.2 1 (by decide)
    have hc2 := h.2.2 2 (by decide)
    have hpn : p = nn 1 := by omega
    refine cx_gr9 h rfl ⟨cx_isL h (by decide), cx_size h (by decide) ⟨fun _ => ?_, fun z => ?_⟩⟩
    · refine cx_gr9 h rfl ⟨cx_isL h (by decide), mc, ms, Nat.le_refl _, Nat.le_refl _, ?_⟩
      refine cx_add (t := 2) (na := fun k => if k = 5 then q else if k = 6 then q6 else q7) (C' := raiseC C g t rs) h (by decide) h60 hq (by decide) (fun k _ => ?_) rfl hmc hms (fun k _ => ?_) (fun k k' hk hk' hz => ?_) ?_ (fun k i s p hu hd hs => ?_) (fun ea' cap' k hk => ?_) (fun M' Z' hR => hp M' Z' hR)
      · show cFr M0 own Z C (if k = 5 then q else if k = 6 then q6 else q7)
        split
        · exact fq
        · split
          · exact f6
          · exact f7
      · show M (if k = 5 then q else if k = 6 then q6 else q7) ≠ none
        split
        · rw [hq]; exact Option.some_ne_none _
        · split
          · rw [h6]; exact Option.some_ne_none _
          · rw [h7]; exact Option.some_ne_none _
      · unfold nK at hk hk'
        rcases (show k = 5 ∨ k = 6 ∨ k = 7 by omega) with rfl | rfl | rfl <;> rcases (show k' = 5 ∨ k' = 6 ∨ k' = 7 by omega) with rfl | rfl | rfl <;> simp at hz ⊢
        · exact n6 hz.symm
        · exact n7 hz.symm
        · exact n6 hz
        · exact n67 hz
        · exact n7 hz
        · exact n67 hz.symm
      · unfold raiseC
        rw [hc2, if_pos ⟨rfl, rfl⟩]
      · unfold cUs at hu
        unfold cDep at hd
        unfold raiseC
        rw [if_neg (by omega), if_neg (by omega), if_neg (by omega), if_neg (by omega), if_neg (by omega), if_neg (by omega), if_neg (by omega), if_neg (by omega), if_neg (by omega)]
      · have hk9 := hk
        unfold nK at hk
        rcases (show k = 5 ∨ k = 6 ∨ k = 7 by omega) with rfl | rfl | rfl
        · refine ⟨fun e => absurd e (by decide), fun e => absurd e (by decide), fun e => absurd e (by decide), fun e => absurd e (by decide), fun e => absurd e (by decide), fun e => absurd e (by decide), fun e => absurd e (by decide), fun _ => ?_, fun e => absurd e (by decide), fun e => absurd e (by decide)⟩
          rw [zGr_new hk9, zGr_new (k := 6) (by unfold nK; omega), zGr_new (k := 7) (by unfold nK; omega)]
          show M q = _
          rw [hq]
          simp [raiseC, hc2]
        · refine ⟨fun e => absurd e (by decide), fun e => absurd e (by decide), fun e => absurd e (by decide), fun e => absurd e (by decide), fun e => absurd e (by decide), fun e => absurd e (by decide), fun e => absurd e (by decide), fun e => absurd e (by decide), fun _ => ⟨f, ?_, fun i hi => ?_⟩, fun e => absurd e (by decide)⟩
          · rw [zGr_new hk9]; exact h6
          · rw [raiseC_35 hc2 hc1 hi, hf i hi, hpn]
        · refine ⟨fun e => absurd e (by decide), fun e => absurd e (by decide), fun e => absurd e (by decide), fun e => absurd e (by decide), fun e => absurd e (by decide), fun e => absurd e (by decide), fun e => absurd e (by decide), fun e => absurd e (by decide), fun e => absurd e (by decide), fun _ => ⟨f', ?_, fun i hi => ?_⟩⟩
          · rw [zGr_new hk9]; exact h7
          · rw [raiseC_36 hc2 hi, hf' i hi]
    · exact absurd (by rw [b4, hpn, hc1]; exact nI_le (Nat.le_refl _) (by omega)) z
  | succ d ih =>
    intro p M f f' hd h hq h6 hf h7 hf'
    obtain ⟨b1, b2, b3, b4⟩ := h.1.1.2.2 1 (by decide)
    have hc1 := h.2.2 1 (by decide)
    rw [hc1] at b1 b4
    have hpn : p < nn 1 := by omega
    refine cx_gr9 h rfl ⟨cx_isL h (by decide), cx_size h (by decide) ⟨fun z => ?_, fun _ => ?_⟩⟩
    · exact absurd z (by rw [b4]; exact nI_ge hpn (by omega))
    · refine cx_gr9 h rfl ⟨cx_isL h (by decide), cx_get h (by decide) (vp_in_nI hpn (by omega)) ?_⟩
      rw [nI_clamp (by omega)]
      refine ⟨_, rfl, cx_isP h hpn, cx_isP h hpn, p_wba h hpn ⟨fun z => ?_, fun z => ?_⟩⟩
      · have hz : ¬ asksC C g t p = true := fun w => by rw [if_pos w] at z; exact absurd z (by decide)
        show w_A_raise_j32 e0 po pxo (d + 1) mc ms M x g t q (nI p + 1)
        rw [nI_1]
        refine ih (p + 1) M f f' (by omega) h hq h6 (fun i hi => ?_) h7 hf'
        rw [hf i hi]
        by_cases w : i = p
        · subst w; rw [if_neg (by omega), if_neg (fun w => hz w.2)]
        · by_cases w2 : i < p ∧ asksC C g t i = true
          · rw [if_pos w2, if_pos ⟨by omega, w2.2⟩]
          · rw [if_neg w2, if_neg (fun w3 => w2 ⟨by omega, w3.2⟩)]
      · have hz : asksC C g t p = true := Decidable.byContradiction fun w => z (if_neg w)
        refine ⟨cx_isP h hpn, ?_⟩
        have k := p_rn h hpn (post := fun r29 M28 => wIs M28 q 1 ∧ w_L_ask e0 (fun M30 => w_A_raise_j80 e0 po pxo (w_A_raise_j32 e0 po pxo (d + 1)) mc ms M30 x g t q (nI p)) M28 q (nI p) r29) 3 0 rfl (by
          refine ⟨⟨_, hq⟩, fun w => absurd w (nI_pos (by omega)), fun _ => ⟨_, _, hq, rfl, _, _, h6, rfl, fun w => absurd w (nI_ge (a := p) (b := 60) (by omega) (by decide)), fun _ => ⟨_, _, hq, rfl, _, _, h6, vp_in_nI (by omega) (by decide), ?_⟩⟩⟩
          show w_A_raise_j32 e0 po pxo (d + 1) mc ms _ x g t q (nI p + 1)
          rw [nI_1, nI_clamp (by omega)]
          refine ih (p + 1) _ (upd f p (rnC C p 4 0)) f' (by omega) (cx_at h (fun a => a = q6) (fun a ha => by rw [ha]; exact f6) (fun a ha => va_up_ne _ _ ha)) ?_ (va_up_self _ _ _) (fun i hi => ?_) ?_ hf'
          · rw [va_up_ne _ _ (Ne.symm n6)]; exact hq
          · by_cases w : i = p
            · subst w; rw [pk_us, if_pos ⟨by omega, hz⟩]
            · rw [pk_un w, hf i hi]
              by_cases w2 : i < p ∧ asksC C g t i = true
              · rw [if_pos w2, if_pos ⟨by omega, w2.2⟩]
              · rw [if_neg w2, if_neg (fun w3 => w2 ⟨by omega, w3.2⟩)]
          · rw [va_up_ne _ _ (Ne.symm n67)]; exact h7)
        rw [nI_0] at k
        exact ⟨4, k⟩
end RZ
theorem lc_A_raise {e0 : Nat} {M0 : zM} {own : Nat → Prop} {x : Nat} {post : Sm → Prop} {po : zM → Prop} {px : String → Sm → Prop} {pxo : String → zM → Prop} {mc ms : Nat} {Z : Zc} {nn : Nat → Nat} {M : zM} {C : Sm} {g t rs : Int32} (hR : RCx e0 M0 own M Z C x nn) (hv : u_A_raise post px mc ms C g t rs) (hp : ∀ (M : zM) (Z : Zc) (C : Sm) (nn : Nat → Nat), RCx e0 M0 own M Z C x nn → post C → po M) (hpx : ∀ (E : String) (M : zM) (Z : Zc) (C : Sm) (nn : Nat → Nat), RCx e0 M0 own M Z C x nn → px E C → pxo E M) : w_A_raise e0 po pxo mc ms M x g t rs := by
  obtain ⟨hg, h60, ht, hmc, hms, hpo⟩ := hv
  have hc0 := hR.2.2 0 (by decide)
  have hc2 := hR.2.2 2 (by decide)
  rw [hc0] at hg
  rw [hc2] at h60
  refine ⟨by omega, by omega, fun q hq => ?_⟩
  have fq := cx_fr hR hq
  have h1 : RCx e0 M0 own (va_up M q (some (.inr (1, [.int 0, .int 0, .int 0, .int 0, .int 0, .null, .null, .int 0])))) Z C x nn := cx_at hR (fun a => a = q) (fun a ha => by rw [ha]; exact fq) (fun a ha => va_up_ne _ _ ha)
  refine cx_gi9 h1 rfl (cx_gi9 h1 rfl ⟨cx_is9 h1, 0, 0, Nat.zero_le _, Nat.zero_le _, p_groupOf h1 hg ⟨_, rfl, cx_giG h1 (vp_in_lt hg) rfl ⟨2, 120, by omega, by omega, ?_⟩⟩⟩)
  refine p_L_init (va_up_self _ _ _) ht (Nat.le_refl _) (Nat.le_refl _) (fun q6 q7 f6 f7 M' a1 a2 a3 a4 a5 a6 a7 a8 a9 => ?_)
  have g6 := cx_fr h1 a1
  have g7 := cx_fr h1 a2
  have n6 : q6 ≠ q := fun z => by rw [z, va_up_self] at a1; cases a1
  have n7 : q7 ≠ q := fun z => by rw [z, va_up_self] at a2; cases a2
  have h2 : RCx e0 M0 own M' Z C x nn := cx_at h1 (fun a => a = q ∨ a = q6 ∨ a = q7) (fun a ha => by rcases ha with rfl | rfl | rfl <;> assumption) (fun a ha => a9 a (fun z => ha (Or.inl z)) (fun z => ha (Or.inr (Or.inl z))) (fun z => ha (Or.inr (Or.inr z))))
  have k := p_raise (pxo := pxo) (mc := mc - 1 - 0 - 2) (ms := ms - 8 - 0 - 120) (by omega) (by omega) h60 fq g6 g7 n6 n7 a3 (fun M' Z' hR' => hp M' Z' _ _ hR' hpo) (nn 1) 0 M' f6 f7 rfl h2 a4 a5 (fun i hi => by rw [a6 i hi, if_neg (by omega)]) a7 a8
  rw [nI_0] at k
  exact ⟨nn 1 + 1, k⟩
