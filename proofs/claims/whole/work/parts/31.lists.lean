/-! The lists, over the map of cells. -/
abbrev zQ (f : Nat → Option Nat) : (Nat → Int32) ⊕ (Nat → Int64) ⊕ (Nat → UInt32) ⊕ (Nat → UInt64) ⊕ (Nat → Option Nat) := .inr (.inr (.inr (.inr f)))
section PL
variable {e0 : Nat} {M : zM} {l ea n cap : Nat} {f : Nat → Option Nat} {md : Int32}
theorem vp_in_le {i : Int32} {a b : Nat} (h : vp_in i a) (hab : a ≤ b) : vp_in i b := fun q => h (q.imp id (fun z => Nat.le_trans hab z))
theorem vp_in_ge {i : Int32} {a : Nat} (h : vp_in i a) : ¬ i < 0 := fun q => h (Or.inl q)
theorem vp_in_lt {i : Int32} {a : Nat} (h : vp_in i a) : i.toNatClampNeg < a := Nat.lt_of_not_le fun q => h (Or.inr q)
theorem p_size {post : Int32 → zM → Prop} {v : Int32} (hl : M l = some (.inr (5, [.ref ea, .int v, .int md]))) (hp : post v M) : w_Y_size e0 post M l := ⟨_, _, hl, rfl, hp⟩
theorem p_get {post : Option Nat → zM → Prop} {i : Int32} (hl : M l = some (.inr (5, [.ref ea, .int (nI n), .int md]))) (ha : M ea = some (.inl (2, cap, zQ f))) (hn : n ≤ cap) (hc : cap < 2 ^ 31) (hi : vp_in i n) (hp : post (f i.toNatClampNeg) M) : w_Y_get e0 post M l i := by
  refine ⟨_, _, hl, rfl, ?_⟩
  obtain ⟨j, hj, e⟩ := vp_in_of hi (by omega)
  refine ⟨fun h => absurd h (vp_in_ge hi), fun _ => ⟨fun _ => ?_, fun h => ?_⟩⟩
  · exact ⟨⟨_, hl⟩, _, _, hl, rfl, _, _, _, ha, vp_in_le hi hn, rfl, hp⟩
  · exact absurd (by rw [e]; exact nI_lt hj (by omega)) h
/-- what an add leaves -/
def yAdd (M M' : zM) (l ea n cap : Nat) (f : Nat → Option Nat) (md : Int32) (ob : Nat) : Prop :=
  ∃ (ea' cap' : Nat) (f' : Nat → Option Nat), M' l = some (.inr (5, [.ref ea', .int (nI (n + 1)), .int (md + 1)])) ∧ M' ea' = some (.inl (2, cap', zQ f')) ∧ n + 1 ≤ cap' ∧ cap' ≤ 109 ∧ (∀ q, q < n → f' q = f q) ∧ f' n = some ob ∧ (ea' = ea ∧ 0 < cap ∨ M ea' = none) ∧ ea' ≠ l ∧ ∀ a, a ≠ l → a ≠ ea' → M' a = M a
theorem p_add3 {M1 : zM} {post : zM → Prop} {mc ms : Nat} {ob ci : Nat} {fs : List Value} {a cap' : Nat} {f' : Nat → Option Nat} (hl : M1 l = some (.inr (5, [.ref a, .int (nI n), .int (md + 1)]))) (ha : M1 a = some (.inl (2, cap', zQ f'))) (hn : n + 1 ≤ cap') (hc : cap' ≤ 109) (hal : a ≠ l) (hob : M1 ob = some (.inr (ci, fs))) (hci : 1 ≤ ci ∧ ci ≤ 3) (hol : ob ≠ l) (hoa : ob ≠ a)
    (hp : ∀ M', M' l = some (.inr (5, [.ref a, .int (nI (n + 1)), .int (md + 1)])) → M' a = some (.inl (2, cap', zQ (va_up f' n (some ob)))) → (∀ b, b ≠ l → b ≠ a → M' b = M1 b) → post M') : w_Y_add3_j11 e0 post mc ms M1 l ob a (nI n) := by
  refine ⟨_, _, _, _, ha, vp_in_nI (by omega) (by omega), hob, hci, _, (va_up_ne _ _ (Ne.symm hal)).trans hl, (by simp), hp _ ?_ ?_ ?_⟩
  · rw [va_up_self, nI_1]; rfl
  · rw [va_up_ne _ _ hal, va_up_self, nI_clamp (by omega)]
  · intro b h1 h2
    rw [va_up_ne _ _ h1, va_up_ne _ _ h2]
theorem p_add {post : Int32 → zM → Prop} {mc ms ob ci : Nat} {fs : List Value} (hl : M l = some (.inr (5, [.ref ea, .int (nI n), .int md]))) (hea : (n = 0 ∧ ea = e0) ∨ (M ea = some (.inl (2, cap, zQ f)) ∧ n ≤ cap ∧ cap ≤ 109 ∧ 1 ≤ cap ∧ ea ≠ l ∧ ob ≠ ea ∧ ∀ q, q < n → ∀ y, f q = some y → y ≠ l ∧ ∃ (ci : Nat) (fs : List Value), M y = some (.inr (ci, fs)) ∧ 1 ≤ ci ∧ ci ≤ 3)) (hn : n < 60) (hob : M ob = some (.inr (ci, fs))) (hci : 1 ≤ ci ∧ ci ≤ 3) (hol : ob ≠ l) (hmc : 1 ≤ mc) (hms : 100 ≤ ms)
    (hp : ∀ M', yAdd M M' l ea n cap f md ob → post 1 M') : w_Y_add1 e0 post mc ms M l ob := by
  refine ⟨_, _, hl, rfl, _, hl, (by simp), ?_⟩
  generalize hM1 : va_up M l (some (.inr (5, ([.ref ea, .int (nI n), .int md] : List Value).set 2 (.int (md + 1))))) = M1
  have h1 : M1 l = some (.inr (5, [.ref ea, .int (nI n), .int (md + 1)])) := by rw [← hM1, va_up_self]; rfl
  have ho : ∀ b, b ≠ l → M1 b = M b := fun b hb => by rw [← hM1, va_up_ne _ _ hb]
  refine ⟨_, _, h1, rfl, _, _, h1, rfl, ⟨_, h1⟩, mc, ms, Nat.le_refl _, Nat.le_refl _, ?_⟩
  have hob1 : M1 ob = some (.inr (ci, fs)) := (ho ob hol).trans hob
  rcases hea with ⟨rfl, rfl⟩ | ⟨ha, hnc, hcc, hc2, hal, hoa, hel⟩
  · refine ⟨0, Or.inl ⟨rfl, rfl⟩, fun _ => ⟨⟨_, h1⟩, mc, ms, Nat.le_refl _, Nat.le_refl _, ?_⟩, fun h => absurd rfl h⟩
    refine ⟨_, _, h1, rfl, ⟨_, h1⟩, mc, ms, Nat.le_refl _, Nat.le_refl _, ?_⟩
    refine ⟨_, _, h1, rfl, 0, Or.inl ⟨rfl, rfl⟩, fun h => absurd h (by decide), fun _ => ⟨_, _, h1, rfl, fun _ => ?_, fun h => absurd rfl h⟩⟩
    refine ⟨fun h => absurd h (by decide), fun _ => ?_⟩
    refine ⟨by decide, by decide, hmc, (by show 10 ≤ ms; omega), fun q hq => ?_⟩
    have hql : q ≠ l := fun z => by rw [z, h1] at hq; cases hq
    have hqo : ob ≠ q := fun z => by rw [← z, hob1] at hq; cases hq
    refine ⟨_, (va_up_ne _ _ (Ne.symm hql)).trans h1, (by simp), _, rfl, _, rfl, ?_⟩
    refine p_add3 (fs := fs) (a := q) (cap' := 10) (f' := fun _ => none) (n := 0) ?_ ?_ (by decide) (by decide) hql ?_ hci hol hqo (fun M' a1 a2 a3 => hp M' ⟨q, 10, _, a1, a2, by decide, by decide, fun _ h => absurd h (Nat.not_lt_zero _), va_up_self _ _ _, Or.inr ?_, hql, fun b b1 b2 => ?_⟩)
    · rw [va_up_self]; rfl
    · rw [va_up_ne _ _ hql, va_up_self]; rfl
    · rw [va_up_ne _ _ hol, va_up_ne _ _ hqo]; exact hob1
    · rw [← ho q hql]; exact hq
    · rw [a3 b b1 b2, va_up_ne _ _ b1, va_up_ne _ _ b2]; exact ho b b1
  · have ha1 : M1 ea = some (.inl (2, cap, zQ f)) := (ho ea hal).trans ha
    refine ⟨nI cap, Or.inr ⟨_, ha1, rfl⟩, fun hq => ?_, fun hq => ?_⟩
    · have hcn : n = cap := (nI_eq (by omega) (by omega)).mp hq
      subst hcn
      refine ⟨⟨_, h1⟩, mc, ms, Nat.le_refl _, Nat.le_refl _, ?_⟩
      refine ⟨_, _, h1, rfl, ⟨_, h1⟩, mc, ms, Nat.le_refl _, Nat.le_refl _, ?_⟩
      refine ⟨_, _, h1, rfl, nI n, Or.inr ⟨_, ha1, rfl⟩, fun _ => ?_, fun h => absurd (nI_lt (a := 0) (b := n) (by omega) (by omega)) h⟩
      have ed : nI n + 1 - nI n = nI 1 := by
        rw [nI_1, pk_sub (by omega), Nat.add_sub_cancel_left]
      have es : nI n >>> ((1 : Int32) &&& 31) = nI (n / 2) := by
        have k := pk_shrN (n := n) (by omega) ((1 : Int32) &&& 31) 1 (by decide)
        rw [Nat.pow_one] at k
        exact k
      obtain ⟨g, hg, hg2⟩ : ∃ g : Nat, (1 ≤ g ∧ g ≤ 30) ∧ ∀ (po : Int32 → zM → Prop), po (nI g) M1 → w_YM_max e0 po M1 (nI n + 1 - nI n) (nI n >>> ((1 : Int32) &&& 31)) := by
        refine ⟨if 1 < n / 2 then n / 2 else 1, by split <;> omega, fun po hpo => ?_⟩
        rw [ed, es]
        refine ⟨fun h => ?_, fun h => ?_⟩
        · rw [if_pos ((nI_ltI (by omega) (by omega)).mp h)] at hpo; exact hpo
        · rw [if_neg (fun z => h (nI_lt z (by omega)))] at hpo; exact hpo
      unfold w_Y_grow1_j20 w_YS_newLength
      refine hg2 _ ?_
      refine ⟨fun h => absurd h (by rw [nI_add]; exact nI_nle (by omega) (by omega)), fun _ => ⟨fun h => absurd h (by rw [nI_add]; exact nI_nlt (a := 2147483639) (b := n + g) (by omega) (by decide)), fun _ => ?_⟩⟩
      rw [nI_add]
      refine ⟨_, _, h1, rfl, mc, ms, Nat.le_refl _, Nat.le_refl _, ⟨_, ha1⟩, mc, ms, Nat.le_refl _, Nat.le_refl _, ?_⟩
      refine ⟨nI_pos (by omega), (by rw [nI_clamp (by omega)]; omega), hmc, (by rw [nI_clamp (by omega)]; omega), fun q hq9 => ?_⟩
      have hql : q ≠ l := fun z => by rw [z, h1] at hq9; cases hq9
      have hqa : q ≠ ea := fun z => by rw [z, ha1] at hq9; cases hq9
      have hqo : ob ≠ q := fun z => by rw [← z, hob1] at hq9; cases hq9
      rw [nI_clamp (show n + g < 2 ^ 31 by omega)]
      generalize hM2 : va_up M1 q (some (.inl (2, n + g, zQ (fun _ => none)))) = M2
      have k1 : M2 l = some (.inr (5, [.ref ea, .int (nI n), .int (md + 1)])) := by rw [← hM2, va_up_ne _ _ (Ne.symm hql)]; exact h1
      have k2 : M2 ea = some (.inl (2, n, zQ f)) := by rw [← hM2, va_up_ne _ _ (Ne.symm hqa)]; exact ha1
      have k3 : M2 q = some (.inl (2, n + g, zQ (fun _ => none))) := by rw [← hM2, va_up_self]
      have k4 : ∀ b, b ≠ q → M2 b = M1 b := fun b hb => by rw [← hM2, va_up_ne _ _ hb]
      refine ⟨nI n, Or.inr ⟨_, k2, rfl⟩, ?_⟩
      refine ⟨fun h => absurd h (nI_nlt (a := n + g) (b := n) (by omega) (by omega)), fun _ => ?_⟩
      refine ⟨n, n + g, f, _, k2, k3, by decide, by decide, nI_pos (by omega), ?_, ?_, ?_, _, rfl, _, rfl, ?_⟩
      · rw [sb_cl0, nI_clamp (by omega)]; omega
      · rw [sb_cl0, nI_clamp (by omega)]; omega
      · intro i hi y hy
        rw [nI_clamp (by omega)] at hi
        rw [sb_cl0, Nat.zero_add] at hy
        obtain ⟨y1, ci', fs', y2, y3⟩ := hel i hi y hy
        exact ⟨ci', fs', by rw [k4 y (fun z => by rw [← z, ho y y1, y2] at hq9; cases hq9), ho y y1]; exact y2, y3⟩
      · rw [sb_cl0, nI_clamp (show n < 2 ^ 31 by omega)]
        refine ⟨_, (va_up_ne _ _ (Ne.symm hql)).trans k1, (by simp), _, rfl, _, rfl, ?_⟩
        refine p_add3 (fs := fs) (a := q) (cap' := n + g) (f' := va_cpy f (fun _ => none) 0 0 n) ?_ ?_ (by omega) (by omega) hql ?_ hci hol hqo (fun M' a1 a2 a3 => hp M' ⟨q, n + g, _, a1, a2, by omega, by omega, fun q' hq' => ?_, va_up_self _ _ _, Or.inr ?_, hql, fun b b1 b2 => ?_⟩)
        · rw [va_up_self]; rfl
        · rw [va_up_ne _ _ hql, va_up_self]
        · rw [va_up_ne _ _ hol, va_up_ne _ _ hqo, k4 ob hqo]; exact hob1
        · rw [va_up_ne _ _ (by omega), pk_cpy_in (by omega) (by omega)]; simp
        · rw [← ho q hql]; exact hq9
        · rw [a3 b b1 b2, va_up_ne _ _ b1, va_up_ne _ _ b2, k4 b b2]; exact ho b b1
    · have hlt : n < cap := by
        rcases Nat.lt_or_eq_of_le hnc with h | h
        · exact h
        · exact absurd (by rw [h]) hq
      refine p_add3 (a := ea) h1 ha1 (by omega) hcc hal hob1 hci hol hoa (fun M' a1 a2 a3 => hp M' ⟨ea, cap, _, a1, a2, by omega, hcc, fun q' hq' => va_up_ne _ _ (by omega), va_up_self _ _ _, Or.inl ⟨rfl, by omega⟩, hal, fun b b1 b2 => ?_⟩)
      rw [a3 b b1 b2]; exact ho b b1
end PL
