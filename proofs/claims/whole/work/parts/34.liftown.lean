def aW (C : Sm) (s p : Nat) (v : Int32) (K : Sm → Prop) : Prop := K (su C s p v)
def aLC (C : Sm) (s len own : Nat) (q : Int32) (K : Int32 → Prop) : Prop := vp_in q len ∧ K (C s (len * own + q.toNatClampNeg))
def aSC (C : Sm) (s len own : Nat) (q v : Int32) (K : Sm → Prop) : Prop := vp_in q len ∧ K (su C s (len * own + q.toNatClampNeg) v)
def aGT (C : Sm) (t : Nat) (q : Int32) (K : Nat → Prop) : Prop := vp_in q (cn C t) ∧ K q.toNatClampNeg
def u_P_setWay_j31 (post : Sm → Prop) (C : Sm) (l0 : Nat) (l1 : Int32) (l2 : Int32) (l3 : Int32) : Prop := ((l3 < 3) → aSC C 21 3 l0 l3 l1 (fun C1 => aSC C1 22 3 l0 l3 (vp_nar .boolean l2) (fun C2 => ((l3 = (C2 23 l0)) → aW C2 23 l0 ((C2 23 l0) + 1) (fun C3 => post C3)) ∧ (¬ (l3 = (C2 23 l0)) → post C2)))) ∧ (¬ (l3 < 3) → post C)
set_option maxRecDepth 100000 in
theorem lc_P_setWay_j31 {e0 : Nat} {M0 : zM} {own : Nat → Prop} {x : Nat} {Z : Zc} {nn : Nat → Nat} {post : Sm → Prop} {po : zM → Prop} (hp : ∀ (M : zM) (C : Sm), RCx e0 M0 own M Z C x nn → post C → po M) : ∀  (M : zM) (C : Sm) (l0 : Nat) (l1 : Int32) (l2 : Int32) (l3 : Int32), RCx e0 M0 own M Z C x nn → l0 < nn 1 → u_P_setWay_j31 post   C l0 l1 l2 l3 → w_P_setWay_j31 e0 po   M (Z.1 2 l0) l1 l2 l3 := by
  intro M C l0 l1 l2 l3 hR hl0 hv
  refine ⟨fun hq => ?_, fun hq => ?_⟩
  · have hv := hv.1 hq
    refine cx_grP hR hl0 rfl ?_
    obtain ⟨hi9, hv⟩ := hv
    refine cx_s3 hR hl0 hi9 (fun M hR => ?_)
    refine cx_grP hR hl0 rfl ?_
    obtain ⟨hi9, hv⟩ := hv
    refine cx_s4 hR hl0 hi9 (fun M hR => ?_)
    refine cx_giP hR hl0 rfl ?_
    refine ⟨fun hq => ?_, fun hq => ?_⟩
    · have hv := hv.1 hq
      refine cx_giP hR hl0 rfl ?_
      refine cx_pP hR hl0 (by decide) (fun M hR => ?_)
      exact hp _ _ hR hv
    · have hv := hv.2 hq
      exact hp _ _ hR hv
  · have hv := hv.2 hq
    exact hp _ _ hR hv
def u_P_setWay_j2 (post : Sm → Prop) : Nat → Sm → Nat → Int32 → Int32 → Int32 → Prop
  | 0 => fun _ _ _ _ _ => False
  | n + 1 => fun C l0 l1 l2 l3 => (((C 23 l0) ≤ l3) → u_P_setWay_j31 post C l0 l1 l2 l3) ∧ (¬ ((C 23 l0) ≤ l3) → ((3 ≤ l3) → u_P_setWay_j31 post C l0 l1 l2 l3) ∧ (¬ (3 ≤ l3) → aLC C 21 3 l0 l3 (fun v1 => ((v1 = l1) → u_P_setWay_j31 post C l0 l1 l2 l3) ∧ (¬ (v1 = l1) → u_P_setWay_j2 post n C l0 l1 l2 (l3 + 1)))))
set_option maxRecDepth 100000 in
theorem lc_P_setWay_j2 {e0 : Nat} {M0 : zM} {own : Nat → Prop} {x : Nat} {Z : Zc} {nn : Nat → Nat} {post : Sm → Prop} {po : zM → Prop} (hp : ∀ (M : zM) (C : Sm), RCx e0 M0 own M Z C x nn → post C → po M) : ∀ n : Nat, ∀  (M : zM) (C : Sm) (l0 : Nat) (l1 : Int32) (l2 : Int32) (l3 : Int32), RCx e0 M0 own M Z C x nn → l0 < nn 1 → u_P_setWay_j2 post  n  C l0 l1 l2 l3 → w_P_setWay_j2 e0 po  n  M (Z.1 2 l0) l1 l2 l3 := by
  intro n
  induction n with
  | zero => intro M C l0 l1 l2 l3 hR hl0 hv; exact hv.elim
  | succ n ih =>
    intro M C l0 l1 l2 l3 hR hl0 hv
    refine cx_giP hR hl0 rfl ?_
    refine ⟨fun hq => ?_, fun hq => ?_⟩
    · have hv := hv.1 hq
      exact lc_P_setWay_j31 hp  _ _ _ _ _ _ hR hl0 hv
    · have hv := hv.2 hq
      refine ⟨fun hq => ?_, fun hq => ?_⟩
      · have hv := hv.1 hq
        exact lc_P_setWay_j31 hp  _ _ _ _ _ _ hR hl0 hv
      · have hv := hv.2 hq
        refine cx_grP hR hl0 rfl ?_
        obtain ⟨hi9, hv⟩ := hv
        refine cx_ld hR 3 0 3 21 (us2 hR hl0 3 (by decide)) (by decide) hi9 ?_
        refine ⟨fun hq => ?_, fun hq => ?_⟩
        · have hv := hv.1 hq
          exact lc_P_setWay_j31 hp  _ _ _ _ _ _ hR hl0 hv
        · have hv := hv.2 hq
          exact ih _ _ _ _ _ _ hR hl0 hv
def u_P_setWay (post : Sm → Prop) (C : Sm) (i0 : Nat) (x1 : Int32) (x2 : Int32) : Prop := ∃ nn9, u_P_setWay_j2 post nn9 C i0 x1 x2 0
set_option maxRecDepth 100000 in
theorem lc_P_setWay {e0 : Nat} {M0 : zM} {own : Nat → Prop} {x : Nat} {Z : Zc} {nn : Nat → Nat} {post : Sm → Prop} {po : zM → Prop} {M : zM} {C : Sm} {i0 : Nat} {x1 : Int32} {x2 : Int32} (hR : RCx e0 M0 own M Z C x nn) (hi0 : i0 < nn 1) (hv : u_P_setWay post  C i0 x1 x2) (hp : ∀ (M : zM) (C : Sm), RCx e0 M0 own M Z C x nn → post C → po M) : w_P_setWay e0 po  M (Z.1 2 i0) x1 x2 := by
  obtain ⟨nfu, hv⟩ := hv
  exact ⟨nfu, lc_P_setWay_j2 hp  nfu _ _ _ _ _ _ hR hi0 hv⟩
def u_P_wouldBeAsked_j31 (post : Int32 → Sm → Prop) (C : Sm) : Prop := post 0 C
set_option maxRecDepth 100000 in
theorem lc_P_wouldBeAsked_j31 {e0 : Nat} {M0 : zM} {own : Nat → Prop} {x : Nat} {Z : Zc} {nn : Nat → Nat} {post : Int32 → Sm → Prop} {po : Int32 → zM → Prop} (hp : ∀ (r : Int32) (M : zM) (C : Sm), RCx e0 M0 own M Z C x nn → post r C → po r M) : ∀  (M : zM) (C : Sm) , RCx e0 M0 own M Z C x nn → u_P_wouldBeAsked_j31 post   C  → w_P_wouldBeAsked_j31 e0 po   M  := by
  intro M C hR hv
  exact hp _ _ _ hR hv
def u_P_wouldBeAsked_j27 (post : Int32 → Sm → Prop) (C : Sm) : Prop := post 1 C
set_option maxRecDepth 100000 in
theorem lc_P_wouldBeAsked_j27 {e0 : Nat} {M0 : zM} {own : Nat → Prop} {x : Nat} {Z : Zc} {nn : Nat → Nat} {post : Int32 → Sm → Prop} {po : Int32 → zM → Prop} (hp : ∀ (r : Int32) (M : zM) (C : Sm), RCx e0 M0 own M Z C x nn → post r C → po r M) : ∀  (M : zM) (C : Sm) , RCx e0 M0 own M Z C x nn → u_P_wouldBeAsked_j27 post   C  → w_P_wouldBeAsked_j27 e0 po   M  := by
  intro M C hR hv
  exact hp _ _ _ hR hv
def u_P_wouldBeAsked (post : Int32 → Sm → Prop) (C : Sm) (i0 : Nat) (x1 : Int32) (x2 : Int32) : Prop := (((C 20 i0) = x1) → (((C 24 i0) = 0) → u_P_wouldBeAsked_j27 post C) ∧ (¬ ((C 24 i0) = 0) → ((x2 = 0) → u_P_wouldBeAsked_j31 post C) ∧ (¬ (x2 = 0) → (((C 24 i0) = 1) → u_P_wouldBeAsked_j27 post C) ∧ (¬ ((C 24 i0) = 1) → u_P_wouldBeAsked_j31 post C)))) ∧ (¬ ((C 20 i0) = x1) → u_P_wouldBeAsked_j31 post C)
set_option maxRecDepth 100000 in
theorem lc_P_wouldBeAsked {e0 : Nat} {M0 : zM} {own : Nat → Prop} {x : Nat} {Z : Zc} {nn : Nat → Nat} {post : Int32 → Sm → Prop} {po : Int32 → zM → Prop} {M : zM} {C : Sm} {i0 : Nat} {x1 : Int32} {x2 : Int32} (hR : RCx e0 M0 own M Z C x nn) (hi0 : i0 < nn 1) (hv : u_P_wouldBeAsked post  C i0 x1 x2) (hp : ∀ (r : Int32) (M : zM) (C : Sm), RCx e0 M0 own M Z C x nn → post r C → po r M) : w_P_wouldBeAsked e0 po  M (Z.1 2 i0) x1 x2 := by
  refine cx_giP hR hi0 rfl ?_
  refine ⟨fun hq => ?_, fun hq => ?_⟩
  · have hv := hv.1 hq
    refine cx_giP hR hi0 rfl ?_
    refine ⟨fun hq => ?_, fun hq => ?_⟩
    · have hv := hv.1 hq
      exact lc_P_wouldBeAsked_j27 hp  _ _ hR hv
    · have hv := hv.2 hq
      refine ⟨fun hq => ?_, fun hq => ?_⟩
      · have hv := hv.1 hq
        exact lc_P_wouldBeAsked_j31 hp  _ _ hR hv
      · have hv := hv.2 hq
        refine cx_giP hR hi0 rfl ?_
        refine ⟨fun hq => ?_, fun hq => ?_⟩
        · have hv := hv.1 hq
          exact lc_P_wouldBeAsked_j27 hp  _ _ hR hv
        · have hv := hv.2 hq
          exact lc_P_wouldBeAsked_j31 hp  _ _ hR hv
  · have hv := hv.2 hq
    exact lc_P_wouldBeAsked_j31 hp  _ _ hR hv
def u_P_reachNow_j2 (post : Int32 → Sm → Prop) : Nat → Sm → Nat → Int32 → Prop
  | 0 => fun _ _ _ => False
  | n + 1 => fun C l0 l1 => (((C 23 l0) ≤ l1) → post (-1) C) ∧ (¬ ((C 23 l0) ≤ l1) → ((3 ≤ l1) → post (-1) C) ∧ (¬ (3 ≤ l1) → aLC C 22 3 l0 l1 (fun v1 => ((v1 = 0) → u_P_reachNow_j2 post n C l0 (l1 + 1)) ∧ (¬ (v1 = 0) → aLC C 21 3 l0 l1 (fun v2 => post ((200 * l1) + v2) C)))))
set_option maxRecDepth 100000 in
theorem lc_P_reachNow_j2 {e0 : Nat} {M0 : zM} {own : Nat → Prop} {x : Nat} {Z : Zc} {nn : Nat → Nat} {post : Int32 → Sm → Prop} {po : Int32 → zM → Prop} (hp : ∀ (r : Int32) (M : zM) (C : Sm), RCx e0 M0 own M Z C x nn → post r C → po r M) : ∀ n : Nat, ∀  (M : zM) (C : Sm) (l0 : Nat) (l1 : Int32), RCx e0 M0 own M Z C x nn → l0 < nn 1 → u_P_reachNow_j2 post  n  C l0 l1 → w_P_reachNow_j2 e0 po  n  M (Z.1 2 l0) l1 := by
  intro n
  induction n with
  | zero => intro M C l0 l1 hR hl0 hv; exact hv.elim
  | succ n ih =>
    intro M C l0 l1 hR hl0 hv
    refine cx_giP hR hl0 rfl ?_
    refine ⟨fun hq => ?_, fun hq => ?_⟩
    · have hv := hv.1 hq
      exact hp _ _ _ hR hv
    · have hv := hv.2 hq
      refine ⟨fun hq => ?_, fun hq => ?_⟩
      · have hv := hv.1 hq
        exact hp _ _ _ hR hv
      · have hv := hv.2 hq
        refine cx_grP hR hl0 rfl ?_
        obtain ⟨hi9, hv⟩ := hv
        refine cx_ld hR 4 1 3 22 (us2 hR hl0 4 (by decide)) (by decide) hi9 ?_
        refine ⟨fun hq => ?_, fun hq => ?_⟩
        · have hv := hv.1 hq
          exact ih _ _ _ _ hR hl0 hv
        · have hv := hv.2 hq
          refine cx_grP hR hl0 rfl ?_
          obtain ⟨hi9, hv⟩ := hv
          refine cx_ld hR 3 0 3 21 (us2 hR hl0 3 (by decide)) (by decide) hi9 ?_
          exact hp _ _ _ hR hv
def u_P_reachNow (post : Int32 → Sm → Prop) (C : Sm) (i0 : Nat) : Prop := ∃ nn9, u_P_reachNow_j2 post nn9 C i0 0
set_option maxRecDepth 100000 in
theorem lc_P_reachNow {e0 : Nat} {M0 : zM} {own : Nat → Prop} {x : Nat} {Z : Zc} {nn : Nat → Nat} {post : Int32 → Sm → Prop} {po : Int32 → zM → Prop} {M : zM} {C : Sm} {i0 : Nat} (hR : RCx e0 M0 own M Z C x nn) (hi0 : i0 < nn 1) (hv : u_P_reachNow post  C i0) (hp : ∀ (r : Int32) (M : zM) (C : Sm), RCx e0 M0 own M Z C x nn → post r C → po r M) : w_P_reachNow e0 po  M (Z.1 2 i0) := by
  obtain ⟨nfu, hv⟩ := hv
  exact ⟨nfu, lc_P_reachNow_j2 hp  nfu _ _ _ _ hR hi0 hv⟩
def u_L_reachOf_j22 (post : Int32 → Sm → Prop) (C : Sm) : Prop := post (-2) C
set_option maxRecDepth 100000 in
theorem lc_L_reachOf_j22 {e0 : Nat} {M0 : zM} {own : Nat → Prop} {x : Nat} {Z : Zc} {nn : Nat → Nat} {post : Int32 → Sm → Prop} {po : Int32 → zM → Prop} (hp : ∀ (r : Int32) (M : zM) (C : Sm), RCx e0 M0 own M Z C x nn → post r C → po r M) : ∀  (M : zM) (C : Sm) , RCx e0 M0 own M Z C x nn → u_L_reachOf_j22 post   C  → w_L_reachOf_j22 e0 po   M  := by
  intro M C hR hv
  exact hp _ _ _ hR hv
def u_L_reachOf (post : Int32 → Sm → Prop) (C : Sm) (i0 : Nat) (x1 : Int32) : Prop := ((x1 < 0) → u_L_reachOf_j22 post C) ∧ (¬ (x1 < 0) → ((60 ≤ x1) → u_L_reachOf_j22 post C) ∧ (¬ (60 ≤ x1) → aLC C 35 60 i0 x1 (fun v1 => post v1 C)))
set_option maxRecDepth 100000 in
theorem lc_L_reachOf {e0 : Nat} {M0 : zM} {own : Nat → Prop} {x : Nat} {Z : Zc} {nn : Nat → Nat} {post : Int32 → Sm → Prop} {po : Int32 → zM → Prop} {M : zM} {C : Sm} {i0 : Nat} {x1 : Int32} (hR : RCx e0 M0 own M Z C x nn) (hi0 : i0 < nn 2) (hv : u_L_reachOf post  C i0 x1) (hp : ∀ (r : Int32) (M : zM) (C : Sm), RCx e0 M0 own M Z C x nn → post r C → po r M) : w_L_reachOf e0 po  M (Z.1 5 i0) x1 := by
  refine ⟨fun hq => ?_, fun hq => ?_⟩
  · have hv := hv.1 hq
    exact lc_L_reachOf_j22 hp  _ _ hR hv
  · have hv := hv.2 hq
    refine cx_grA hR hi0 rfl ?_
    refine cx_alen hR hi0 6 (by decide) ?_
    refine ⟨fun hq => ?_, fun hq => ?_⟩
    · have hv := hv.1 hq
      exact lc_L_reachOf_j22 hp  _ _ hR hv
    · have hv := hv.2 hq
      refine cx_grA hR hi0 rfl ?_
      obtain ⟨hi9, hv⟩ := hv
      refine cx_ld hR 6 0 60 35 (us5 hR hi0 6 (by decide)) (by decide) hi9 ?_
      exact hp _ _ _ hR hv
def u_L_hasReached (post : Int32 → Sm → Prop) (C : Sm) (i0 : Nat) (x1 : Int32) : Prop := u_L_reachOf (fun r2 C1 => ((r2 < 0) → post 0 C1) ∧ (¬ (r2 < 0) → post 1 C1)) C i0 x1
set_option maxRecDepth 100000 in
theorem lc_L_hasReached {e0 : Nat} {M0 : zM} {own : Nat → Prop} {x : Nat} {Z : Zc} {nn : Nat → Nat} {post : Int32 → Sm → Prop} {po : Int32 → zM → Prop} {M : zM} {C : Sm} {i0 : Nat} {x1 : Int32} (hR : RCx e0 M0 own M Z C x nn) (hi0 : i0 < nn 2) (hv : u_L_hasReached post  C i0 x1) (hp : ∀ (r : Int32) (M : zM) (C : Sm), RCx e0 M0 own M Z C x nn → post r C → po r M) : w_L_hasReached e0 po  M (Z.1 5 i0) x1 := by
  refine ⟨cx_isA hR hi0, ?_⟩
  refine lc_L_reachOf hR hi0 hv (fun r2 M C19 hR hv => ?_)
  refine ⟨fun hq => ?_, fun hq => ?_⟩
  · have hv := hv.1 hq
    exact hp _ _ _ hR hv
  · have hv := hv.2 hq
    exact hp _ _ _ hR hv
def u_L_hasReachedBy_j29 (post : Int32 → Sm → Prop) (C : Sm) : Prop := post 0 C
set_option maxRecDepth 100000 in
theorem lc_L_hasReachedBy_j29 {e0 : Nat} {M0 : zM} {own : Nat → Prop} {x : Nat} {Z : Zc} {nn : Nat → Nat} {post : Int32 → Sm → Prop} {po : Int32 → zM → Prop} (hp : ∀ (r : Int32) (M : zM) (C : Sm), RCx e0 M0 own M Z C x nn → post r C → po r M) : ∀  (M : zM) (C : Sm) , RCx e0 M0 own M Z C x nn → u_L_hasReachedBy_j29 post   C  → w_L_hasReachedBy_j29 e0 po   M  := by
  intro M C hR hv
  exact hp _ _ _ hR hv
def u_L_hasReachedBy (post : Int32 → Sm → Prop) (C : Sm) (i0 : Nat) (x1 : Int32) (x2 : Int32) : Prop := u_L_hasReached (fun r2 C1 => ((r2 = 0) → u_L_hasReachedBy_j29 post C1) ∧ (¬ (r2 = 0) → u_L_reachOf (fun r4 C3 => (((x1 - (C1 32 i0)) < (r4 / 10)) → u_L_hasReachedBy_j29 post C3) ∧ (¬ ((x1 - (C1 32 i0)) < (r4 / 10)) → post 1 C3)) C1 i0 x2)) C i0 x2
set_option maxRecDepth 100000 in
theorem lc_L_hasReachedBy {e0 : Nat} {M0 : zM} {own : Nat → Prop} {x : Nat} {Z : Zc} {nn : Nat → Nat} {post : Int32 → Sm → Prop} {po : Int32 → zM → Prop} {M : zM} {C : Sm} {i0 : Nat} {x1 : Int32} {x2 : Int32} (hR : RCx e0 M0 own M Z C x nn) (hi0 : i0 < nn 2) (hv : u_L_hasReachedBy post  C i0 x1 x2) (hp : ∀ (r : Int32) (M : zM) (C : Sm), RCx e0 M0 own M Z C x nn → post r C → po r M) : w_L_hasReachedBy e0 po  M (Z.1 5 i0) x1 x2 := by
  refine ⟨cx_isA hR hi0, ?_⟩
  refine lc_L_hasReached hR hi0 hv (fun r2 M C19 hR hv => ?_)
  refine ⟨fun hq => ?_, fun hq => ?_⟩
  · have hv := hv.1 hq
    exact lc_L_hasReachedBy_j29 hp  _ _ hR hv
  · have hv := hv.2 hq
    refine cx_giA hR hi0 rfl ?_
    refine ⟨cx_isA hR hi0, ?_⟩
    refine lc_L_reachOf hR hi0 hv (fun r4 M C39 hR hv => ?_)
    refine ⟨fun hq => ?_, fun hq => ?_⟩
    · have hv := hv.1 hq
      exact lc_L_hasReachedBy_j29 hp  _ _ hR hv
    · have hv := hv.2 hq
      exact hp _ _ _ hR hv
def u_L_note (post : Sm → Prop) (C : Sm) (i0 : Nat) (x1 : Int32) (x2 : Int32) : Prop := ((x1 < 0) → post C) ∧ (¬ (x1 < 0) → ((60 ≤ x1) → post C) ∧ (¬ (60 ≤ x1) → aSC C 36 60 i0 x1 x2 (fun C1 => post C1)))
set_option maxRecDepth 100000 in
theorem lc_L_note {e0 : Nat} {M0 : zM} {own : Nat → Prop} {x : Nat} {Z : Zc} {nn : Nat → Nat} {post : Sm → Prop} {po : zM → Prop} {M : zM} {C : Sm} {i0 : Nat} {x1 : Int32} {x2 : Int32} (hR : RCx e0 M0 own M Z C x nn) (hi0 : i0 < nn 2) (hv : u_L_note post  C i0 x1 x2) (hp : ∀ (M : zM) (C : Sm), RCx e0 M0 own M Z C x nn → post C → po M) : w_L_note e0 po  M (Z.1 5 i0) x1 x2 := by
  refine ⟨fun hq => ?_, fun hq => ?_⟩
  · have hv := hv.1 hq
    exact hp _ _ hR hv
  · have hv := hv.2 hq
    refine cx_grA hR hi0 rfl ?_
    refine cx_alen hR hi0 7 (by decide) ?_
    refine ⟨fun hq => ?_, fun hq => ?_⟩
    · have hv := hv.1 hq
      exact hp _ _ hR hv
    · have hv := hv.2 hq
      refine cx_grA hR hi0 rfl ?_
      obtain ⟨hi9, hv⟩ := hv
      refine cx_s7 hR hi0 hi9 (fun M hR => ?_)
      exact hp _ _ hR hv
def u_L_hasAsked (post : Int32 → Sm → Prop) (C : Sm) (i0 : Nat) (x1 : Int32) : Prop := u_L_reachOf (fun r2 C1 => ((r2 = (-2)) → post 0 C1) ∧ (¬ (r2 = (-2)) → post 1 C1)) C i0 x1
set_option maxRecDepth 100000 in
theorem lc_L_hasAsked {e0 : Nat} {M0 : zM} {own : Nat → Prop} {x : Nat} {Z : Zc} {nn : Nat → Nat} {post : Int32 → Sm → Prop} {po : Int32 → zM → Prop} {M : zM} {C : Sm} {i0 : Nat} {x1 : Int32} (hR : RCx e0 M0 own M Z C x nn) (hi0 : i0 < nn 2) (hv : u_L_hasAsked post  C i0 x1) (hp : ∀ (r : Int32) (M : zM) (C : Sm), RCx e0 M0 own M Z C x nn → post r C → po r M) : w_L_hasAsked e0 po  M (Z.1 5 i0) x1 := by
  refine ⟨cx_isA hR hi0, ?_⟩
  refine lc_L_reachOf hR hi0 hv (fun r2 M C19 hR hv => ?_)
  refine ⟨fun hq => ?_, fun hq => ?_⟩
  · have hv := hv.1 hq
    exact hp _ _ _ hR hv
  · have hv := hv.2 hq
    exact hp _ _ _ hR hv
def u_L_countFrom_j33 (post : Int32 → Sm → Prop) (k0 : Nat) (K11 : Sm → Int32 → Int32 → Nat → Int32 → Int32 → Prop) (C : Sm) (l1 : Int32) (l2 : Int32) (l3 : Nat) (l4 : Int32) (l5 : Int32) : Prop := K11 C l1 l2 l3 l4 (l5 + 1)
set_option maxRecDepth 100000 in
theorem lc_L_countFrom_j33 {e0 : Nat} {M0 : zM} {own : Nat → Prop} {x : Nat} {Z : Zc} {nn : Nat → Nat} {post : Int32 → Sm → Prop} {po : Int32 → zM → Prop} {k0 : Nat} (hp : ∀ (r : Int32) (M : zM) (C : Sm), RCx e0 M0 own M Z C x nn → post r C → po r M) (hk0 : k0 = 6 ∨ k0 = 7) {K11 : Sm → Int32 → Int32 → Nat → Int32 → Int32 → Prop} {C11 : zM → Int32 → Int32 → Nat → Int32 → Int32 → Prop} (hK11 : ∀  (M : zM) (C : Sm) (l1 : Int32) (l2 : Int32) (l3 : Nat) (l4 : Int32) (l5 : Int32), RCx e0 M0 own M Z C x nn → l3 < nn 2 → K11  C l1 l2 l3 l4 l5 → C11  M l1 l2 (Z.1 k0 l3) l4 l5) : ∀  (M : zM) (C : Sm) (l1 : Int32) (l2 : Int32) (l3 : Nat) (l4 : Int32) (l5 : Int32), RCx e0 M0 own M Z C x nn → l3 < nn 2 → u_L_countFrom_j33 post k0 K11  C l1 l2 l3 l4 l5 → w_L_countFrom_j33 e0 po C11  M l1 l2 (Z.1 k0 l3) l4 l5 := by
  intro M C l1 l2 l3 l4 l5 hR hl3 hv
  exact hK11 _ _ _ _ _ _ _ hR hl3 hv
def u_L_countFrom_j11 (post : Int32 → Sm → Prop) (k0 : Nat) : Nat → Sm → Int32 → Int32 → Nat → Int32 → Int32 → Prop
  | 0 => fun _ _ _ _ _ _ => False
  | n + 1 => fun C l1 l2 l3 l4 l5 => ((l4 ≤ l5) → post l2 C) ∧ (¬ (l4 ≤ l5) → aLC C (k0 + 29) 60 l3 l5 (fun v1 => ((v1 < l1) → u_L_countFrom_j33 post k0 (u_L_countFrom_j11 post k0 n) C l1 l2 l3 l4 l5) ∧ (¬ (v1 < l1) → u_L_countFrom_j33 post k0 (u_L_countFrom_j11 post k0 n) C l1 (l2 + 1) l3 l4 l5)))
set_option maxRecDepth 100000 in
theorem lc_L_countFrom_j11 {e0 : Nat} {M0 : zM} {own : Nat → Prop} {x : Nat} {Z : Zc} {nn : Nat → Nat} {post : Int32 → Sm → Prop} {po : Int32 → zM → Prop} {k0 : Nat} (hp : ∀ (r : Int32) (M : zM) (C : Sm), RCx e0 M0 own M Z C x nn → post r C → po r M) (hk0 : k0 = 6 ∨ k0 = 7) : ∀ n : Nat, ∀  (M : zM) (C : Sm) (l1 : Int32) (l2 : Int32) (l3 : Nat) (l4 : Int32) (l5 : Int32), RCx e0 M0 own M Z C x nn → l3 < nn 2 → u_L_countFrom_j11 post k0  n  C l1 l2 l3 l4 l5 → w_L_countFrom_j11 e0 po  n  M l1 l2 (Z.1 k0 l3) l4 l5 := by
  intro n
  induction n with
  | zero => intro M C l1 l2 l3 l4 l5 hR hl3 hv; exact hv.elim
  | succ n ih =>
    intro M C l1 l2 l3 l4 l5 hR hl3 hv
    refine ⟨fun hq => ?_, fun hq => ?_⟩
    · have hv := hv.1 hq
      exact hp _ _ _ hR hv
    · have hv := hv.2 hq
      obtain ⟨hi9, hv⟩ := hv
      refine cx_ld hR k0 0 60 (k0 + 29) (us5 hR hl3 k0 (Or.inr hk0)) (by omega) hi9 ?_
      refine ⟨fun hq => ?_, fun hq => ?_⟩
      · have hv := hv.1 hq
        exact lc_L_countFrom_j33 hp hk0 ih _ _ _ _ _ _ _ hR hl3 hv
      · have hv := hv.2 hq
        exact lc_L_countFrom_j33 hp hk0 ih _ _ _ _ _ _ _ hR hl3 hv
def u_L_countFrom (post : Int32 → Sm → Prop) (C : Sm) (k0 : Nat) (i0 : Nat) (x1 : Int32) : Prop := ∃ nn9, u_L_countFrom_j11 post k0 nn9 C x1 0 i0 60 0
set_option maxRecDepth 100000 in
theorem lc_L_countFrom {e0 : Nat} {M0 : zM} {own : Nat → Prop} {x : Nat} {Z : Zc} {nn : Nat → Nat} {post : Int32 → Sm → Prop} {po : Int32 → zM → Prop} {M : zM} {C : Sm} {k0 : Nat} {i0 : Nat} {x1 : Int32} (hR : RCx e0 M0 own M Z C x nn) (hk0 : k0 = 6 ∨ k0 = 7) (hi0 : i0 < nn 2) (hv : u_L_countFrom post  C k0 i0 x1) (hp : ∀ (r : Int32) (M : zM) (C : Sm), RCx e0 M0 own M Z C x nn → post r C → po r M) : w_L_countFrom e0 po  M (Z.1 k0 i0) x1 := by
  refine cx_alen hR hi0 k0 hk0 ?_
  obtain ⟨nfu, hv⟩ := hv
  exact ⟨nfu, lc_L_countFrom_j11 hp hk0  nfu _ _ _ _ _ _ _ hR hi0 hv⟩
def u_L_comingPersons (post : Int32 → Sm → Prop) (C : Sm) (i0 : Nat) : Prop := u_L_countFrom (fun r2 C1 => post r2 C1) C 7 i0 0
set_option maxRecDepth 100000 in
theorem lc_L_comingPersons {e0 : Nat} {M0 : zM} {own : Nat → Prop} {x : Nat} {Z : Zc} {nn : Nat → Nat} {post : Int32 → Sm → Prop} {po : Int32 → zM → Prop} {M : zM} {C : Sm} {i0 : Nat} (hR : RCx e0 M0 own M Z C x nn) (hi0 : i0 < nn 2) (hv : u_L_comingPersons post  C i0) (hp : ∀ (r : Int32) (M : zM) (C : Sm), RCx e0 M0 own M Z C x nn → post r C → po r M) : w_L_comingPersons e0 po  M (Z.1 5 i0) := by
  refine cx_grA hR hi0 rfl ?_
  refine lc_L_countFrom hR (by decide) hi0 hv (fun r2 M C19 hR hv => ?_)
  exact hp _ _ _ hR hv
def u_L_askedPersons (post : Int32 → Sm → Prop) (C : Sm) (i0 : Nat) : Prop := u_L_countFrom (fun r2 C1 => post r2 C1) C 6 i0 (-1)
set_option maxRecDepth 100000 in
theorem lc_L_askedPersons {e0 : Nat} {M0 : zM} {own : Nat → Prop} {x : Nat} {Z : Zc} {nn : Nat → Nat} {post : Int32 → Sm → Prop} {po : Int32 → zM → Prop} {M : zM} {C : Sm} {i0 : Nat} (hR : RCx e0 M0 own M Z C x nn) (hi0 : i0 < nn 2) (hv : u_L_askedPersons post  C i0) (hp : ∀ (r : Int32) (M : zM) (C : Sm), RCx e0 M0 own M Z C x nn → post r C → po r M) : w_L_askedPersons e0 po  M (Z.1 5 i0) := by
  refine cx_grA hR hi0 rfl ?_
  refine lc_L_countFrom hR (by decide) hi0 hv (fun r2 M C19 hR hv => ?_)
  exact hp _ _ _ hR hv
def u_L_answeredPersons (post : Int32 → Sm → Prop) (C : Sm) (i0 : Nat) : Prop := u_L_countFrom (fun r2 C1 => post r2 C1) C 7 i0 (-1)
set_option maxRecDepth 100000 in
theorem lc_L_answeredPersons {e0 : Nat} {M0 : zM} {own : Nat → Prop} {x : Nat} {Z : Zc} {nn : Nat → Nat} {post : Int32 → Sm → Prop} {po : Int32 → zM → Prop} {M : zM} {C : Sm} {i0 : Nat} (hR : RCx e0 M0 own M Z C x nn) (hi0 : i0 < nn 2) (hv : u_L_answeredPersons post  C i0) (hp : ∀ (r : Int32) (M : zM) (C : Sm), RCx e0 M0 own M Z C x nn → post r C → po r M) : w_L_answeredPersons e0 po  M (Z.1 5 i0) := by
  refine cx_grA hR hi0 rfl ?_
  refine lc_L_countFrom hR (by decide) hi0 hv (fun r2 M C19 hR hv => ?_)
  exact hp _ _ _ hR hv
def u_L_hasAnswer_j28 (post : Int32 → Sm → Prop) (C : Sm) : Prop := post 0 C
set_option maxRecDepth 100000 in
theorem lc_L_hasAnswer_j28 {e0 : Nat} {M0 : zM} {own : Nat → Prop} {x : Nat} {Z : Zc} {nn : Nat → Nat} {post : Int32 → Sm → Prop} {po : Int32 → zM → Prop} (hp : ∀ (r : Int32) (M : zM) (C : Sm), RCx e0 M0 own M Z C x nn → post r C → po r M) : ∀  (M : zM) (C : Sm) , RCx e0 M0 own M Z C x nn → u_L_hasAnswer_j28 post   C  → w_L_hasAnswer_j28 e0 po   M  := by
  intro M C hR hv
  exact hp _ _ _ hR hv
def u_L_hasAnswer (post : Int32 → Sm → Prop) (C : Sm) (i0 : Nat) (x1 : Int32) : Prop := ((x1 < 0) → u_L_hasAnswer_j28 post C) ∧ (¬ (x1 < 0) → ((60 ≤ x1) → u_L_hasAnswer_j28 post C) ∧ (¬ (60 ≤ x1) → aLC C 36 60 i0 x1 (fun v1 => ((v1 = (-2)) → u_L_hasAnswer_j28 post C) ∧ (¬ (v1 = (-2)) → post 1 C))))
set_option maxRecDepth 100000 in
theorem lc_L_hasAnswer {e0 : Nat} {M0 : zM} {own : Nat → Prop} {x : Nat} {Z : Zc} {nn : Nat → Nat} {post : Int32 → Sm → Prop} {po : Int32 → zM → Prop} {M : zM} {C : Sm} {i0 : Nat} {x1 : Int32} (hR : RCx e0 M0 own M Z C x nn) (hi0 : i0 < nn 2) (hv : u_L_hasAnswer post  C i0 x1) (hp : ∀ (r : Int32) (M : zM) (C : Sm), RCx e0 M0 own M Z C x nn → post r C → po r M) : w_L_hasAnswer e0 po  M (Z.1 5 i0) x1 := by
  refine ⟨fun hq => ?_, fun hq => ?_⟩
  · have hv := hv.1 hq
    exact lc_L_hasAnswer_j28 hp  _ _ hR hv
  · have hv := hv.2 hq
    refine cx_grA hR hi0 rfl ?_
    refine cx_alen hR hi0 7 (by decide) ?_
    refine ⟨fun hq => ?_, fun hq => ?_⟩
    · have hv := hv.1 hq
      exact lc_L_hasAnswer_j28 hp  _ _ hR hv
    · have hv := hv.2 hq
      refine cx_grA hR hi0 rfl ?_
      obtain ⟨hi9, hv⟩ := hv
      refine cx_ld hR 7 0 60 36 (us5 hR hi0 7 (by decide)) (by decide) hi9 ?_
      refine ⟨fun hq => ?_, fun hq => ?_⟩
      · have hv := hv.1 hq
        exact lc_L_hasAnswer_j28 hp  _ _ hR hv
      · have hv := hv.2 hq
        exact hp _ _ _ hR hv
def u_P_addClosed (post : Sm → Prop) (C : Sm) (i0 : Nat) (x1 : Int32) : Prop := aW C 25 i0 ((C 25 i0) + 1) (fun C1 => ((x1 = 0) → post C1) ∧ (¬ (x1 = 0) → aW C1 26 i0 ((C1 26 i0) + 1) (fun C2 => post C2)))
set_option maxRecDepth 100000 in
theorem lc_P_addClosed {e0 : Nat} {M0 : zM} {own : Nat → Prop} {x : Nat} {Z : Zc} {nn : Nat → Nat} {post : Sm → Prop} {po : zM → Prop} {M : zM} {C : Sm} {i0 : Nat} {x1 : Int32} (hR : RCx e0 M0 own M Z C x nn) (hi0 : i0 < nn 1) (hv : u_P_addClosed post  C i0 x1) (hp : ∀ (M : zM) (C : Sm), RCx e0 M0 own M Z C x nn → post C → po M) : w_P_addClosed e0 po  M (Z.1 2 i0) x1 := by
  refine cx_giP hR hi0 rfl ?_
  refine cx_pP hR hi0 (by decide) (fun M hR => ?_)
  refine ⟨fun hq => ?_, fun hq => ?_⟩
  · have hv := hv.1 hq
    exact hp _ _ hR hv
  · have hv := hv.2 hq
    refine cx_giP hR hi0 rfl ?_
    refine cx_pP hR hi0 (by decide) (fun M hR => ?_)
    exact hp _ _ hR hv
def u_L_reachedPersons (post : Int32 → Sm → Prop) (C : Sm) (i0 : Nat) : Prop := u_L_countFrom (fun r2 C1 => post r2 C1) C 6 i0 0
set_option maxRecDepth 100000 in
theorem lc_L_reachedPersons {e0 : Nat} {M0 : zM} {own : Nat → Prop} {x : Nat} {Z : Zc} {nn : Nat → Nat} {post : Int32 → Sm → Prop} {po : Int32 → zM → Prop} {M : zM} {C : Sm} {i0 : Nat} (hR : RCx e0 M0 own M Z C x nn) (hi0 : i0 < nn 2) (hv : u_L_reachedPersons post  C i0) (hp : ∀ (r : Int32) (M : zM) (C : Sm), RCx e0 M0 own M Z C x nn → post r C → po r M) : w_L_reachedPersons e0 po  M (Z.1 5 i0) := by
  refine cx_grA hR hi0 rfl ?_
  refine lc_L_countFrom hR (by decide) hi0 hv (fun r2 M C19 hR hv => ?_)
  exact hp _ _ _ hR hv
def u_L_comersBefore_j50 (post : Int32 → Sm → Prop) (K5 : Sm → Nat → Int32 → Int32 → Int32 → Int32 → Prop) (C : Sm) (l0 : Nat) (l1 : Int32) (l2 : Int32) (l3 : Int32) (l4 : Int32) : Prop := K5 C l0 l1 l2 l3 (l4 + 1)
set_option maxRecDepth 100000 in
theorem lc_L_comersBefore_j50 {e0 : Nat} {M0 : zM} {own : Nat → Prop} {x : Nat} {Z : Zc} {nn : Nat → Nat} {post : Int32 → Sm → Prop} {po : Int32 → zM → Prop} (hp : ∀ (r : Int32) (M : zM) (C : Sm), RCx e0 M0 own M Z C x nn → post r C → po r M) {K5 : Sm → Nat → Int32 → Int32 → Int32 → Int32 → Prop} {C5 : zM → Nat → Int32 → Int32 → Int32 → Int32 → Prop} (hK5 : ∀  (M : zM) (C : Sm) (l0 : Nat) (l1 : Int32) (l2 : Int32) (l3 : Int32) (l4 : Int32), RCx e0 M0 own M Z C x nn → l0 < nn 2 → K5  C l0 l1 l2 l3 l4 → C5  M (Z.1 5 l0) l1 l2 l3 l4) : ∀  (M : zM) (C : Sm) (l0 : Nat) (l1 : Int32) (l2 : Int32) (l3 : Int32) (l4 : Int32), RCx e0 M0 own M Z C x nn → l0 < nn 2 → u_L_comersBefore_j50 post K5  C l0 l1 l2 l3 l4 → w_L_comersBefore_j50 e0 po C5  M (Z.1 5 l0) l1 l2 l3 l4 := by
  intro M C l0 l1 l2 l3 l4 hR hl0 hv
  exact hK5 _ _ _ _ _ _ _ hR hl0 hv
def u_L_comersBefore_j47 (post : Int32 → Sm → Prop) (K5 : Sm → Nat → Int32 → Int32 → Int32 → Int32 → Prop) (C : Sm) (l0 : Nat) (l1 : Int32) (l2 : Int32) (l3 : Int32) (l4 : Int32) : Prop := u_L_comersBefore_j50 post K5 C l0 l1 l2 (l3 + 1) l4
set_option maxRecDepth 100000 in
theorem lc_L_comersBefore_j47 {e0 : Nat} {M0 : zM} {own : Nat → Prop} {x : Nat} {Z : Zc} {nn : Nat → Nat} {post : Int32 → Sm → Prop} {po : Int32 → zM → Prop} (hp : ∀ (r : Int32) (M : zM) (C : Sm), RCx e0 M0 own M Z C x nn → post r C → po r M) {K5 : Sm → Nat → Int32 → Int32 → Int32 → Int32 → Prop} {C5 : zM → Nat → Int32 → Int32 → Int32 → Int32 → Prop} (hK5 : ∀  (M : zM) (C : Sm) (l0 : Nat) (l1 : Int32) (l2 : Int32) (l3 : Int32) (l4 : Int32), RCx e0 M0 own M Z C x nn → l0 < nn 2 → K5  C l0 l1 l2 l3 l4 → C5  M (Z.1 5 l0) l1 l2 l3 l4) : ∀  (M : zM) (C : Sm) (l0 : Nat) (l1 : Int32) (l2 : Int32) (l3 : Int32) (l4 : Int32), RCx e0 M0 own M Z C x nn → l0 < nn 2 → u_L_comersBefore_j47 post K5  C l0 l1 l2 l3 l4 → w_L_comersBefore_j47 e0 po C5  M (Z.1 5 l0) l1 l2 l3 l4 := by
  intro M C l0 l1 l2 l3 l4 hR hl0 hv
  exact lc_L_comersBefore_j50 hp hK5 _ _ _ _ _ _ _ hR hl0 hv
def u_L_comersBefore_j5 (post : Int32 → Sm → Prop) : Nat → Sm → Nat → Int32 → Int32 → Int32 → Int32 → Prop
  | 0 => fun _ _ _ _ _ _ => False
  | n + 1 => fun C l0 l1 l2 l3 l4 => ((60 ≤ l4) → post l3 C) ∧ (¬ (60 ≤ l4) → aLC C 36 60 l0 l4 (fun v1 => ((v1 < 0) → u_L_comersBefore_j50 post (u_L_comersBefore_j5 post n) C l0 l1 l2 l3 l4) ∧ (¬ (v1 < 0) → ((v1 < l2) → u_L_comersBefore_j47 post (u_L_comersBefore_j5 post n) C l0 l1 l2 l3 l4) ∧ (¬ (v1 < l2) → ((v1 = l2) → ((l1 ≤ l4) → u_L_comersBefore_j50 post (u_L_comersBefore_j5 post n) C l0 l1 l2 l3 l4) ∧ (¬ (l1 ≤ l4) → u_L_comersBefore_j47 post (u_L_comersBefore_j5 post n) C l0 l1 l2 l3 l4)) ∧ (¬ (v1 = l2) → u_L_comersBefore_j50 post (u_L_comersBefore_j5 post n) C l0 l1 l2 l3 l4)))))
set_option maxRecDepth 100000 in
theorem lc_L_comersBefore_j5 {e0 : Nat} {M0 : zM} {own : Nat → Prop} {x : Nat} {Z : Zc} {nn : Nat → Nat} {post : Int32 → Sm → Prop} {po : Int32 → zM → Prop} (hp : ∀ (r : Int32) (M : zM) (C : Sm), RCx e0 M0 own M Z C x nn → post r C → po r M) : ∀ n : Nat, ∀  (M : zM) (C : Sm) (l0 : Nat) (l1 : Int32) (l2 : Int32) (l3 : Int32) (l4 : Int32), RCx e0 M0 own M Z C x nn → l0 < nn 2 → u_L_comersBefore_j5 post  n  C l0 l1 l2 l3 l4 → w_L_comersBefore_j5 e0 po  n  M (Z.1 5 l0) l1 l2 l3 l4 := by
  intro n
  induction n with
  | zero => intro M C l0 l1 l2 l3 l4 hR hl0 hv; exact hv.elim
  | succ n ih =>
    intro M C l0 l1 l2 l3 l4 hR hl0 hv
    refine cx_grA hR hl0 rfl ?_
    refine cx_alen hR hl0 7 (by decide) ?_
    refine ⟨fun hq => ?_, fun hq => ?_⟩
    · have hv := hv.1 hq
      exact hp _ _ _ hR hv
    · have hv := hv.2 hq
      refine cx_grA hR hl0 rfl ?_
      obtain ⟨hi9, hv⟩ := hv
      refine cx_ld hR 7 0 60 36 (us5 hR hl0 7 (by decide)) (by decide) hi9 ?_
      refine ⟨fun hq => ?_, fun hq => ?_⟩
      · have hv := hv.1 hq
        exact lc_L_comersBefore_j50 hp ih _ _ _ _ _ _ _ hR hl0 hv
      · have hv := hv.2 hq
        refine ⟨fun hq => ?_, fun hq => ?_⟩
        · have hv := hv.1 hq
          exact lc_L_comersBefore_j47 hp ih _ _ _ _ _ _ _ hR hl0 hv
        · have hv := hv.2 hq
          refine ⟨fun hq => ?_, fun hq => ?_⟩
          · have hv := hv.1 hq
            refine ⟨fun hq => ?_, fun hq => ?_⟩
            · have hv := hv.1 hq
              exact lc_L_comersBefore_j50 hp ih _ _ _ _ _ _ _ hR hl0 hv
            · have hv := hv.2 hq
              exact lc_L_comersBefore_j47 hp ih _ _ _ _ _ _ _ hR hl0 hv
          · have hv := hv.2 hq
            exact lc_L_comersBefore_j50 hp ih _ _ _ _ _ _ _ hR hl0 hv
def u_L_comersBefore (post : Int32 → Sm → Prop) (C : Sm) (i0 : Nat) (x1 : Int32) (x2 : Int32) : Prop := ∃ nn9, u_L_comersBefore_j5 post nn9 C i0 x1 x2 0 0
set_option maxRecDepth 100000 in
theorem lc_L_comersBefore {e0 : Nat} {M0 : zM} {own : Nat → Prop} {x : Nat} {Z : Zc} {nn : Nat → Nat} {post : Int32 → Sm → Prop} {po : Int32 → zM → Prop} {M : zM} {C : Sm} {i0 : Nat} {x1 : Int32} {x2 : Int32} (hR : RCx e0 M0 own M Z C x nn) (hi0 : i0 < nn 2) (hv : u_L_comersBefore post  C i0 x1 x2) (hp : ∀ (r : Int32) (M : zM) (C : Sm), RCx e0 M0 own M Z C x nn → post r C → po r M) : w_L_comersBefore e0 po  M (Z.1 5 i0) x1 x2 := by
  obtain ⟨nfu, hv⟩ := hv
  exact ⟨nfu, lc_L_comersBefore_j5 hp  nfu _ _ _ _ _ _ _ hR hi0 hv⟩
def u_L_comerAt_j40 (post : Int32 → Sm → Prop) (K2 : Sm → Nat → Int32 → Int32 → Prop) (C : Sm) (l0 : Nat) (l1 : Int32) (l2 : Int32) : Prop := K2 C l0 l1 (l2 + 1)
set_option maxRecDepth 100000 in
theorem lc_L_comerAt_j40 {e0 : Nat} {M0 : zM} {own : Nat → Prop} {x : Nat} {Z : Zc} {nn : Nat → Nat} {post : Int32 → Sm → Prop} {po : Int32 → zM → Prop} (hp : ∀ (r : Int32) (M : zM) (C : Sm), RCx e0 M0 own M Z C x nn → post r C → po r M) {K2 : Sm → Nat → Int32 → Int32 → Prop} {C2 : zM → Nat → Int32 → Int32 → Prop} (hK2 : ∀  (M : zM) (C : Sm) (l0 : Nat) (l1 : Int32) (l2 : Int32), RCx e0 M0 own M Z C x nn → l0 < nn 2 → K2  C l0 l1 l2 → C2  M (Z.1 5 l0) l1 l2) : ∀  (M : zM) (C : Sm) (l0 : Nat) (l1 : Int32) (l2 : Int32), RCx e0 M0 own M Z C x nn → l0 < nn 2 → u_L_comerAt_j40 post K2  C l0 l1 l2 → w_L_comerAt_j40 e0 po C2  M (Z.1 5 l0) l1 l2 := by
  intro M C l0 l1 l2 hR hl0 hv
  exact hK2 _ _ _ _ _ hR hl0 hv
def u_L_comerAt_j2 (post : Int32 → Sm → Prop) : Nat → Sm → Nat → Int32 → Int32 → Prop
  | 0 => fun _ _ _ _ => False
  | n + 1 => fun C l0 l1 l2 => ((60 ≤ l2) → post (-1) C) ∧ (¬ (60 ≤ l2) → aLC C 36 60 l0 l2 (fun v1 => ((v1 < 0) → u_L_comerAt_j40 post (u_L_comerAt_j2 post n) C l0 l1 l2) ∧ (¬ (v1 < 0) → u_L_comersBefore (fun r3 C2 => ((r3 = l1) → post ((1000 * l2) + v1) C2) ∧ (¬ (r3 = l1) → u_L_comerAt_j40 post (u_L_comerAt_j2 post n) C2 l0 l1 l2)) C l0 l2 v1)))
set_option maxRecDepth 100000 in
theorem lc_L_comerAt_j2 {e0 : Nat} {M0 : zM} {own : Nat → Prop} {x : Nat} {Z : Zc} {nn : Nat → Nat} {post : Int32 → Sm → Prop} {po : Int32 → zM → Prop} (hp : ∀ (r : Int32) (M : zM) (C : Sm), RCx e0 M0 own M Z C x nn → post r C → po r M) : ∀ n : Nat, ∀  (M : zM) (C : Sm) (l0 : Nat) (l1 : Int32) (l2 : Int32), RCx e0 M0 own M Z C x nn → l0 < nn 2 → u_L_comerAt_j2 post  n  C l0 l1 l2 → w_L_comerAt_j2 e0 po  n  M (Z.1 5 l0) l1 l2 := by
  intro n
  induction n with
  | zero => intro M C l0 l1 l2 hR hl0 hv; exact hv.elim
  | succ n ih =>
    intro M C l0 l1 l2 hR hl0 hv
    refine cx_grA hR hl0 rfl ?_
    refine cx_alen hR hl0 7 (by decide) ?_
    refine ⟨fun hq => ?_, fun hq => ?_⟩
    · have hv := hv.1 hq
      exact hp _ _ _ hR hv
    · have hv := hv.2 hq
      refine cx_grA hR hl0 rfl ?_
      obtain ⟨hi9, hv⟩ := hv
      refine cx_ld hR 7 0 60 36 (us5 hR hl0 7 (by decide)) (by decide) hi9 ?_
      refine ⟨fun hq => ?_, fun hq => ?_⟩
      · have hv := hv.1 hq
        exact lc_L_comerAt_j40 hp ih _ _ _ _ _ hR hl0 hv
      · have hv := hv.2 hq
        refine ⟨cx_isA hR hl0, ?_⟩
        refine lc_L_comersBefore hR hl0 hv (fun r3 M C29 hR hv => ?_)
        refine ⟨fun hq => ?_, fun hq => ?_⟩
        · have hv := hv.1 hq
          exact hp _ _ _ hR hv
        · have hv := hv.2 hq
          exact lc_L_comerAt_j40 hp ih _ _ _ _ _ hR hl0 hv
def u_L_comerAt (post : Int32 → Sm → Prop) (C : Sm) (i0 : Nat) (x1 : Int32) : Prop := ∃ nn9, u_L_comerAt_j2 post nn9 C i0 x1 0
set_option maxRecDepth 100000 in
theorem lc_L_comerAt {e0 : Nat} {M0 : zM} {own : Nat → Prop} {x : Nat} {Z : Zc} {nn : Nat → Nat} {post : Int32 → Sm → Prop} {po : Int32 → zM → Prop} {M : zM} {C : Sm} {i0 : Nat} {x1 : Int32} (hR : RCx e0 M0 own M Z C x nn) (hi0 : i0 < nn 2) (hv : u_L_comerAt post  C i0 x1) (hp : ∀ (r : Int32) (M : zM) (C : Sm), RCx e0 M0 own M Z C x nn → post r C → po r M) : w_L_comerAt e0 po  M (Z.1 5 i0) x1 := by
  obtain ⟨nfu, hv⟩ := hv
  exact ⟨nfu, lc_L_comerAt_j2 hp  nfu _ _ _ _ _ hR hi0 hv⟩
def u_P_neverAnswers_j19 (post : Int32 → Sm → Prop) (C : Sm) : Prop := post 0 C
set_option maxRecDepth 100000 in
theorem lc_P_neverAnswers_j19 {e0 : Nat} {M0 : zM} {own : Nat → Prop} {x : Nat} {Z : Zc} {nn : Nat → Nat} {post : Int32 → Sm → Prop} {po : Int32 → zM → Prop} (hp : ∀ (r : Int32) (M : zM) (C : Sm), RCx e0 M0 own M Z C x nn → post r C → po r M) : ∀  (M : zM) (C : Sm) , RCx e0 M0 own M Z C x nn → u_P_neverAnswers_j19 post   C  → w_P_neverAnswers_j19 e0 po   M  := by
  intro M C hR hv
  exact hp _ _ _ hR hv
def u_P_neverAnswers (post : Int32 → Sm → Prop) (C : Sm) (i0 : Nat) : Prop := (((C 25 i0) < 3) → u_P_neverAnswers_j19 post C) ∧ (¬ ((C 25 i0) < 3) → (((C 26 i0) = 0) → post 1 C) ∧ (¬ ((C 26 i0) = 0) → u_P_neverAnswers_j19 post C))
set_option maxRecDepth 100000 in
theorem lc_P_neverAnswers {e0 : Nat} {M0 : zM} {own : Nat → Prop} {x : Nat} {Z : Zc} {nn : Nat → Nat} {post : Int32 → Sm → Prop} {po : Int32 → zM → Prop} {M : zM} {C : Sm} {i0 : Nat} (hR : RCx e0 M0 own M Z C x nn) (hi0 : i0 < nn 1) (hv : u_P_neverAnswers post  C i0) (hp : ∀ (r : Int32) (M : zM) (C : Sm), RCx e0 M0 own M Z C x nn → post r C → po r M) : w_P_neverAnswers e0 po  M (Z.1 2 i0) := by
  refine cx_giP hR hi0 rfl ?_
  refine ⟨fun hq => ?_, fun hq => ?_⟩
  · have hv := hv.1 hq
    exact lc_P_neverAnswers_j19 hp  _ _ hR hv
  · have hv := hv.2 hq
    refine cx_giP hR hi0 rfl ?_
    refine ⟨fun hq => ?_, fun hq => ?_⟩
    · have hv := hv.1 hq
      exact hp _ _ _ hR hv
    · have hv := hv.2 hq
      exact lc_P_neverAnswers_j19 hp  _ _ hR hv
