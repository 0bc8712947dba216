def v_M_thrown (post : Int32 → Sm → Prop) (S : Sm) : Prop := post (S 0 0) S
set_option maxRecDepth 100000 in
theorem lf_M_thrown {e0 : Nat} {M0 : zM} {m : Nat} {ad : Nat → Nat} {post : Int32 → Sm → Prop} {po : Int32 → zM → Prop} {M : zM} {S : Sm}  (hR : RMf M0 M m ad S) (hv : v_M_thrown post S ) (hp : ∀ (r : Int32) (M : zM) (S : Sm), RMf M0 M m ad S → post r S → po r M) : w_M_thrown e0 po M m := by
  refine rm_gi hR rfl ?_
  exact hp _ _ _ hR hv
def v_M_in_j14 (post : Int32 → Sm → Prop) (S : Sm) : Prop := post 0 S
set_option maxRecDepth 100000 in
theorem lf_M_in_j14 {e0 : Nat} {M0 : zM} {m : Nat} {ad : Nat → Nat} {post : Int32 → Sm → Prop} {po : Int32 → zM → Prop} (hp : ∀ (r : Int32) (M : zM) (S : Sm), RMf M0 M m ad S → post r S → po r M) : ∀ (M : zM) (S : Sm) , RMf M0 M m ad S → v_M_in_j14 post  S  → w_M_in_j14 e0 po  M  := by
  intro M S  hR hv
  exact hp _ _ _ hR hv
def v_M_in (post : Int32 → Sm → Prop) (S : Sm) (x0 : Int32) (x1 : Int32) (x2 : Int32) : Prop := ((x0 < x1) → v_M_in_j14 post S) ∧ (¬ (x0 < x1) → ((x2 < x0) → v_M_in_j14 post S) ∧ (¬ (x2 < x0) → post 1 S))
set_option maxRecDepth 100000 in
theorem lf_M_in {e0 : Nat} {M0 : zM} {m : Nat} {ad : Nat → Nat} {post : Int32 → Sm → Prop} {po : Int32 → zM → Prop} {M : zM} {S : Sm} {x0 : Int32} {x1 : Int32} {x2 : Int32} (hR : RMf M0 M m ad S) (hv : v_M_in post S x0 x1 x2) (hp : ∀ (r : Int32) (M : zM) (S : Sm), RMf M0 M m ad S → post r S → po r M) : w_M_in e0 po M x0 x1 x2 := by
  refine ⟨fun hq => ?_, fun hq => ?_⟩
  · have hv := hv.1 hq
    exact lf_M_in_j14 hp  _ _ hR hv
  · have hv := hv.2 hq
    refine ⟨fun hq => ?_, fun hq => ?_⟩
    · have hv := hv.1 hq
      exact lf_M_in_j14 hp  _ _ hR hv
    · have hv := hv.2 hq
      exact hp _ _ _ hR hv
def v_M_goes_j26 (post : Int32 → Sm → Prop) (S : Sm) (s0 : Int32) : Prop := aPF S 0 s0 (fun S1 => (((S1 0 0) = 0) → post 1 S1) ∧ (¬ ((S1 0 0) = 0) → post 0 S1))
set_option maxRecDepth 100000 in
theorem lf_M_goes_j26 {e0 : Nat} {M0 : zM} {m : Nat} {ad : Nat → Nat} {post : Int32 → Sm → Prop} {po : Int32 → zM → Prop} (hp : ∀ (r : Int32) (M : zM) (S : Sm), RMf M0 M m ad S → post r S → po r M) : ∀ (M : zM) (S : Sm) (s0 : Int32), RMf M0 M m ad S → v_M_goes_j26 post  S s0 → w_M_goes_j26 e0 po  M m s0 m := by
  intro M S s0 hR hv
  refine rm_pf_0 hR (fun M hR => ?_)
  refine rm_gi hR rfl ?_
  refine ⟨fun hq => ?_, fun hq => ?_⟩
  · have hv := hv.1 hq
    exact hp _ _ _ hR hv
  · have hv := hv.2 hq
    exact hp _ _ _ hR hv
def v_M_goes (post : Int32 → Sm → Prop) (S : Sm) (x1 : Int32) (x2 : Int32) (x3 : Int32) : Prop := ((x1 = 0) → v_M_goes_j26 post S 1) ∧ (¬ (x1 = 0) → ((x2 = 0) → v_M_goes_j26 post S 2) ∧ (¬ (x2 = 0) → ((x3 = 0) → v_M_goes_j26 post S 3) ∧ (¬ (x3 = 0) → v_M_goes_j26 post S 0)))
set_option maxRecDepth 100000 in
theorem lf_M_goes {e0 : Nat} {M0 : zM} {m : Nat} {ad : Nat → Nat} {post : Int32 → Sm → Prop} {po : Int32 → zM → Prop} {M : zM} {S : Sm} {x1 : Int32} {x2 : Int32} {x3 : Int32} (hR : RMf M0 M m ad S) (hv : v_M_goes post S x1 x2 x3) (hp : ∀ (r : Int32) (M : zM) (S : Sm), RMf M0 M m ad S → post r S → po r M) : w_M_goes e0 po M m x1 x2 x3 := by
  refine ⟨fun hq => ?_, fun hq => ?_⟩
  · have hv := hv.1 hq
    exact lf_M_goes_j26 hp  _ _ _ hR hv
  · have hv := hv.2 hq
    refine ⟨fun hq => ?_, fun hq => ?_⟩
    · have hv := hv.1 hq
      exact lf_M_goes_j26 hp  _ _ _ hR hv
    · have hv := hv.2 hq
      refine ⟨fun hq => ?_, fun hq => ?_⟩
      · have hv := hv.1 hq
        exact lf_M_goes_j26 hp  _ _ _ hR hv
      · have hv := hv.2 hq
        exact lf_M_goes_j26 hp  _ _ _ hR hv
def v_M_group_j41 (post : Int32 → Sm → Prop) (S : Sm) (l1 : Int32) (l2 : Int32) (s0 : Int32) (s1 : Int32) : Prop := v_M_goes (fun r2 S1 => ((r2 = 0) → post 0 S1) ∧ (¬ (r2 = 0) → aST S1 3 (S1 2 0) l1 (fun S3 => aST S3 4 (S3 2 0) l2 (fun S4 => aST S4 5 (S4 2 0) (-1) (fun S5 => aPF S5 2 ((S5 2 0) + 1) (fun S6 => post ((S6 2 0) - 1) S6)))))) S s1 s0 1
set_option maxRecDepth 100000 in
theorem lf_M_group_j41 {e0 : Nat} {M0 : zM} {m : Nat} {ad : Nat → Nat} {post : Int32 → Sm → Prop} {po : Int32 → zM → Prop} (hp : ∀ (r : Int32) (M : zM) (S : Sm), RMf M0 M m ad S → post r S → po r M) : ∀ (M : zM) (S : Sm) (l1 : Int32) (l2 : Int32) (s0 : Int32) (s1 : Int32), RMf M0 M m ad S → v_M_group_j41 post  S l1 l2 s0 s1 → w_M_group_j41 e0 po  M m l1 l2 s0 s1 m := by
  intro M S l1 l2 s0 s1 hR hv
  refine ⟨rm_is hR, ?_⟩
  refine lf_M_goes hR hv (fun _ M _ hR hv => ?_)
  refine ⟨fun hq => ?_, fun hq => ?_⟩
  · have hv := hv.1 hq
    exact hp _ _ _ hR hv
  · have hv := hv.2 hq
    refine rm_gr hR (j := 3) rfl ?_
    refine rm_gi hR rfl ?_
    obtain ⟨hi, hv⟩ := hv
    refine rm_st hR (by decide) hi (fun M hR => ?_)
    refine rm_gr hR (j := 4) rfl ?_
    refine rm_gi hR rfl ?_
    obtain ⟨hi, hv⟩ := hv
    refine rm_st hR (by decide) hi (fun M hR => ?_)
    refine rm_gr hR (j := 5) rfl ?_
    refine rm_gi hR rfl ?_
    obtain ⟨hi, hv⟩ := hv
    refine rm_st hR (by decide) hi (fun M hR => ?_)
    refine rm_gi hR rfl ?_
    refine rm_pf_2 hR (fun M hR => ?_)
    refine rm_gi hR rfl ?_
    exact hp _ _ _ hR hv
def v_M_group_j27 (post : Int32 → Sm → Prop) (S : Sm) (l1 : Int32) (l2 : Int32) (s0 : Int32) : Prop := ((12 ≤ (S 2 0)) → v_M_group_j41 post S l1 l2 0 s0) ∧ (¬ (12 ≤ (S 2 0)) → v_M_group_j41 post S l1 l2 1 s0)
set_option maxRecDepth 100000 in
theorem lf_M_group_j27 {e0 : Nat} {M0 : zM} {m : Nat} {ad : Nat → Nat} {post : Int32 → Sm → Prop} {po : Int32 → zM → Prop} (hp : ∀ (r : Int32) (M : zM) (S : Sm), RMf M0 M m ad S → post r S → po r M) : ∀ (M : zM) (S : Sm) (l1 : Int32) (l2 : Int32) (s0 : Int32), RMf M0 M m ad S → v_M_group_j27 post  S l1 l2 s0 → w_M_group_j27 e0 po  M m l1 l2 s0 m := by
  intro M S l1 l2 s0 hR hv
  refine rm_gi hR rfl ?_
  refine ⟨fun hq => ?_, fun hq => ?_⟩
  · have hv := hv.1 hq
    exact lf_M_group_j41 hp  _ _ _ _ _ _ hR hv
  · have hv := hv.2 hq
    exact lf_M_group_j41 hp  _ _ _ _ _ _ hR hv
def v_M_group_j26 (post : Int32 → Sm → Prop) (S : Sm) (l1 : Int32) (l2 : Int32) : Prop := v_M_group_j27 post S l1 l2 0
set_option maxRecDepth 100000 in
theorem lf_M_group_j26 {e0 : Nat} {M0 : zM} {m : Nat} {ad : Nat → Nat} {post : Int32 → Sm → Prop} {po : Int32 → zM → Prop} (hp : ∀ (r : Int32) (M : zM) (S : Sm), RMf M0 M m ad S → post r S → po r M) : ∀ (M : zM) (S : Sm) (l1 : Int32) (l2 : Int32), RMf M0 M m ad S → v_M_group_j26 post  S l1 l2 → w_M_group_j26 e0 po  M m l1 l2 m := by
  intro M S l1 l2 hR hv
  exact lf_M_group_j27 hp  _ _ _ _ _ hR hv
def v_M_group (post : Int32 → Sm → Prop) (S : Sm) (x1 : Int32) (x2 : Int32) : Prop := v_M_in (fun r2 S1 => ((r2 = 0) → v_M_group_j26 post S1 x1 x2) ∧ (¬ (r2 = 0) → v_M_in (fun r4 S3 => ((r4 = 0) → v_M_group_j26 post S3 x1 x2) ∧ (¬ (r4 = 0) → v_M_group_j27 post S3 x1 x2 1)) S1 x2 1 3600)) S x1 1 20
set_option maxRecDepth 100000 in
theorem lf_M_group {e0 : Nat} {M0 : zM} {m : Nat} {ad : Nat → Nat} {post : Int32 → Sm → Prop} {po : Int32 → zM → Prop} {M : zM} {S : Sm} {x1 : Int32} {x2 : Int32} (hR : RMf M0 M m ad S) (hv : v_M_group post S x1 x2) (hp : ∀ (r : Int32) (M : zM) (S : Sm), RMf M0 M m ad S → post r S → po r M) : w_M_group e0 po M m x1 x2 := by
  refine lf_M_in hR hv (fun _ M _ hR hv => ?_)
  refine ⟨fun hq => ?_, fun hq => ?_⟩
  · have hv := hv.1 hq
    exact lf_M_group_j26 hp  _ _ _ _ hR hv
  · have hv := hv.2 hq
    refine lf_M_in hR hv (fun _ M _ hR hv => ?_)
    refine ⟨fun hq => ?_, fun hq => ?_⟩
    · have hv := hv.1 hq
      exact lf_M_group_j26 hp  _ _ _ _ hR hv
    · have hv := hv.2 hq
      exact lf_M_group_j27 hp  _ _ _ _ _ hR hv
def v_M_isGroup (post : Int32 → Sm → Prop) (S : Sm) (x1 : Int32) : Prop := v_M_in (fun r2 S1 => (narrow .boolean (.int r2) = .int r2) ∧ post r2 S1) S x1 0 ((S 2 0) - 1)
set_option maxRecDepth 100000 in
theorem lf_M_isGroup {e0 : Nat} {M0 : zM} {m : Nat} {ad : Nat → Nat} {post : Int32 → Sm → Prop} {po : Int32 → zM → Prop} {M : zM} {S : Sm} {x1 : Int32} (hR : RMf M0 M m ad S) (hv : v_M_isGroup post S x1) (hp : ∀ (r : Int32) (M : zM) (S : Sm), RMf M0 M m ad S → post r S → po r M) : w_M_isGroup e0 po M m x1 := by
  refine rm_gi hR rfl ?_
  refine lf_M_in hR hv (fun _ M _ hR hv => ?_)
  exact ⟨hv.1, hp _ _ _ hR hv.2⟩
def v_M_next_j42 (post : Sm → Prop) (S : Sm) (l1 : Int32) (l2 : Int32) (s0 : Int32) (s1 : Int32) : Prop := v_M_goes (fun r2 S1 => ((r2 = 0) → post S1) ∧ (¬ (r2 = 0) → aST S1 5 l1 l2 (fun S3 => post S3))) S s1 s0 1
set_option maxRecDepth 100000 in
theorem lf_M_next_j42 {e0 : Nat} {M0 : zM} {m : Nat} {ad : Nat → Nat} {post : Sm → Prop} {po : zM → Prop} (hp : ∀ (M : zM) (S : Sm), RMf M0 M m ad S → post S → po M) : ∀ (M : zM) (S : Sm) (l1 : Int32) (l2 : Int32) (s0 : Int32) (s1 : Int32), RMf M0 M m ad S → v_M_next_j42 post  S l1 l2 s0 s1 → w_M_next_j42 e0 po  M m l1 l2 s0 s1 m := by
  intro M S l1 l2 s0 s1 hR hv
  refine ⟨rm_is hR, ?_⟩
  refine lf_M_goes hR hv (fun _ M _ hR hv => ?_)
  refine ⟨fun hq => ?_, fun hq => ?_⟩
  · have hv := hv.1 hq
    exact hp _ _ hR hv
  · have hv := hv.2 hq
    refine rm_gr hR (j := 5) rfl ?_
    obtain ⟨hi, hv⟩ := hv
    refine rm_st hR (by decide) hi (fun M hR => ?_)
    exact hp _ _ hR hv
def v_M_next_j37 (post : Sm → Prop) (S : Sm) (l1 : Int32) (l2 : Int32) (s0 : Int32) : Prop := v_M_next_j42 post S l1 l2 1 s0
set_option maxRecDepth 100000 in
theorem lf_M_next_j37 {e0 : Nat} {M0 : zM} {m : Nat} {ad : Nat → Nat} {post : Sm → Prop} {po : zM → Prop} (hp : ∀ (M : zM) (S : Sm), RMf M0 M m ad S → post S → po M) : ∀ (M : zM) (S : Sm) (l1 : Int32) (l2 : Int32) (s0 : Int32), RMf M0 M m ad S → v_M_next_j37 post  S l1 l2 s0 → w_M_next_j37 e0 po  M m l1 l2 s0 m := by
  intro M S l1 l2 s0 hR hv
  exact lf_M_next_j42 hp  _ _ _ _ _ _ hR hv
def v_M_next_j27 (post : Sm → Prop) (S : Sm) (l1 : Int32) (l2 : Int32) (s0 : Int32) : Prop := ((l2 = (-1)) → v_M_next_j37 post S l1 l2 s0) ∧ (¬ (l2 = (-1)) → ((l2 ≤ l1) → v_M_next_j42 post S l1 l2 0 s0) ∧ (¬ (l2 ≤ l1) → v_M_next_j37 post S l1 l2 s0))
set_option maxRecDepth 100000 in
theorem lf_M_next_j27 {e0 : Nat} {M0 : zM} {m : Nat} {ad : Nat → Nat} {post : Sm → Prop} {po : zM → Prop} (hp : ∀ (M : zM) (S : Sm), RMf M0 M m ad S → post S → po M) : ∀ (M : zM) (S : Sm) (l1 : Int32) (l2 : Int32) (s0 : Int32), RMf M0 M m ad S → v_M_next_j27 post  S l1 l2 s0 → w_M_next_j27 e0 po  M m l1 l2 s0 m := by
  intro M S l1 l2 s0 hR hv
  refine ⟨fun hq => ?_, fun hq => ?_⟩
  · have hv := hv.1 hq
    exact lf_M_next_j37 hp  _ _ _ _ _ hR hv
  · have hv := hv.2 hq
    refine ⟨fun hq => ?_, fun hq => ?_⟩
    · have hv := hv.1 hq
      exact lf_M_next_j42 hp  _ _ _ _ _ _ hR hv
    · have hv := hv.2 hq
      exact lf_M_next_j37 hp  _ _ _ _ _ hR hv
def v_M_next_j26 (post : Sm → Prop) (S : Sm) (l1 : Int32) (l2 : Int32) : Prop := v_M_next_j27 post S l1 l2 0
set_option maxRecDepth 100000 in
theorem lf_M_next_j26 {e0 : Nat} {M0 : zM} {m : Nat} {ad : Nat → Nat} {post : Sm → Prop} {po : zM → Prop} (hp : ∀ (M : zM) (S : Sm), RMf M0 M m ad S → post S → po M) : ∀ (M : zM) (S : Sm) (l1 : Int32) (l2 : Int32), RMf M0 M m ad S → v_M_next_j26 post  S l1 l2 → w_M_next_j26 e0 po  M m l1 l2 m := by
  intro M S l1 l2 hR hv
  exact lf_M_next_j27 hp  _ _ _ _ _ hR hv
def v_M_next_j22 (post : Sm → Prop) (S : Sm) (l1 : Int32) (l2 : Int32) : Prop := v_M_next_j27 post S l1 l2 1
set_option maxRecDepth 100000 in
theorem lf_M_next_j22 {e0 : Nat} {M0 : zM} {m : Nat} {ad : Nat → Nat} {post : Sm → Prop} {po : zM → Prop} (hp : ∀ (M : zM) (S : Sm), RMf M0 M m ad S → post S → po M) : ∀ (M : zM) (S : Sm) (l1 : Int32) (l2 : Int32), RMf M0 M m ad S → v_M_next_j22 post  S l1 l2 → w_M_next_j22 e0 po  M m l1 l2 m := by
  intro M S l1 l2 hR hv
  exact lf_M_next_j27 hp  _ _ _ _ _ hR hv
def v_M_next (post : Sm → Prop) (S : Sm) (x1 : Int32) (x2 : Int32) : Prop := v_M_isGroup (fun r2 S1 => ((r2 = 0) → v_M_next_j26 post S1 x1 x2) ∧ (¬ (r2 = 0) → ((x2 = (-1)) → v_M_next_j22 post S1 x1 x2) ∧ (¬ (x2 = (-1)) → v_M_isGroup (fun r4 S3 => ((r4 = 0) → v_M_next_j26 post S3 x1 x2) ∧ (¬ (r4 = 0) → v_M_next_j22 post S3 x1 x2)) S1 x2))) S x1
set_option maxRecDepth 100000 in
theorem lf_M_next {e0 : Nat} {M0 : zM} {m : Nat} {ad : Nat → Nat} {post : Sm → Prop} {po : zM → Prop} {M : zM} {S : Sm} {x1 : Int32} {x2 : Int32} (hR : RMf M0 M m ad S) (hv : v_M_next post S x1 x2) (hp : ∀ (M : zM) (S : Sm), RMf M0 M m ad S → post S → po M) : w_M_next e0 po M m x1 x2 := by
  refine ⟨rm_is hR, ?_⟩
  refine lf_M_isGroup hR hv (fun _ M _ hR hv => ?_)
  refine ⟨fun hq => ?_, fun hq => ?_⟩
  · have hv := hv.1 hq
    exact lf_M_next_j26 hp  _ _ _ _ hR hv
  · have hv := hv.2 hq
    refine ⟨fun hq => ?_, fun hq => ?_⟩
    · have hv := hv.1 hq
      exact lf_M_next_j22 hp  _ _ _ _ hR hv
    · have hv := hv.2 hq
      refine ⟨rm_is hR, ?_⟩
      refine lf_M_isGroup hR hv (fun _ M _ hR hv => ?_)
      refine ⟨fun hq => ?_, fun hq => ?_⟩
      · have hv := hv.1 hq
        exact lf_M_next_j26 hp  _ _ _ _ hR hv
      · have hv := hv.2 hq
        exact lf_M_next_j22 hp  _ _ _ _ hR hv
def v_M_person_j20 (post : Int32 → Sm → Prop) (S : Sm) (l1 : Int32) (s0 : Int32) (s1 : Int32) : Prop := v_M_goes (fun r2 S1 => ((r2 = 0) → post 0 S1) ∧ (¬ (r2 = 0) → aST S1 7 (S1 6 0) l1 (fun S3 => aPF S3 6 ((S3 6 0) + 1) (fun S4 => post ((S4 6 0) - 1) S4)))) S s1 s0 1
set_option maxRecDepth 100000 in
theorem lf_M_person_j20 {e0 : Nat} {M0 : zM} {m : Nat} {ad : Nat → Nat} {post : Int32 → Sm → Prop} {po : Int32 → zM → Prop} (hp : ∀ (r : Int32) (M : zM) (S : Sm), RMf M0 M m ad S → post r S → po r M) : ∀ (M : zM) (S : Sm) (l1 : Int32) (s0 : Int32) (s1 : Int32), RMf M0 M m ad S → v_M_person_j20 post  S l1 s0 s1 → w_M_person_j20 e0 po  M m l1 s0 s1 m := by
  intro M S l1 s0 s1 hR hv
  refine ⟨rm_is hR, ?_⟩
  refine lf_M_goes hR hv (fun _ M _ hR hv => ?_)
  refine ⟨fun hq => ?_, fun hq => ?_⟩
  · have hv := hv.1 hq
    exact hp _ _ _ hR hv
  · have hv := hv.2 hq
    refine rm_gr hR (j := 7) rfl ?_
    refine rm_gi hR rfl ?_
    obtain ⟨hi, hv⟩ := hv
    refine rm_st hR (by decide) hi (fun M hR => ?_)
    refine rm_gi hR rfl ?_
    refine rm_pf_6 hR (fun M hR => ?_)
    refine rm_gi hR rfl ?_
    exact hp _ _ _ hR hv
def v_M_person (post : Int32 → Sm → Prop) (S : Sm) (x1 : Int32) : Prop := v_M_isGroup (fun r2 S1 => ((60 ≤ (S1 6 0)) → v_M_person_j20 post S1 x1 0 r2) ∧ (¬ (60 ≤ (S1 6 0)) → v_M_person_j20 post S1 x1 1 r2)) S x1
set_option maxRecDepth 100000 in
theorem lf_M_person {e0 : Nat} {M0 : zM} {m : Nat} {ad : Nat → Nat} {post : Int32 → Sm → Prop} {po : Int32 → zM → Prop} {M : zM} {S : Sm} {x1 : Int32} (hR : RMf M0 M m ad S) (hv : v_M_person post S x1) (hp : ∀ (r : Int32) (M : zM) (S : Sm), RMf M0 M m ad S → post r S → po r M) : w_M_person e0 po M m x1 := by
  refine ⟨rm_is hR, ?_⟩
  refine lf_M_isGroup hR hv (fun _ M _ hR hv => ?_)
  refine rm_gi hR rfl ?_
  refine ⟨fun hq => ?_, fun hq => ?_⟩
  · have hv := hv.1 hq
    exact lf_M_person_j20 hp  _ _ _ _ _ hR hv
  · have hv := hv.2 hq
    exact lf_M_person_j20 hp  _ _ _ _ _ hR hv
def v_M_isPerson (post : Int32 → Sm → Prop) (S : Sm) (x1 : Int32) : Prop := v_M_in (fun r2 S1 => (narrow .boolean (.int r2) = .int r2) ∧ post r2 S1) S x1 0 ((S 6 0) - 1)
set_option maxRecDepth 100000 in
theorem lf_M_isPerson {e0 : Nat} {M0 : zM} {m : Nat} {ad : Nat → Nat} {post : Int32 → Sm → Prop} {po : Int32 → zM → Prop} {M : zM} {S : Sm} {x1 : Int32} (hR : RMf M0 M m ad S) (hv : v_M_isPerson post S x1) (hp : ∀ (r : Int32) (M : zM) (S : Sm), RMf M0 M m ad S → post r S → po r M) : w_M_isPerson e0 po M m x1 := by
  refine rm_gi hR rfl ?_
  refine lf_M_in hR hv (fun _ M _ hR hv => ?_)
  exact ⟨hv.1, hp _ _ _ hR hv.2⟩
def v_M_way_j101 (post : Int32 → Sm → Prop) (S : Sm) (l1 : Int32) : Prop := aLD S 8 l1 (fun v1 => post v1 S)
set_option maxRecDepth 100000 in
theorem lf_M_way_j101 {e0 : Nat} {M0 : zM} {m : Nat} {ad : Nat → Nat} {post : Int32 → Sm → Prop} {po : Int32 → zM → Prop} (hp : ∀ (r : Int32) (M : zM) (S : Sm), RMf M0 M m ad S → post r S → po r M) : ∀ (M : zM) (S : Sm) (l1 : Int32), RMf M0 M m ad S → v_M_way_j101 post  S l1 → w_M_way_j101 e0 po  M m l1 := by
  intro M S l1 hR hv
  refine rm_gr hR (j := 8) rfl ?_
  obtain ⟨hi, hv⟩ := hv
  refine rm_ld hR (by decide) hi ?_
  exact hp _ _ _ hR hv
def v_M_way_j56 (post : Int32 → Sm → Prop) (S : Sm) (l1 : Int32) (l2 : Int32) (l3 : Int32) (l4 : Int32) : Prop := aST S 9 ((3 * l1) + l4) l2 (fun S1 => aST S1 10 ((3 * l1) + l4) (vp_nar .boolean l3) (fun S2 => aLD S2 8 l1 (fun v3 => ((l4 = v3) → aLD S2 8 l1 (fun v4 => aST S2 8 l1 (v4 + 1) (fun S5 => v_M_way_j101 post S5 l1))) ∧ (¬ (l4 = v3) → v_M_way_j101 post S2 l1))))
set_option maxRecDepth 100000 in
theorem lf_M_way_j56 {e0 : Nat} {M0 : zM} {m : Nat} {ad : Nat → Nat} {post : Int32 → Sm → Prop} {po : Int32 → zM → Prop} (hp : ∀ (r : Int32) (M : zM) (S : Sm), RMf M0 M m ad S → post r S → po r M) : ∀ (M : zM) (S : Sm) (l1 : Int32) (l2 : Int32) (l3 : Int32) (l4 : Int32), RMf M0 M m ad S → v_M_way_j56 post  S l1 l2 l3 l4 → w_M_way_j56 e0 po  M m l1 l2 l3 l4 := by
  intro M S l1 l2 l3 l4 hR hv
  refine rm_gr hR (j := 9) rfl ?_
  obtain ⟨hi, hv⟩ := hv
  refine rm_st hR (by decide) hi (fun M hR => ?_)
  refine rm_gr hR (j := 10) rfl ?_
  obtain ⟨hi, hv⟩ := hv
  refine rm_sz hR (by decide) rfl hi (fun M hR => ?_)
  refine rm_gr hR (j := 8) rfl ?_
  obtain ⟨hi, hv⟩ := hv
  refine rm_ld hR (by decide) hi ?_
  refine ⟨fun hq => ?_, fun hq => ?_⟩
  · have hv := hv.1 hq
    refine rm_gr hR (j := 8) rfl ?_
    obtain ⟨hi, hv⟩ := hv
    refine rm_ld hR (by decide) hi ?_
    obtain ⟨hi, hv⟩ := hv
    refine rm_st hR (by decide) hi (fun M hR => ?_)
    exact lf_M_way_j101 hp  _ _ _ hR hv
  · have hv := hv.2 hq
    exact lf_M_way_j101 hp  _ _ _ hR hv
def v_M_way_j24 (post : Int32 → Sm → Prop) : Nat → Sm → Int32 → Int32 → Int32 → Int32 → Prop
  | 0 => fun _ _ _ _ _ => False
  | n + 1 => fun S l1 l2 l3 l4 => aLD S 8 l1 (fun v1 => ((v1 ≤ l4) → v_M_way_j56 post S l1 l2 l3 l4) ∧ (¬ (v1 ≤ l4) → aLD S 9 ((3 * l1) + l4) (fun v2 => ((v2 = l2) → v_M_way_j56 post S l1 l2 l3 l4) ∧ (¬ (v2 = l2) → v_M_way_j24 post n S l1 l2 l3 (l4 + 1)))))
set_option maxRecDepth 100000 in
theorem lf_M_way_j24 {e0 : Nat} {M0 : zM} {m : Nat} {ad : Nat → Nat} {post : Int32 → Sm → Prop} {po : Int32 → zM → Prop} (hp : ∀ (r : Int32) (M : zM) (S : Sm), RMf M0 M m ad S → post r S → po r M) : ∀ n : Nat, ∀ (M : zM) (S : Sm) (l1 : Int32) (l2 : Int32) (l3 : Int32) (l4 : Int32), RMf M0 M m ad S → v_M_way_j24 post  n S l1 l2 l3 l4 → w_M_way_j24 e0 po  n M m l1 l2 l3 l4 := by
  intro n
  induction n with
  | zero => intro M S l1 l2 l3 l4 hR hv; exact hv.elim
  | succ n ih =>
    intro M S l1 l2 l3 l4 hR hv
    refine rm_gr hR (j := 8) rfl ?_
    obtain ⟨hi, hv⟩ := hv
    refine rm_ld hR (by decide) hi ?_
    refine ⟨fun hq => ?_, fun hq => ?_⟩
    · have hv := hv.1 hq
      exact lf_M_way_j56 hp  _ _ _ _ _ _ hR hv
    · have hv := hv.2 hq
      refine rm_gr hR (j := 9) rfl ?_
      obtain ⟨hi, hv⟩ := hv
      refine rm_ld hR (by decide) hi ?_
      refine ⟨fun hq => ?_, fun hq => ?_⟩
      · have hv := hv.1 hq
        exact lf_M_way_j56 hp  _ _ _ _ _ _ hR hv
      · have hv := hv.2 hq
        exact ih _ _ _ _ _ _ hR hv
def v_M_way (post : Int32 → Sm → Prop) (S : Sm) (x1 : Int32) (x2 : Int32) (x3 : Int32) : Prop := v_M_isPerson (fun r2 S1 => v_M_in (fun r4 S3 => v_M_goes (fun r6 S5 => ((r6 = 0) → post 0 S5) ∧ (¬ (r6 = 0) → ∃ nn, v_M_way_j24 post nn S5 x1 x2 x3 0)) S3 r2 r4 1) S1 x2 0 2) S x1
set_option maxRecDepth 100000 in
theorem lf_M_way {e0 : Nat} {M0 : zM} {m : Nat} {ad : Nat → Nat} {post : Int32 → Sm → Prop} {po : Int32 → zM → Prop} {M : zM} {S : Sm} {x1 : Int32} {x2 : Int32} {x3 : Int32} (hR : RMf M0 M m ad S) (hv : v_M_way post S x1 x2 x3) (hp : ∀ (r : Int32) (M : zM) (S : Sm), RMf M0 M m ad S → post r S → po r M) : w_M_way e0 po M m x1 x2 x3 := by
  refine ⟨rm_is hR, ?_⟩
  refine lf_M_isPerson hR hv (fun _ M _ hR hv => ?_)
  refine lf_M_in hR hv (fun _ M _ hR hv => ?_)
  refine ⟨rm_is hR, ?_⟩
  refine lf_M_goes hR hv (fun _ M _ hR hv => ?_)
  refine ⟨fun hq => ?_, fun hq => ?_⟩
  · have hv := hv.1 hq
    exact hp _ _ _ hR hv
  · have hv := hv.2 hq
    obtain ⟨nfu, hv⟩ := hv
    exact ⟨nfu, lf_M_way_j24 hp  nfu _ _ _ _ _ _ hR hv⟩
def v_M_is (post : Sm → Prop) (S : Sm) (x1 : Int32) (x2 : Int32) : Prop := v_M_isPerson (fun r2 S1 => v_M_in (fun r4 S3 => v_M_goes (fun r6 S5 => ((r6 = 0) → post S5) ∧ (¬ (r6 = 0) → aST S5 11 x1 x2 (fun S7 => post S7))) S3 r2 r4 1) S1 x2 0 2) S x1
set_option maxRecDepth 100000 in
theorem lf_M_is {e0 : Nat} {M0 : zM} {m : Nat} {ad : Nat → Nat} {post : Sm → Prop} {po : zM → Prop} {M : zM} {S : Sm} {x1 : Int32} {x2 : Int32} (hR : RMf M0 M m ad S) (hv : v_M_is post S x1 x2) (hp : ∀ (M : zM) (S : Sm), RMf M0 M m ad S → post S → po M) : w_M_is e0 po M m x1 x2 := by
  refine ⟨rm_is hR, ?_⟩
  refine lf_M_isPerson hR hv (fun _ M _ hR hv => ?_)
  refine lf_M_in hR hv (fun _ M _ hR hv => ?_)
  refine ⟨rm_is hR, ?_⟩
  refine lf_M_goes hR hv (fun _ M _ hR hv => ?_)
  refine ⟨fun hq => ?_, fun hq => ?_⟩
  · have hv := hv.1 hq
    exact hp _ _ hR hv
  · have hv := hv.2 hq
    refine rm_gr hR (j := 11) rfl ?_
    obtain ⟨hi, hv⟩ := hv
    refine rm_st hR (by decide) hi (fun M hR => ?_)
    exact hp _ _ hR hv
def v_M_asks_j37 (post : Int32 → Sm → Prop) (S : Sm) : Prop := post 0 S
set_option maxRecDepth 100000 in
theorem lf_M_asks_j37 {e0 : Nat} {M0 : zM} {m : Nat} {ad : Nat → Nat} {post : Int32 → Sm → Prop} {po : Int32 → zM → Prop} (hp : ∀ (r : Int32) (M : zM) (S : Sm), RMf M0 M m ad S → post r S → po r M) : ∀ (M : zM) (S : Sm) , RMf M0 M m ad S → v_M_asks_j37 post  S  → w_M_asks_j37 e0 po  M  := by
  intro M S  hR hv
  exact hp _ _ _ hR hv
def v_M_asks_j33 (post : Int32 → Sm → Prop) (S : Sm) : Prop := post 1 S
set_option maxRecDepth 100000 in
theorem lf_M_asks_j33 {e0 : Nat} {M0 : zM} {m : Nat} {ad : Nat → Nat} {post : Int32 → Sm → Prop} {po : Int32 → zM → Prop} (hp : ∀ (r : Int32) (M : zM) (S : Sm), RMf M0 M m ad S → post r S → po r M) : ∀ (M : zM) (S : Sm) , RMf M0 M m ad S → v_M_asks_j33 post  S  → w_M_asks_j33 e0 po  M  := by
  intro M S  hR hv
  exact hp _ _ _ hR hv
def v_M_asks (post : Int32 → Sm → Prop) (S : Sm) (x1 : Int32) (x2 : Int32) (x3 : Int32) : Prop := aLD S 7 x3 (fun v1 => ((v1 = x1) → aLD S 11 x3 (fun v2 => ((v2 = 0) → v_M_asks_j33 post S) ∧ (¬ (v2 = 0) → ((x2 = 0) → v_M_asks_j37 post S) ∧ (¬ (x2 = 0) → aLD S 11 x3 (fun v3 => ((v3 = 1) → v_M_asks_j33 post S) ∧ (¬ (v3 = 1) → v_M_asks_j37 post S)))))) ∧ (¬ (v1 = x1) → v_M_asks_j37 post S))
set_option maxRecDepth 100000 in
theorem lf_M_asks {e0 : Nat} {M0 : zM} {m : Nat} {ad : Nat → Nat} {post : Int32 → Sm → Prop} {po : Int32 → zM → Prop} {M : zM} {S : Sm} {x1 : Int32} {x2 : Int32} {x3 : Int32} (hR : RMf M0 M m ad S) (hv : v_M_asks post S x1 x2 x3) (hp : ∀ (r : Int32) (M : zM) (S : Sm), RMf M0 M m ad S → post r S → po r M) : w_M_asks e0 po M m x1 x2 x3 := by
  refine rm_gr hR (j := 7) rfl ?_
  obtain ⟨hi, hv⟩ := hv
  refine rm_ld hR (by decide) hi ?_
  refine ⟨fun hq => ?_, fun hq => ?_⟩
  · have hv := hv.1 hq
    refine rm_gr hR (j := 11) rfl ?_
    obtain ⟨hi, hv⟩ := hv
    refine rm_ld hR (by decide) hi ?_
    refine ⟨fun hq => ?_, fun hq => ?_⟩
    · have hv := hv.1 hq
      exact lf_M_asks_j33 hp  _ _ hR hv
    · have hv := hv.2 hq
      refine ⟨fun hq => ?_, fun hq => ?_⟩
      · have hv := hv.1 hq
        exact lf_M_asks_j37 hp  _ _ hR hv
      · have hv := hv.2 hq
        refine rm_gr hR (j := 11) rfl ?_
        obtain ⟨hi, hv⟩ := hv
        refine rm_ld hR (by decide) hi ?_
        refine ⟨fun hq => ?_, fun hq => ?_⟩
        · have hv := hv.1 hq
          exact lf_M_asks_j33 hp  _ _ hR hv
        · have hv := hv.2 hq
          exact lf_M_asks_j37 hp  _ _ hR hv
  · have hv := hv.2 hq
    exact lf_M_asks_j37 hp  _ _ hR hv
def v_M_asksAny_j2 (post : Int32 → Sm → Prop) : Nat → Sm → Int32 → Int32 → Int32 → Prop
  | 0 => fun _ _ _ _ => False
  | n + 1 => fun S l1 l2 l3 => (((S 6 0) ≤ l3) → post 0 S) ∧ (¬ ((S 6 0) ≤ l3) → v_M_asks (fun r2 S1 => ((r2 = 0) → v_M_asksAny_j2 post n S1 l1 l2 (l3 + 1)) ∧ (¬ (r2 = 0) → post 1 S1)) S l1 l2 l3)
set_option maxRecDepth 100000 in
theorem lf_M_asksAny_j2 {e0 : Nat} {M0 : zM} {m : Nat} {ad : Nat → Nat} {post : Int32 → Sm → Prop} {po : Int32 → zM → Prop} (hp : ∀ (r : Int32) (M : zM) (S : Sm), RMf M0 M m ad S → post r S → po r M) : ∀ n : Nat, ∀ (M : zM) (S : Sm) (l1 : Int32) (l2 : Int32) (l3 : Int32), RMf M0 M m ad S → v_M_asksAny_j2 post  n S l1 l2 l3 → w_M_asksAny_j2 e0 po  n M m l1 l2 l3 := by
  intro n
  induction n with
  | zero => intro M S l1 l2 l3 hR hv; exact hv.elim
  | succ n ih =>
    intro M S l1 l2 l3 hR hv
    refine rm_gi hR rfl ?_
    refine ⟨fun hq => ?_, fun hq => ?_⟩
    · have hv := hv.1 hq
      exact hp _ _ _ hR hv
    · have hv := hv.2 hq
      refine ⟨rm_is hR, ?_⟩
      refine lf_M_asks hR hv (fun _ M _ hR hv => ?_)
      refine ⟨fun hq => ?_, fun hq => ?_⟩
      · have hv := hv.1 hq
        exact ih _ _ _ _ _ hR hv
      · have hv := hv.2 hq
        exact hp _ _ _ hR hv
def v_M_asksAny (post : Int32 → Sm → Prop) (S : Sm) (x1 : Int32) (x2 : Int32) : Prop := ∃ nn, v_M_asksAny_j2 post nn S x1 x2 0
set_option maxRecDepth 100000 in
theorem lf_M_asksAny {e0 : Nat} {M0 : zM} {m : Nat} {ad : Nat → Nat} {post : Int32 → Sm → Prop} {po : Int32 → zM → Prop} {M : zM} {S : Sm} {x1 : Int32} {x2 : Int32} (hR : RMf M0 M m ad S) (hv : v_M_asksAny post S x1 x2) (hp : ∀ (r : Int32) (M : zM) (S : Sm), RMf M0 M m ad S → post r S → po r M) : w_M_asksAny e0 po M m x1 x2 := by
  obtain ⟨nfu, hv⟩ := hv
  exact ⟨nfu, lf_M_asksAny_j2 hp  nfu _ _ _ _ _ hR hv⟩
def v_M_begin_j196 (post : Sm → Prop) : Nat → Sm → Int32 → Prop
  | 0 => fun _ _ => False
  | n + 1 => fun S l4 => ((60 ≤ l4) → aPF S 12 ((S 12 0) + 1) (fun S1 => post S1)) ∧ (¬ (60 ≤ l4) → aST S 18 (((S 12 0) * 60) + l4) (vp_nar .boolean 0) (fun S2 => v_M_begin_j196 post n S2 (l4 + 1)))
set_option maxRecDepth 100000 in
theorem lf_M_begin_j196 {e0 : Nat} {M0 : zM} {m : Nat} {ad : Nat → Nat} {post : Sm → Prop} {po : zM → Prop} (hp : ∀ (M : zM) (S : Sm), RMf M0 M m ad S → post S → po M) : ∀ n : Nat, ∀ (M : zM) (S : Sm) (l4 : Int32), RMf M0 M m ad S → v_M_begin_j196 post  n S l4 → w_M_begin_j196 e0 po  n M m l4 := by
  intro n
  induction n with
  | zero => intro M S l4 hR hv; exact hv.elim
  | succ n ih =>
    intro M S l4 hR hv
    refine ⟨fun hq => ?_, fun hq => ?_⟩
    · have hv := hv.1 hq
      refine rm_gi hR rfl ?_
      refine rm_pf_12 hR (fun M hR => ?_)
      exact hp _ _ hR hv
    · have hv := hv.2 hq
      refine rm_gr hR (j := 18) rfl ?_
      refine rm_gi hR rfl ?_
      obtain ⟨hi, hv⟩ := hv
      refine rm_sz hR (by decide) rfl hi (fun M hR => ?_)
      exact ih _ _ _ hR hv
def v_M_begin_j162 (post : Sm → Prop) (K56 : Sm → Int32 → Int32 → Int32 → Prop) (S : Sm) (l1 : Int32) (l2 : Int32) (l4 : Int32) (l5 : Int32) (l6 : Int32) (s0 : Int32) (s1 : Int32) : Prop := aST S 19 s1 s0 (fun S1 => aST S1 20 l5 (20 * l6) (fun S2 => aST S2 21 l5 (-2) (fun S3 => K56 S3 l1 l2 (l4 + 1))))
set_option maxRecDepth 100000 in
theorem lf_M_begin_j162 {e0 : Nat} {M0 : zM} {m : Nat} {ad : Nat → Nat} {post : Sm → Prop} {po : zM → Prop} (hp : ∀ (M : zM) (S : Sm), RMf M0 M m ad S → post S → po M) {K56 : Sm → Int32 → Int32 → Int32 → Prop} {C56 : zM → Nat → Int32 → Int32 → Int32 → Prop} (hK56 : ∀ (M : zM) (S : Sm) (l1 : Int32) (l2 : Int32) (l4 : Int32), RMf M0 M m ad S → K56 S l1 l2 l4 → C56 M m l1 l2 l4) : ∀ (M : zM) (S : Sm) (l1 : Int32) (l2 : Int32) (l4 : Int32) (l5 : Int32) (l6 : Int32) (s0 : Int32) (s1 : Int32), RMf M0 M m ad S → v_M_begin_j162 post K56 S l1 l2 l4 l5 l6 s0 s1 → w_M_begin_j162 e0 po C56 M m l1 l2 l4 l5 l6 s0 s1 (ad 19) := by
  intro M S l1 l2 l4 l5 l6 s0 s1 hR hv
  obtain ⟨hi, hv⟩ := hv
  refine rm_st hR (by decide) hi (fun M hR => ?_)
  refine rm_gr hR (j := 20) rfl ?_
  obtain ⟨hi, hv⟩ := hv
  refine rm_st hR (by decide) hi (fun M hR => ?_)
  refine rm_gr hR (j := 21) rfl ?_
  obtain ⟨hi, hv⟩ := hv
  refine rm_st hR (by decide) hi (fun M hR => ?_)
  exact hK56 _ _ _ _ _ hR hv
def v_M_begin_j128 (post : Sm → Prop) (K56 : Sm → Int32 → Int32 → Int32 → Prop) (S : Sm) (l1 : Int32) (l2 : Int32) (l4 : Int32) (l5 : Int32) (l6 : Int32) : Prop := aLD S 8 l4 (fun v1 => ((v1 ≤ l6) → v_M_begin_j162 post K56 S l1 l2 l4 l5 l6 (-1) l5) ∧ (¬ (v1 ≤ l6) → aLD S 9 ((3 * l4) + l6) (fun v2 => v_M_begin_j162 post K56 S l1 l2 l4 l5 l6 v2 l5)))
set_option maxRecDepth 100000 in
theorem lf_M_begin_j128 {e0 : Nat} {M0 : zM} {m : Nat} {ad : Nat → Nat} {post : Sm → Prop} {po : zM → Prop} (hp : ∀ (M : zM) (S : Sm), RMf M0 M m ad S → post S → po M) {K56 : Sm → Int32 → Int32 → Int32 → Prop} {C56 : zM → Nat → Int32 → Int32 → Int32 → Prop} (hK56 : ∀ (M : zM) (S : Sm) (l1 : Int32) (l2 : Int32) (l4 : Int32), RMf M0 M m ad S → K56 S l1 l2 l4 → C56 M m l1 l2 l4) : ∀ (M : zM) (S : Sm) (l1 : Int32) (l2 : Int32) (l4 : Int32) (l5 : Int32) (l6 : Int32), RMf M0 M m ad S → v_M_begin_j128 post K56 S l1 l2 l4 l5 l6 → w_M_begin_j128 e0 po C56 M m l1 l2 l4 l5 l6 := by
  intro M S l1 l2 l4 l5 l6 hR hv
  refine rm_gr hR (j := 19) rfl ?_
  refine rm_gr hR (j := 8) rfl ?_
  obtain ⟨hi, hv⟩ := hv
  refine rm_ld hR (by decide) hi ?_
  refine ⟨fun hq => ?_, fun hq => ?_⟩
  · have hv := hv.1 hq
    exact lf_M_begin_j162 hp hK56 _ _ _ _ _ _ _ _ _ hR hv
  · have hv := hv.2 hq
    refine rm_gr hR (j := 9) rfl ?_
    obtain ⟨hi, hv⟩ := hv
    refine rm_ld hR (by decide) hi ?_
    exact lf_M_begin_j162 hp hK56 _ _ _ _ _ _ _ _ _ hR hv
def v_M_begin_j95 (post : Sm → Prop) (K56 : Sm → Int32 → Int32 → Int32 → Prop) : Nat → Sm → Int32 → Int32 → Int32 → Int32 → Int32 → Prop
  | 0 => fun _ _ _ _ _ _ => False
  | n + 1 => fun S l1 l2 l4 l5 l6 => aLD S 8 l4 (fun v1 => ((v1 ≤ l6) → v_M_begin_j128 post K56 S l1 l2 l4 l5 l6) ∧ (¬ (v1 ≤ l6) → aLD S 10 ((3 * l4) + l6) (fun v2 => ((v2 = 0) → v_M_begin_j95 post K56 n S l1 l2 l4 l5 (l6 + 1)) ∧ (¬ (v2 = 0) → v_M_begin_j128 post K56 S l1 l2 l4 l5 l6))))
set_option maxRecDepth 100000 in
theorem lf_M_begin_j95 {e0 : Nat} {M0 : zM} {m : Nat} {ad : Nat → Nat} {post : Sm → Prop} {po : zM → Prop} (hp : ∀ (M : zM) (S : Sm), RMf M0 M m ad S → post S → po M) {K56 : Sm → Int32 → Int32 → Int32 → Prop} {C56 : zM → Nat → Int32 → Int32 → Int32 → Prop} (hK56 : ∀ (M : zM) (S : Sm) (l1 : Int32) (l2 : Int32) (l4 : Int32), RMf M0 M m ad S → K56 S l1 l2 l4 → C56 M m l1 l2 l4) : ∀ n : Nat, ∀ (M : zM) (S : Sm) (l1 : Int32) (l2 : Int32) (l4 : Int32) (l5 : Int32) (l6 : Int32), RMf M0 M m ad S → v_M_begin_j95 post K56 n S l1 l2 l4 l5 l6 → w_M_begin_j95 e0 po C56 n M m l1 l2 l4 l5 l6 := by
  intro n
  induction n with
  | zero => intro M S l1 l2 l4 l5 l6 hR hv; exact hv.elim
  | succ n ih =>
    intro M S l1 l2 l4 l5 l6 hR hv
    refine rm_gr hR (j := 8) rfl ?_
    obtain ⟨hi, hv⟩ := hv
    refine rm_ld hR (by decide) hi ?_
    refine ⟨fun hq => ?_, fun hq => ?_⟩
    · have hv := hv.1 hq
      exact lf_M_begin_j128 hp hK56 _ _ _ _ _ _ _ hR hv
    · have hv := hv.2 hq
      refine rm_gr hR (j := 10) rfl ?_
      obtain ⟨hi, hv⟩ := hv
      refine rm_ld hR (by decide) hi ?_
      refine ⟨fun hq => ?_, fun hq => ?_⟩
      · have hv := hv.1 hq
        exact ih _ _ _ _ _ _ _ hR hv
      · have hv := hv.2 hq
        exact lf_M_begin_j128 hp hK56 _ _ _ _ _ _ _ hR hv
def v_M_begin_j56 (post : Sm → Prop) : Nat → Sm → Int32 → Int32 → Int32 → Prop
  | 0 => fun _ _ _ _ => False
  | n + 1 => fun S l1 l2 l4 => (((S 6 0) ≤ l4) → ∃ nn, v_M_begin_j196 post nn S (S 6 0)) ∧ (¬ ((S 6 0) ≤ l4) → v_M_asks (fun r2 S1 => aST S1 18 (((S 12 0) * 60) + l4) (vp_nar .boolean r2) (fun S3 => ∃ nn, v_M_begin_j95 post (v_M_begin_j56 post n) nn S3 l1 l2 l4 (((S 12 0) * 60) + l4) 0)) S l1 l2 l4)
set_option maxRecDepth 100000 in
theorem lf_M_begin_j56 {e0 : Nat} {M0 : zM} {m : Nat} {ad : Nat → Nat} {post : Sm → Prop} {po : zM → Prop} (hp : ∀ (M : zM) (S : Sm), RMf M0 M m ad S → post S → po M) : ∀ n : Nat, ∀ (M : zM) (S : Sm) (l1 : Int32) (l2 : Int32) (l4 : Int32), RMf M0 M m ad S → v_M_begin_j56 post  n S l1 l2 l4 → w_M_begin_j56 e0 po  n M m l1 l2 l4 := by
  intro n
  induction n with
  | zero => intro M S l1 l2 l4 hR hv; exact hv.elim
  | succ n ih =>
    intro M S l1 l2 l4 hR hv
    refine rm_gi hR rfl ?_
    refine ⟨fun hq => ?_, fun hq => ?_⟩
    · have hv := hv.1 hq
      refine rm_gi hR rfl ?_
      obtain ⟨nfu, hv⟩ := hv
      exact ⟨nfu, lf_M_begin_j196 hp  nfu _ _ _ hR hv⟩
    · have hv := hv.2 hq
      refine rm_gi hR rfl ?_
      refine rm_gr hR (j := 18) rfl ?_
      refine ⟨rm_is hR, ?_⟩
      refine lf_M_asks hR hv (fun _ M _ hR hv => ?_)
      obtain ⟨hi, hv⟩ := hv
      refine rm_sz hR (by decide) rfl hi (fun M hR => ?_)
      obtain ⟨nfu, hv⟩ := hv
      exact ⟨nfu, lf_M_begin_j95 hp ih nfu _ _ _ _ _ _ _ hR hv⟩
def v_M_begin (post : Sm → Prop) (S : Sm) (x1 : Int32) (x2 : Int32) (x3 : Int32) : Prop := aST S 13 (S 12 0) x1 (fun S1 => aST S1 14 (S1 12 0) (vp_nar .boolean x2) (fun S2 => aST S2 15 (S2 12 0) (S2 1 0) (fun S3 => aST S3 16 (S3 12 0) x3 (fun S4 => aST S4 17 (S4 12 0) 0 (fun S5 => ∃ nn, v_M_begin_j56 post nn S5 x1 x2 0)))))
set_option maxRecDepth 100000 in
theorem lf_M_begin {e0 : Nat} {M0 : zM} {m : Nat} {ad : Nat → Nat} {post : Sm → Prop} {po : zM → Prop} {M : zM} {S : Sm} {x1 : Int32} {x2 : Int32} {x3 : Int32} (hR : RMf M0 M m ad S) (hv : v_M_begin post S x1 x2 x3) (hp : ∀ (M : zM) (S : Sm), RMf M0 M m ad S → post S → po M) : w_M_begin e0 po M m x1 x2 x3 := by
  refine rm_gr hR (j := 13) rfl ?_
  refine rm_gi hR rfl ?_
  obtain ⟨hi, hv⟩ := hv
  refine rm_st hR (by decide) hi (fun M hR => ?_)
  refine rm_gr hR (j := 14) rfl ?_
  refine rm_gi hR rfl ?_
  obtain ⟨hi, hv⟩ := hv
  refine rm_sz hR (by decide) rfl hi (fun M hR => ?_)
  refine rm_gr hR (j := 15) rfl ?_
  refine rm_gi hR rfl ?_
  refine rm_gi hR rfl ?_
  obtain ⟨hi, hv⟩ := hv
  refine rm_st hR (by decide) hi (fun M hR => ?_)
  refine rm_gr hR (j := 16) rfl ?_
  refine rm_gi hR rfl ?_
  obtain ⟨hi, hv⟩ := hv
  refine rm_st hR (by decide) hi (fun M hR => ?_)
  refine rm_gr hR (j := 17) rfl ?_
  refine rm_gi hR rfl ?_
  obtain ⟨hi, hv⟩ := hv
  refine rm_st hR (by decide) hi (fun M hR => ?_)
  obtain ⟨nfu, hv⟩ := hv
  exact ⟨nfu, lf_M_begin_j56 hp  nfu _ _ _ _ _ hR hv⟩
def v_M_alarm_j42 (post : Int32 → Sm → Prop) (S : Sm) (l1 : Int32) (l2 : Int32) (s0 : Int32) (s1 : Int32) (s2 : Int32) : Prop := v_M_goes (fun r2 S1 => ((r2 = 0) → post 0 S1) ∧ (¬ (r2 = 0) → v_M_begin (fun S3 => post ((S3 12 0) - 1) S3) S1 l1 l2 (-1))) S s2 s1 s0
set_option maxRecDepth 100000 in
theorem lf_M_alarm_j42 {e0 : Nat} {M0 : zM} {m : Nat} {ad : Nat → Nat} {post : Int32 → Sm → Prop} {po : Int32 → zM → Prop} (hp : ∀ (r : Int32) (M : zM) (S : Sm), RMf M0 M m ad S → post r S → po r M) : ∀ (M : zM) (S : Sm) (l1 : Int32) (l2 : Int32) (s0 : Int32) (s1 : Int32) (s2 : Int32), RMf M0 M m ad S → v_M_alarm_j42 post  S l1 l2 s0 s1 s2 → w_M_alarm_j42 e0 po  M m l1 l2 s0 s1 s2 m := by
  intro M S l1 l2 s0 s1 s2 hR hv
  refine ⟨rm_is hR, ?_⟩
  refine lf_M_goes hR hv (fun _ M _ hR hv => ?_)
  refine ⟨fun hq => ?_, fun hq => ?_⟩
  · have hv := hv.1 hq
    exact hp _ _ _ hR hv
  · have hv := hv.2 hq
    refine ⟨rm_is hR, ?_⟩
    refine lf_M_begin hR hv (fun M _ hR hv => ?_)
    refine rm_gi hR rfl ?_
    exact hp _ _ _ hR hv
def v_M_alarm_j28 (post : Int32 → Sm → Prop) (S : Sm) (l1 : Int32) (l2 : Int32) (s0 : Int32) (s1 : Int32) : Prop := ((60 ≤ (S 12 0)) → v_M_alarm_j42 post S l1 l2 0 s0 s1) ∧ (¬ (60 ≤ (S 12 0)) → v_M_alarm_j42 post S l1 l2 1 s0 s1)
set_option maxRecDepth 100000 in
theorem lf_M_alarm_j28 {e0 : Nat} {M0 : zM} {m : Nat} {ad : Nat → Nat} {post : Int32 → Sm → Prop} {po : Int32 → zM → Prop} (hp : ∀ (r : Int32) (M : zM) (S : Sm), RMf M0 M m ad S → post r S → po r M) : ∀ (M : zM) (S : Sm) (l1 : Int32) (l2 : Int32) (s0 : Int32) (s1 : Int32), RMf M0 M m ad S → v_M_alarm_j28 post  S l1 l2 s0 s1 → w_M_alarm_j28 e0 po  M m l1 l2 s0 s1 m := by
  intro M S l1 l2 s0 s1 hR hv
  refine rm_gi hR rfl ?_
  refine ⟨fun hq => ?_, fun hq => ?_⟩
  · have hv := hv.1 hq
    exact lf_M_alarm_j42 hp  _ _ _ _ _ _ _ hR hv
  · have hv := hv.2 hq
    exact lf_M_alarm_j42 hp  _ _ _ _ _ _ _ hR hv
def v_M_alarm_j27 (post : Int32 → Sm → Prop) (S : Sm) (l1 : Int32) (l2 : Int32) (s0 : Int32) : Prop := v_M_alarm_j28 post S l1 l2 0 s0
set_option maxRecDepth 100000 in
theorem lf_M_alarm_j27 {e0 : Nat} {M0 : zM} {m : Nat} {ad : Nat → Nat} {post : Int32 → Sm → Prop} {po : Int32 → zM → Prop} (hp : ∀ (r : Int32) (M : zM) (S : Sm), RMf M0 M m ad S → post r S → po r M) : ∀ (M : zM) (S : Sm) (l1 : Int32) (l2 : Int32) (s0 : Int32), RMf M0 M m ad S → v_M_alarm_j27 post  S l1 l2 s0 → w_M_alarm_j27 e0 po  M m l1 l2 s0 m := by
  intro M S l1 l2 s0 hR hv
  exact lf_M_alarm_j28 hp  _ _ _ _ _ _ hR hv
def v_M_alarm (post : Int32 → Sm → Prop) (S : Sm) (x1 : Int32) (x2 : Int32) : Prop := v_M_isGroup (fun r2 S1 => v_M_isGroup (fun r4 S3 => ((r4 = 0) → v_M_alarm_j27 post S3 x1 x2 r2) ∧ (¬ (r4 = 0) → v_M_asksAny (fun r6 S5 => ((r6 = 0) → v_M_alarm_j27 post S5 x1 x2 r2) ∧ (¬ (r6 = 0) → v_M_alarm_j28 post S5 x1 x2 1 r2)) S3 x1 x2)) S1 x1) S x1
set_option maxRecDepth 100000 in
theorem lf_M_alarm {e0 : Nat} {M0 : zM} {m : Nat} {ad : Nat → Nat} {post : Int32 → Sm → Prop} {po : Int32 → zM → Prop} {M : zM} {S : Sm} {x1 : Int32} {x2 : Int32} (hR : RMf M0 M m ad S) (hv : v_M_alarm post S x1 x2) (hp : ∀ (r : Int32) (M : zM) (S : Sm), RMf M0 M m ad S → post r S → po r M) : w_M_alarm e0 po M m x1 x2 := by
  refine ⟨rm_is hR, ?_⟩
  refine lf_M_isGroup hR hv (fun _ M _ hR hv => ?_)
  refine ⟨rm_is hR, ?_⟩
  refine lf_M_isGroup hR hv (fun _ M _ hR hv => ?_)
  refine ⟨fun hq => ?_, fun hq => ?_⟩
  · have hv := hv.1 hq
    exact lf_M_alarm_j27 hp  _ _ _ _ _ hR hv
  · have hv := hv.2 hq
    refine ⟨rm_is hR, ?_⟩
    refine lf_M_asksAny hR hv (fun _ M _ hR hv => ?_)
    refine ⟨fun hq => ?_, fun hq => ?_⟩
    · have hv := hv.1 hq
      exact lf_M_alarm_j27 hp  _ _ _ _ _ hR hv
    · have hv := hv.2 hq
      exact lf_M_alarm_j28 hp  _ _ _ _ _ _ hR hv
def v_M_isAlarm (post : Int32 → Sm → Prop) (S : Sm) (x1 : Int32) : Prop := v_M_in (fun r2 S1 => (narrow .boolean (.int r2) = .int r2) ∧ post r2 S1) S x1 0 ((S 12 0) - 1)
set_option maxRecDepth 100000 in
theorem lf_M_isAlarm {e0 : Nat} {M0 : zM} {m : Nat} {ad : Nat → Nat} {post : Int32 → Sm → Prop} {po : Int32 → zM → Prop} {M : zM} {S : Sm} {x1 : Int32} (hR : RMf M0 M m ad S) (hv : v_M_isAlarm post S x1) (hp : ∀ (r : Int32) (M : zM) (S : Sm), RMf M0 M m ad S → post r S → po r M) : w_M_isAlarm e0 po M m x1 := by
  refine rm_gi hR rfl ?_
  refine lf_M_in hR hv (fun _ M _ hR hv => ?_)
  exact ⟨hv.1, hp _ _ _ hR hv.2⟩
def v_M_isReached_j32 (post : Int32 → Sm → Prop) (S : Sm) : Prop := post 0 S
set_option maxRecDepth 100000 in
theorem lf_M_isReached_j32 {e0 : Nat} {M0 : zM} {m : Nat} {ad : Nat → Nat} {post : Int32 → Sm → Prop} {po : Int32 → zM → Prop} (hp : ∀ (r : Int32) (M : zM) (S : Sm), RMf M0 M m ad S → post r S → po r M) : ∀ (M : zM) (S : Sm) , RMf M0 M m ad S → v_M_isReached_j32 post  S  → w_M_isReached_j32 e0 po  M  := by
  intro M S  hR hv
  exact hp _ _ _ hR hv
def v_M_isReached (post : Int32 → Sm → Prop) (S : Sm) (x1 : Int32) (x2 : Int32) : Prop := aLD S 18 ((x1 * 60) + x2) (fun v1 => ((v1 = 0) → v_M_isReached_j32 post S) ∧ (¬ (v1 = 0) → aLD S 19 ((x1 * 60) + x2) (fun v2 => ((v2 < 0) → v_M_isReached_j32 post S) ∧ (¬ (v2 < 0) → post 1 S))))
set_option maxRecDepth 100000 in
theorem lf_M_isReached {e0 : Nat} {M0 : zM} {m : Nat} {ad : Nat → Nat} {post : Int32 → Sm → Prop} {po : Int32 → zM → Prop} {M : zM} {S : Sm} {x1 : Int32} {x2 : Int32} (hR : RMf M0 M m ad S) (hv : v_M_isReached post S x1 x2) (hp : ∀ (r : Int32) (M : zM) (S : Sm), RMf M0 M m ad S → post r S → po r M) : w_M_isReached e0 po M m x1 x2 := by
  refine rm_gr hR (j := 18) rfl ?_
  obtain ⟨hi, hv⟩ := hv
  refine rm_ld hR (by decide) hi ?_
  refine ⟨fun hq => ?_, fun hq => ?_⟩
  · have hv := hv.1 hq
    exact lf_M_isReached_j32 hp  _ _ hR hv
  · have hv := hv.2 hq
    refine rm_gr hR (j := 19) rfl ?_
    obtain ⟨hi, hv⟩ := hv
    refine rm_ld hR (by decide) hi ?_
    refine ⟨fun hq => ?_, fun hq => ?_⟩
    · have hv := hv.1 hq
      exact lf_M_isReached_j32 hp  _ _ hR hv
    · have hv := hv.2 hq
      exact hp _ _ _ hR hv
def v_M_isThere_j38 (post : Int32 → Sm → Prop) (S : Sm) : Prop := post 0 S
set_option maxRecDepth 100000 in
theorem lf_M_isThere_j38 {e0 : Nat} {M0 : zM} {m : Nat} {ad : Nat → Nat} {post : Int32 → Sm → Prop} {po : Int32 → zM → Prop} (hp : ∀ (r : Int32) (M : zM) (S : Sm), RMf M0 M m ad S → post r S → po r M) : ∀ (M : zM) (S : Sm) , RMf M0 M m ad S → v_M_isThere_j38 post  S  → w_M_isThere_j38 e0 po  M  := by
  intro M S  hR hv
  exact hp _ _ _ hR hv
def v_M_isThere (post : Int32 → Sm → Prop) (S : Sm) (x1 : Int32) (x2 : Int32) : Prop := v_M_isReached (fun r2 S1 => ((r2 = 0) → v_M_isThere_j38 post S1) ∧ (¬ (r2 = 0) → aLD S1 15 x1 (fun v3 => aLD S1 20 ((x1 * 60) + x2) (fun v4 => (((S1 1 0) < (v3 + v4)) → v_M_isThere_j38 post S1) ∧ (¬ ((S1 1 0) < (v3 + v4)) → post 1 S1))))) S x1 x2
set_option maxRecDepth 100000 in
theorem lf_M_isThere {e0 : Nat} {M0 : zM} {m : Nat} {ad : Nat → Nat} {post : Int32 → Sm → Prop} {po : Int32 → zM → Prop} {M : zM} {S : Sm} {x1 : Int32} {x2 : Int32} (hR : RMf M0 M m ad S) (hv : v_M_isThere post S x1 x2) (hp : ∀ (r : Int32) (M : zM) (S : Sm), RMf M0 M m ad S → post r S → po r M) : w_M_isThere e0 po M m x1 x2 := by
  refine ⟨rm_is hR, ?_⟩
  refine lf_M_isReached hR hv (fun _ M _ hR hv => ?_)
  refine ⟨fun hq => ?_, fun hq => ?_⟩
  · have hv := hv.1 hq
    exact lf_M_isThere_j38 hp  _ _ hR hv
  · have hv := hv.2 hq
    refine rm_gi hR rfl ?_
    refine rm_gr hR (j := 15) rfl ?_
    obtain ⟨hi, hv⟩ := hv
    refine rm_ld hR (by decide) hi ?_
    refine rm_gr hR (j := 20) rfl ?_
    obtain ⟨hi, hv⟩ := hv
    refine rm_ld hR (by decide) hi ?_
    refine ⟨fun hq => ?_, fun hq => ?_⟩
    · have hv := hv.1 hq
      exact lf_M_isThere_j38 hp  _ _ hR hv
    · have hv := hv.2 hq
      exact hp _ _ _ hR hv
def v_M_answer_j158 (post : Int32 → Sm → Prop) (K120 : Sm → Int32 → Int32 → Int32 → Int32 → Prop) (S : Sm) (l2 : Int32) (l3 : Int32) (l5 : Int32) (l6 : Int32) : Prop := K120 S l2 l3 l5 (l6 + 1)
set_option maxRecDepth 100000 in
theorem lf_M_answer_j158 {e0 : Nat} {M0 : zM} {m : Nat} {ad : Nat → Nat} {post : Int32 → Sm → Prop} {po : Int32 → zM → Prop} (hp : ∀ (r : Int32) (M : zM) (S : Sm), RMf M0 M m ad S → post r S → po r M) {K120 : Sm → Int32 → Int32 → Int32 → Int32 → Prop} {C120 : zM → Nat → Int32 → Int32 → Int32 → Int32 → Prop} (hK120 : ∀ (M : zM) (S : Sm) (l2 : Int32) (l3 : Int32) (l5 : Int32) (l6 : Int32), RMf M0 M m ad S → K120 S l2 l3 l5 l6 → C120 M m l2 l3 l5 l6) : ∀ (M : zM) (S : Sm) (l2 : Int32) (l3 : Int32) (l5 : Int32) (l6 : Int32), RMf M0 M m ad S → v_M_answer_j158 post K120 S l2 l3 l5 l6 → w_M_answer_j158 e0 po C120 M m l2 l3 l5 l6 := by
  intro M S l2 l3 l5 l6 hR hv
  exact hK120 _ _ _ _ _ _ hR hv
def v_M_answer_j120 (post : Int32 → Sm → Prop) : Nat → Sm → Int32 → Int32 → Int32 → Int32 → Prop
  | 0 => fun _ _ _ _ _ => False
  | n + 1 => fun S l2 l3 l5 l6 => (((S 12 0) ≤ l6) → ((l5 < 0) → post 3 S) ∧ (¬ (l5 < 0) → v_M_isThere (fun r2 S1 => ((r2 = 0) → post 3 S1) ∧ (¬ (r2 = 0) → aST S1 21 ((l5 * 60) + l2) l3 (fun S3 => post 2 S3))) S l5 l2)) ∧ (¬ ((S 12 0) ≤ l6) → aLD S 17 l6 (fun v4 => ((v4 = 0) → aLD S 18 ((l6 * 60) + l2) (fun v5 => ((v5 = 0) → v_M_answer_j158 post (v_M_answer_j120 post n) S l2 l3 l5 l6) ∧ (¬ (v5 = 0) → v_M_answer_j158 post (v_M_answer_j120 post n) S l2 l3 l6 l6))) ∧ (¬ (v4 = 0) → v_M_answer_j158 post (v_M_answer_j120 post n) S l2 l3 l5 l6)))
set_option maxRecDepth 100000 in
theorem lf_M_answer_j120 {e0 : Nat} {M0 : zM} {m : Nat} {ad : Nat → Nat} {post : Int32 → Sm → Prop} {po : Int32 → zM → Prop} (hp : ∀ (r : Int32) (M : zM) (S : Sm), RMf M0 M m ad S → post r S → po r M) : ∀ n : Nat, ∀ (M : zM) (S : Sm) (l2 : Int32) (l3 : Int32) (l5 : Int32) (l6 : Int32), RMf M0 M m ad S → v_M_answer_j120 post  n S l2 l3 l5 l6 → w_M_answer_j120 e0 po  n M m l2 l3 l5 l6 := by
  intro n
  induction n with
  | zero => intro M S l2 l3 l5 l6 hR hv; exact hv.elim
  | succ n ih =>
    intro M S l2 l3 l5 l6 hR hv
    refine rm_gi hR rfl ?_
    refine ⟨fun hq => ?_, fun hq => ?_⟩
    · have hv := hv.1 hq
      refine ⟨fun hq => ?_, fun hq => ?_⟩
      · have hv := hv.1 hq
        exact hp _ _ _ hR hv
      · have hv := hv.2 hq
        refine ⟨rm_is hR, ?_⟩
        refine lf_M_isThere hR hv (fun _ M _ hR hv => ?_)
        refine ⟨fun hq => ?_, fun hq => ?_⟩
        · have hv := hv.1 hq
          exact hp _ _ _ hR hv
        · have hv := hv.2 hq
          refine rm_gr hR (j := 21) rfl ?_
          obtain ⟨hi, hv⟩ := hv
          refine rm_st hR (by decide) hi (fun M hR => ?_)
          exact hp _ _ _ hR hv
    · have hv := hv.2 hq
      refine rm_gr hR (j := 17) rfl ?_
      obtain ⟨hi, hv⟩ := hv
      refine rm_ld hR (by decide) hi ?_
      refine ⟨fun hq => ?_, fun hq => ?_⟩
      · have hv := hv.1 hq
        refine rm_gr hR (j := 18) rfl ?_
        obtain ⟨hi, hv⟩ := hv
        refine rm_ld hR (by decide) hi ?_
        refine ⟨fun hq => ?_, fun hq => ?_⟩
        · have hv := hv.1 hq
          exact lf_M_answer_j158 hp ih _ _ _ _ _ _ hR hv
        · have hv := hv.2 hq
          exact lf_M_answer_j158 hp ih _ _ _ _ _ _ hR hv
      · have hv := hv.2 hq
        exact lf_M_answer_j158 hp ih _ _ _ _ _ _ hR hv
def v_M_answer_j52 (post : Int32 → Sm → Prop) (S : Sm) (l1 : Int32) (l2 : Int32) (l3 : Int32) (s0 : Int32) (s1 : Int32) (s2 : Int32) : Prop := v_M_goes (fun r2 S1 => ((r2 = 0) → post 0 S1) ∧ (¬ (r2 = 0) → v_M_isThere (fun r4 S3 => ((r4 = 0) → aPF S3 23 ((S3 23 0) + 1) (fun S8 => post 4 S8)) ∧ (¬ (r4 = 0) → aLD S3 17 l1 (fun v5 => ((v5 = 0) → aST S3 21 ((l1 * 60) + l2) l3 (fun S7 => post 1 S7)) ∧ (¬ (v5 = 0) → aPF S3 22 ((S3 22 0) + 1) (fun S6 => ∃ nn, v_M_answer_j120 post nn S6 l2 l3 (-1) 0))))) S1 l1 l2)) S s2 s1 s0
set_option maxRecDepth 100000 in
theorem lf_M_answer_j52 {e0 : Nat} {M0 : zM} {m : Nat} {ad : Nat → Nat} {post : Int32 → Sm → Prop} {po : Int32 → zM → Prop} (hp : ∀ (r : Int32) (M : zM) (S : Sm), RMf M0 M m ad S → post r S → po r M) : ∀ (M : zM) (S : Sm) (l1 : Int32) (l2 : Int32) (l3 : Int32) (s0 : Int32) (s1 : Int32) (s2 : Int32), RMf M0 M m ad S → v_M_answer_j52 post  S l1 l2 l3 s0 s1 s2 → w_M_answer_j52 e0 po  M m l1 l2 l3 s0 s1 s2 m := by
  intro M S l1 l2 l3 s0 s1 s2 hR hv
  refine ⟨rm_is hR, ?_⟩
  refine lf_M_goes hR hv (fun _ M _ hR hv => ?_)
  refine ⟨fun hq => ?_, fun hq => ?_⟩
  · have hv := hv.1 hq
    exact hp _ _ _ hR hv
  · have hv := hv.2 hq
    refine ⟨rm_is hR, ?_⟩
    refine lf_M_isThere hR hv (fun _ M _ hR hv => ?_)
    refine ⟨fun hq => ?_, fun hq => ?_⟩
    · have hv := hv.1 hq
      refine rm_gi hR rfl ?_
      refine rm_pf_23 hR (fun M hR => ?_)
      exact hp _ _ _ hR hv
    · have hv := hv.2 hq
      refine rm_gr hR (j := 17) rfl ?_
      obtain ⟨hi, hv⟩ := hv
      refine rm_ld hR (by decide) hi ?_
      refine ⟨fun hq => ?_, fun hq => ?_⟩
      · have hv := hv.1 hq
        refine rm_gr hR (j := 21) rfl ?_
        obtain ⟨hi, hv⟩ := hv
        refine rm_st hR (by decide) hi (fun M hR => ?_)
        exact hp _ _ _ hR hv
      · have hv := hv.2 hq
        refine rm_gi hR rfl ?_
        refine rm_pf_22 hR (fun M hR => ?_)
        obtain ⟨nfu, hv⟩ := hv
        exact ⟨nfu, lf_M_answer_j120 hp  nfu _ _ _ _ _ _ hR hv⟩
def v_M_answer_j51 (post : Int32 → Sm → Prop) (S : Sm) (l1 : Int32) (l2 : Int32) (l3 : Int32) (s0 : Int32) (s1 : Int32) : Prop := v_M_answer_j52 post S l1 l2 l3 0 s0 s1
set_option maxRecDepth 100000 in
theorem lf_M_answer_j51 {e0 : Nat} {M0 : zM} {m : Nat} {ad : Nat → Nat} {post : Int32 → Sm → Prop} {po : Int32 → zM → Prop} (hp : ∀ (r : Int32) (M : zM) (S : Sm), RMf M0 M m ad S → post r S → po r M) : ∀ (M : zM) (S : Sm) (l1 : Int32) (l2 : Int32) (l3 : Int32) (s0 : Int32) (s1 : Int32), RMf M0 M m ad S → v_M_answer_j51 post  S l1 l2 l3 s0 s1 → w_M_answer_j51 e0 po  M m l1 l2 l3 s0 s1 m := by
  intro M S l1 l2 l3 s0 s1 hR hv
  exact lf_M_answer_j52 hp  _ _ _ _ _ _ _ _ hR hv
def v_M_answer_j21 (post : Int32 → Sm → Prop) (S : Sm) (l1 : Int32) (l2 : Int32) (l3 : Int32) (s0 : Int32) : Prop := v_M_in (fun r2 S1 => ((s0 = 0) → v_M_answer_j51 post S1 l1 l2 l3 r2 s0) ∧ (¬ (s0 = 0) → v_M_isReached (fun r4 S3 => ((r4 = 0) → v_M_answer_j51 post S3 l1 l2 l3 r2 s0) ∧ (¬ (r4 = 0) → v_M_answer_j52 post S3 l1 l2 l3 1 r2 s0)) S1 l1 l2)) S l3 (-1) 120
set_option maxRecDepth 100000 in
theorem lf_M_answer_j21 {e0 : Nat} {M0 : zM} {m : Nat} {ad : Nat → Nat} {post : Int32 → Sm → Prop} {po : Int32 → zM → Prop} (hp : ∀ (r : Int32) (M : zM) (S : Sm), RMf M0 M m ad S → post r S → po r M) : ∀ (M : zM) (S : Sm) (l1 : Int32) (l2 : Int32) (l3 : Int32) (s0 : Int32), RMf M0 M m ad S → v_M_answer_j21 post  S l1 l2 l3 s0 → w_M_answer_j21 e0 po  M m l1 l2 l3 s0 := by
  intro M S l1 l2 l3 s0 hR hv
  refine lf_M_in hR hv (fun _ M _ hR hv => ?_)
  refine ⟨fun hq => ?_, fun hq => ?_⟩
  · have hv := hv.1 hq
    exact lf_M_answer_j51 hp  _ _ _ _ _ _ _ hR hv
  · have hv := hv.2 hq
    refine ⟨rm_is hR, ?_⟩
    refine lf_M_isReached hR hv (fun _ M _ hR hv => ?_)
    refine ⟨fun hq => ?_, fun hq => ?_⟩
    · have hv := hv.1 hq
      exact lf_M_answer_j51 hp  _ _ _ _ _ _ _ hR hv
    · have hv := hv.2 hq
      exact lf_M_answer_j52 hp  _ _ _ _ _ _ _ _ hR hv
def v_M_answer_j20 (post : Int32 → Sm → Prop) (S : Sm) (l1 : Int32) (l2 : Int32) (l3 : Int32) : Prop := v_M_answer_j21 post S l1 l2 l3 0
set_option maxRecDepth 100000 in
theorem lf_M_answer_j20 {e0 : Nat} {M0 : zM} {m : Nat} {ad : Nat → Nat} {post : Int32 → Sm → Prop} {po : Int32 → zM → Prop} (hp : ∀ (r : Int32) (M : zM) (S : Sm), RMf M0 M m ad S → post r S → po r M) : ∀ (M : zM) (S : Sm) (l1 : Int32) (l2 : Int32) (l3 : Int32), RMf M0 M m ad S → v_M_answer_j20 post  S l1 l2 l3 → w_M_answer_j20 e0 po  M m l1 l2 l3 := by
  intro M S l1 l2 l3 hR hv
  exact lf_M_answer_j21 hp  _ _ _ _ _ _ hR hv
def v_M_answer (post : Int32 → Sm → Prop) (S : Sm) (x1 : Int32) (x2 : Int32) (x3 : Int32) : Prop := v_M_isAlarm (fun r2 S1 => ((r2 = 0) → v_M_answer_j20 post S1 x1 x2 x3) ∧ (¬ (r2 = 0) → v_M_isPerson (fun r4 S3 => ((r4 = 0) → v_M_answer_j20 post S3 x1 x2 x3) ∧ (¬ (r4 = 0) → v_M_answer_j21 post S3 x1 x2 x3 1)) S1 x2)) S x1
set_option maxRecDepth 100000 in
theorem lf_M_answer {e0 : Nat} {M0 : zM} {m : Nat} {ad : Nat → Nat} {post : Int32 → Sm → Prop} {po : Int32 → zM → Prop} {M : zM} {S : Sm} {x1 : Int32} {x2 : Int32} {x3 : Int32} (hR : RMf M0 M m ad S) (hv : v_M_answer post S x1 x2 x3) (hp : ∀ (r : Int32) (M : zM) (S : Sm), RMf M0 M m ad S → post r S → po r M) : w_M_answer e0 po M m x1 x2 x3 := by
  refine ⟨rm_is hR, ?_⟩
  refine lf_M_isAlarm hR hv (fun _ M _ hR hv => ?_)
  refine ⟨fun hq => ?_, fun hq => ?_⟩
  · have hv := hv.1 hq
    exact lf_M_answer_j20 hp  _ _ _ _ _ hR hv
  · have hv := hv.2 hq
    refine ⟨rm_is hR, ?_⟩
    refine lf_M_isPerson hR hv (fun _ M _ hR hv => ?_)
    refine ⟨fun hq => ?_, fun hq => ?_⟩
    · have hv := hv.1 hq
      exact lf_M_answer_j20 hp  _ _ _ _ _ hR hv
    · have hv := hv.2 hq
      exact lf_M_answer_j21 hp  _ _ _ _ _ _ hR hv
def v_M_many_j89 (post : Int32 → Sm → Prop) (K5 : Sm → Int32 → Int32 → Int32 → Int32 → Prop) (S : Sm) (l1 : Int32) (l2 : Int32) (l3 : Int32) (l4 : Int32) : Prop := K5 S l1 l2 l3 (l4 + 1)
set_option maxRecDepth 100000 in
theorem lf_M_many_j89 {e0 : Nat} {M0 : zM} {m : Nat} {ad : Nat → Nat} {post : Int32 → Sm → Prop} {po : Int32 → zM → Prop} (hp : ∀ (r : Int32) (M : zM) (S : Sm), RMf M0 M m ad S → post r S → po r M) {K5 : Sm → Int32 → Int32 → Int32 → Int32 → Prop} {C5 : zM → Nat → Int32 → Int32 → Int32 → Int32 → Prop} (hK5 : ∀ (M : zM) (S : Sm) (l1 : Int32) (l2 : Int32) (l3 : Int32) (l4 : Int32), RMf M0 M m ad S → K5 S l1 l2 l3 l4 → C5 M m l1 l2 l3 l4) : ∀ (M : zM) (S : Sm) (l1 : Int32) (l2 : Int32) (l3 : Int32) (l4 : Int32), RMf M0 M m ad S → v_M_many_j89 post K5 S l1 l2 l3 l4 → w_M_many_j89 e0 po C5 M m l1 l2 l3 l4 := by
  intro M S l1 l2 l3 l4 hR hv
  exact hK5 _ _ _ _ _ _ hR hv
def v_M_many_j86 (post : Int32 → Sm → Prop) (K5 : Sm → Int32 → Int32 → Int32 → Int32 → Prop) (S : Sm) (l1 : Int32) (l2 : Int32) (l3 : Int32) (l4 : Int32) : Prop := v_M_many_j89 post K5 S l1 l2 (l3 + 1) l4
set_option maxRecDepth 100000 in
theorem lf_M_many_j86 {e0 : Nat} {M0 : zM} {m : Nat} {ad : Nat → Nat} {post : Int32 → Sm → Prop} {po : Int32 → zM → Prop} (hp : ∀ (r : Int32) (M : zM) (S : Sm), RMf M0 M m ad S → post r S → po r M) {K5 : Sm → Int32 → Int32 → Int32 → Int32 → Prop} {C5 : zM → Nat → Int32 → Int32 → Int32 → Int32 → Prop} (hK5 : ∀ (M : zM) (S : Sm) (l1 : Int32) (l2 : Int32) (l3 : Int32) (l4 : Int32), RMf M0 M m ad S → K5 S l1 l2 l3 l4 → C5 M m l1 l2 l3 l4) : ∀ (M : zM) (S : Sm) (l1 : Int32) (l2 : Int32) (l3 : Int32) (l4 : Int32), RMf M0 M m ad S → v_M_many_j86 post K5 S l1 l2 l3 l4 → w_M_many_j86 e0 po C5 M m l1 l2 l3 l4 := by
  intro M S l1 l2 l3 l4 hR hv
  exact lf_M_many_j89 hp hK5 _ _ _ _ _ _ hR hv
def v_M_many_j71 (post : Int32 → Sm → Prop) (K5 : Sm → Int32 → Int32 → Int32 → Int32 → Prop) (S : Sm) (l1 : Int32) (l2 : Int32) (l3 : Int32) (l4 : Int32) (l5 : Int32) : Prop := ((l2 = 4) → aLD S 21 l5 (fun v1 => ((v1 < 0) → v_M_many_j89 post K5 S l1 l2 l3 l4) ∧ (¬ (v1 < 0) → v_M_many_j86 post K5 S l1 l2 l3 l4))) ∧ (¬ (l2 = 4) → v_M_many_j89 post K5 S l1 l2 l3 l4)
set_option maxRecDepth 100000 in
theorem lf_M_many_j71 {e0 : Nat} {M0 : zM} {m : Nat} {ad : Nat → Nat} {post : Int32 → Sm → Prop} {po : Int32 → zM → Prop} (hp : ∀ (r : Int32) (M : zM) (S : Sm), RMf M0 M m ad S → post r S → po r M) {K5 : Sm → Int32 → Int32 → Int32 → Int32 → Prop} {C5 : zM → Nat → Int32 → Int32 → Int32 → Int32 → Prop} (hK5 : ∀ (M : zM) (S : Sm) (l1 : Int32) (l2 : Int32) (l3 : Int32) (l4 : Int32), RMf M0 M m ad S → K5 S l1 l2 l3 l4 → C5 M m l1 l2 l3 l4) : ∀ (M : zM) (S : Sm) (l1 : Int32) (l2 : Int32) (l3 : Int32) (l4 : Int32) (l5 : Int32), RMf M0 M m ad S → v_M_many_j71 post K5 S l1 l2 l3 l4 l5 → w_M_many_j71 e0 po C5 M m l1 l2 l3 l4 l5 := by
  intro M S l1 l2 l3 l4 l5 hR hv
  refine ⟨fun hq => ?_, fun hq => ?_⟩
  · have hv := hv.1 hq
    refine rm_gr hR (j := 21) rfl ?_
    obtain ⟨hi, hv⟩ := hv
    refine rm_ld hR (by decide) hi ?_
    refine ⟨fun hq => ?_, fun hq => ?_⟩
    · have hv := hv.1 hq
      exact lf_M_many_j89 hp hK5 _ _ _ _ _ _ hR hv
    · have hv := hv.2 hq
      exact lf_M_many_j86 hp hK5 _ _ _ _ _ _ hR hv
  · have hv := hv.2 hq
    exact lf_M_many_j89 hp hK5 _ _ _ _ _ _ hR hv
def v_M_many_j54 (post : Int32 → Sm → Prop) (K5 : Sm → Int32 → Int32 → Int32 → Int32 → Prop) (S : Sm) (l1 : Int32) (l2 : Int32) (l3 : Int32) (l4 : Int32) (l5 : Int32) : Prop := ((l2 = 3) → aLD S 21 l5 (fun v1 => ((v1 = (-2)) → v_M_many_j71 post K5 S l1 l2 l3 l4 l5) ∧ (¬ (v1 = (-2)) → v_M_many_j86 post K5 S l1 l2 l3 l4))) ∧ (¬ (l2 = 3) → v_M_many_j71 post K5 S l1 l2 l3 l4 l5)
set_option maxRecDepth 100000 in
theorem lf_M_many_j54 {e0 : Nat} {M0 : zM} {m : Nat} {ad : Nat → Nat} {post : Int32 → Sm → Prop} {po : Int32 → zM → Prop} (hp : ∀ (r : Int32) (M : zM) (S : Sm), RMf M0 M m ad S → post r S → po r M) {K5 : Sm → Int32 → Int32 → Int32 → Int32 → Prop} {C5 : zM → Nat → Int32 → Int32 → Int32 → Int32 → Prop} (hK5 : ∀ (M : zM) (S : Sm) (l1 : Int32) (l2 : Int32) (l3 : Int32) (l4 : Int32), RMf M0 M m ad S → K5 S l1 l2 l3 l4 → C5 M m l1 l2 l3 l4) : ∀ (M : zM) (S : Sm) (l1 : Int32) (l2 : Int32) (l3 : Int32) (l4 : Int32) (l5 : Int32), RMf M0 M m ad S → v_M_many_j54 post K5 S l1 l2 l3 l4 l5 → w_M_many_j54 e0 po C5 M m l1 l2 l3 l4 l5 := by
  intro M S l1 l2 l3 l4 l5 hR hv
  refine ⟨fun hq => ?_, fun hq => ?_⟩
  · have hv := hv.1 hq
    refine rm_gr hR (j := 21) rfl ?_
    obtain ⟨hi, hv⟩ := hv
    refine rm_ld hR (by decide) hi ?_
    refine ⟨fun hq => ?_, fun hq => ?_⟩
    · have hv := hv.1 hq
      exact lf_M_many_j71 hp hK5 _ _ _ _ _ _ _ hR hv
    · have hv := hv.2 hq
      exact lf_M_many_j86 hp hK5 _ _ _ _ _ _ hR hv
  · have hv := hv.2 hq
    exact lf_M_many_j71 hp hK5 _ _ _ _ _ _ _ hR hv
def v_M_many_j5 (post : Int32 → Sm → Prop) : Nat → Sm → Int32 → Int32 → Int32 → Int32 → Prop
  | 0 => fun _ _ _ _ _ => False
  | n + 1 => fun S l1 l2 l3 l4 => ((60 ≤ l4) → post l3 S) ∧ (¬ (60 ≤ l4) → aLD S 18 ((l1 * 60) + l4) (fun v1 => ((v1 = 0) → v_M_many_j89 post (v_M_many_j5 post n) S l1 l2 l3 l4) ∧ (¬ (v1 = 0) → ((l2 = 1) → v_M_many_j86 post (v_M_many_j5 post n) S l1 l2 l3 l4) ∧ (¬ (l2 = 1) → ((l2 = 2) → aLD S 19 ((l1 * 60) + l4) (fun v2 => ((0 ≤ v2) → v_M_many_j86 post (v_M_many_j5 post n) S l1 l2 l3 l4) ∧ (¬ (0 ≤ v2) → v_M_many_j54 post (v_M_many_j5 post n) S l1 l2 l3 l4 ((l1 * 60) + l4)))) ∧ (¬ (l2 = 2) → v_M_many_j54 post (v_M_many_j5 post n) S l1 l2 l3 l4 ((l1 * 60) + l4))))))
set_option maxRecDepth 100000 in
theorem lf_M_many_j5 {e0 : Nat} {M0 : zM} {m : Nat} {ad : Nat → Nat} {post : Int32 → Sm → Prop} {po : Int32 → zM → Prop} (hp : ∀ (r : Int32) (M : zM) (S : Sm), RMf M0 M m ad S → post r S → po r M) : ∀ n : Nat, ∀ (M : zM) (S : Sm) (l1 : Int32) (l2 : Int32) (l3 : Int32) (l4 : Int32), RMf M0 M m ad S → v_M_many_j5 post  n S l1 l2 l3 l4 → w_M_many_j5 e0 po  n M m l1 l2 l3 l4 := by
  intro n
  induction n with
  | zero => intro M S l1 l2 l3 l4 hR hv; exact hv.elim
  | succ n ih =>
    intro M S l1 l2 l3 l4 hR hv
    refine ⟨fun hq => ?_, fun hq => ?_⟩
    · have hv := hv.1 hq
      exact hp _ _ _ hR hv
    · have hv := hv.2 hq
      refine rm_gr hR (j := 18) rfl ?_
      obtain ⟨hi, hv⟩ := hv
      refine rm_ld hR (by decide) hi ?_
      refine ⟨fun hq => ?_, fun hq => ?_⟩
      · have hv := hv.1 hq
        exact lf_M_many_j89 hp ih _ _ _ _ _ _ hR hv
      · have hv := hv.2 hq
        refine ⟨fun hq => ?_, fun hq => ?_⟩
        · have hv := hv.1 hq
          exact lf_M_many_j86 hp ih _ _ _ _ _ _ hR hv
        · have hv := hv.2 hq
          refine ⟨fun hq => ?_, fun hq => ?_⟩
          · have hv := hv.1 hq
            refine rm_gr hR (j := 19) rfl ?_
            obtain ⟨hi, hv⟩ := hv
            refine rm_ld hR (by decide) hi ?_
            refine ⟨fun hq => ?_, fun hq => ?_⟩
            · have hv := hv.1 hq
              exact lf_M_many_j86 hp ih _ _ _ _ _ _ hR hv
            · have hv := hv.2 hq
              exact lf_M_many_j54 hp ih _ _ _ _ _ _ _ hR hv
          · have hv := hv.2 hq
            exact lf_M_many_j54 hp ih _ _ _ _ _ _ _ hR hv
def v_M_many (post : Int32 → Sm → Prop) (S : Sm) (x1 : Int32) (x2 : Int32) : Prop := ∃ nn, v_M_many_j5 post nn S x1 x2 0 0
set_option maxRecDepth 100000 in
theorem lf_M_many {e0 : Nat} {M0 : zM} {m : Nat} {ad : Nat → Nat} {post : Int32 → Sm → Prop} {po : Int32 → zM → Prop} {M : zM} {S : Sm} {x1 : Int32} {x2 : Int32} (hR : RMf M0 M m ad S) (hv : v_M_many post S x1 x2) (hp : ∀ (r : Int32) (M : zM) (S : Sm), RMf M0 M m ad S → post r S → po r M) : w_M_many e0 po M m x1 x2 := by
  obtain ⟨nfu, hv⟩ := hv
  exact ⟨nfu, lf_M_many_j5 hp  nfu _ _ _ _ _ _ hR hv⟩
def v_M_tick_j227 (post : Int32 → Sm → Prop) (K45 : Sm → Int32 → Int32 → Int32 → Prop) (K63 : Sm → Int32 → Int32 → Int32 → Int32 → Prop) (S : Sm) (l1 : Int32) (l2 : Int32) (l3 : Int32) (l4 : Int32) : Prop := K63 S l1 l2 l3 (l4 + 1)
set_option maxRecDepth 100000 in
theorem lf_M_tick_j227 {e0 : Nat} {M0 : zM} {m : Nat} {ad : Nat → Nat} {post : Int32 → Sm → Prop} {po : Int32 → zM → Prop} (hp : ∀ (r : Int32) (M : zM) (S : Sm), RMf M0 M m ad S → post r S → po r M) {K45 : Sm → Int32 → Int32 → Int32 → Prop} {C45 : zM → Nat → Int32 → Int32 → Int32 → Prop} (hK45 : ∀ (M : zM) (S : Sm) (l1 : Int32) (l2 : Int32) (l3 : Int32), RMf M0 M m ad S → K45 S l1 l2 l3 → C45 M m l1 l2 l3) {K63 : Sm → Int32 → Int32 → Int32 → Int32 → Prop} {C63 : zM → Nat → Int32 → Int32 → Int32 → Int32 → Prop} (hK63 : ∀ (M : zM) (S : Sm) (l1 : Int32) (l2 : Int32) (l3 : Int32) (l4 : Int32), RMf M0 M m ad S → K63 S l1 l2 l3 l4 → C63 M m l1 l2 l3 l4) : ∀ (M : zM) (S : Sm) (l1 : Int32) (l2 : Int32) (l3 : Int32) (l4 : Int32), RMf M0 M m ad S → v_M_tick_j227 post K45 K63 S l1 l2 l3 l4 → w_M_tick_j227 e0 po C45 C63 M m l1 l2 l3 l4 := by
  intro M S l1 l2 l3 l4 hR hv
  exact hK63 _ _ _ _ _ _ hR hv
def v_M_tick_j145 (post : Int32 → Sm → Prop) (K45 : Sm → Int32 → Int32 → Int32 → Prop) (K63 : Sm → Int32 → Int32 → Int32 → Int32 → Prop) (S : Sm) (l1 : Int32) (l2 : Int32) (l3 : Int32) (l4 : Int32) (s0 : Int32) (s1 : Int32) : Prop := aST S 17 s1 s0 (fun S1 => aLD S1 13 l4 (fun v2 => aLD S1 5 v2 (fun v3 => aLD S1 17 l4 (fun v4 => ((v4 = 1) → v_M_tick_j227 post K45 K63 S1 l1 l2 l3 l4) ∧ (¬ (v4 = 1) → aLD S1 14 l4 (fun v5 => ((v5 = 0) → ((v3 < 0) → v_M_tick_j227 post K45 K63 S1 l1 l2 l3 l4) ∧ (¬ (v3 < 0) → (((S1 12 0) = 60) → v_M_tick_j227 post K45 K63 S1 l1 l2 l3 l4) ∧ (¬ ((S1 12 0) = 60) → v_M_asksAny (fun r7 S6 => ((r7 = 0) → v_M_tick_j227 post K45 K63 S6 l1 l2 l3 l4) ∧ (¬ (r7 = 0) → v_M_begin (fun S8 => aPF S8 24 ((S8 24 0) + 1) (fun S9 => v_M_tick_j227 post K45 K63 S9 l1 l2 l3 l4)) S6 v3 0 l4)) S1 v3 0))) ∧ (¬ (v5 = 0) → v_M_tick_j227 post K45 K63 S1 l1 l2 l3 l4)))))))
set_option maxRecDepth 100000 in
theorem lf_M_tick_j145 {e0 : Nat} {M0 : zM} {m : Nat} {ad : Nat → Nat} {post : Int32 → Sm → Prop} {po : Int32 → zM → Prop} (hp : ∀ (r : Int32) (M : zM) (S : Sm), RMf M0 M m ad S → post r S → po r M) {K45 : Sm → Int32 → Int32 → Int32 → Prop} {C45 : zM → Nat → Int32 → Int32 → Int32 → Prop} (hK45 : ∀ (M : zM) (S : Sm) (l1 : Int32) (l2 : Int32) (l3 : Int32), RMf M0 M m ad S → K45 S l1 l2 l3 → C45 M m l1 l2 l3) {K63 : Sm → Int32 → Int32 → Int32 → Int32 → Prop} {C63 : zM → Nat → Int32 → Int32 → Int32 → Int32 → Prop} (hK63 : ∀ (M : zM) (S : Sm) (l1 : Int32) (l2 : Int32) (l3 : Int32) (l4 : Int32), RMf M0 M m ad S → K63 S l1 l2 l3 l4 → C63 M m l1 l2 l3 l4) : ∀ (M : zM) (S : Sm) (l1 : Int32) (l2 : Int32) (l3 : Int32) (l4 : Int32) (s0 : Int32) (s1 : Int32), RMf M0 M m ad S → v_M_tick_j145 post K45 K63 S l1 l2 l3 l4 s0 s1 → w_M_tick_j145 e0 po C45 C63 M m l1 l2 l3 l4 s0 s1 (ad 17) := by
  intro M S l1 l2 l3 l4 s0 s1 hR hv
  obtain ⟨hi, hv⟩ := hv
  refine rm_st hR (by decide) hi (fun M hR => ?_)
  refine rm_gr hR (j := 5) rfl ?_
  refine rm_gr hR (j := 13) rfl ?_
  obtain ⟨hi, hv⟩ := hv
  refine rm_ld hR (by decide) hi ?_
  obtain ⟨hi, hv⟩ := hv
  refine rm_ld hR (by decide) hi ?_
  refine rm_gr hR (j := 17) rfl ?_
  obtain ⟨hi, hv⟩ := hv
  refine rm_ld hR (by decide) hi ?_
  refine ⟨fun hq => ?_, fun hq => ?_⟩
  · have hv := hv.1 hq
    exact lf_M_tick_j227 hp hK45 hK63 _ _ _ _ _ _ hR hv
  · have hv := hv.2 hq
    refine rm_gr hR (j := 14) rfl ?_
    obtain ⟨hi, hv⟩ := hv
    refine rm_ld hR (by decide) hi ?_
    refine ⟨fun hq => ?_, fun hq => ?_⟩
    · have hv := hv.1 hq
      refine ⟨fun hq => ?_, fun hq => ?_⟩
      · have hv := hv.1 hq
        exact lf_M_tick_j227 hp hK45 hK63 _ _ _ _ _ _ hR hv
      · have hv := hv.2 hq
        refine rm_gi hR rfl ?_
        refine ⟨fun hq => ?_, fun hq => ?_⟩
        · have hv := hv.1 hq
          exact lf_M_tick_j227 hp hK45 hK63 _ _ _ _ _ _ hR hv
        · have hv := hv.2 hq
          refine ⟨rm_is hR, ?_⟩
          refine lf_M_asksAny hR hv (fun _ M _ hR hv => ?_)
          refine ⟨fun hq => ?_, fun hq => ?_⟩
          · have hv := hv.1 hq
            exact lf_M_tick_j227 hp hK45 hK63 _ _ _ _ _ _ hR hv
          · have hv := hv.2 hq
            refine ⟨rm_is hR, ?_⟩
            refine lf_M_begin hR hv (fun M _ hR hv => ?_)
            refine rm_gi hR rfl ?_
            refine rm_pf_24 hR (fun M hR => ?_)
            exact lf_M_tick_j227 hp hK45 hK63 _ _ _ _ _ _ hR hv
    · have hv := hv.2 hq
      exact lf_M_tick_j227 hp hK45 hK63 _ _ _ _ _ _ hR hv
def v_M_tick_j63 (post : Int32 → Sm → Prop) (K45 : Sm → Int32 → Int32 → Int32 → Prop) : Nat → Sm → Int32 → Int32 → Int32 → Int32 → Prop
  | 0 => fun _ _ _ _ _ => False
  | n + 1 => fun S l1 l2 l3 l4 => (((S 12 0) ≤ l4) → K45 S l1 l2 (l3 + 1)) ∧ (¬ ((S 12 0) ≤ l4) → aLD S 17 l4 (fun v1 => ((v1 = 0) → aLD S 15 l4 (fun v2 => aLD S 13 l4 (fun v3 => aLD S 4 v3 (fun v4 => (((v2 + v4) ≤ (S 1 0)) → v_M_many (fun r6 S5 => aLD S5 13 l4 (fun v7 => aLD S5 3 v7 (fun v8 => ((r6 < v8) → v_M_tick_j145 post K45 (v_M_tick_j63 post K45 n) S5 l1 l2 l3 l4 2 l4) ∧ (¬ (r6 < v8) → v_M_tick_j145 post K45 (v_M_tick_j63 post K45 n) S5 l1 l2 l3 l4 1 l4)))) S l4 4) ∧ (¬ ((v2 + v4) ≤ (S 1 0)) → v_M_tick_j227 post K45 (v_M_tick_j63 post K45 n) S l1 l2 l3 l4))))) ∧ (¬ (v1 = 0) → v_M_tick_j227 post K45 (v_M_tick_j63 post K45 n) S l1 l2 l3 l4)))
set_option maxRecDepth 100000 in
theorem lf_M_tick_j63 {e0 : Nat} {M0 : zM} {m : Nat} {ad : Nat → Nat} {post : Int32 → Sm → Prop} {po : Int32 → zM → Prop} (hp : ∀ (r : Int32) (M : zM) (S : Sm), RMf M0 M m ad S → post r S → po r M) {K45 : Sm → Int32 → Int32 → Int32 → Prop} {C45 : zM → Nat → Int32 → Int32 → Int32 → Prop} (hK45 : ∀ (M : zM) (S : Sm) (l1 : Int32) (l2 : Int32) (l3 : Int32), RMf M0 M m ad S → K45 S l1 l2 l3 → C45 M m l1 l2 l3) : ∀ n : Nat, ∀ (M : zM) (S : Sm) (l1 : Int32) (l2 : Int32) (l3 : Int32) (l4 : Int32), RMf M0 M m ad S → v_M_tick_j63 post K45 n S l1 l2 l3 l4 → w_M_tick_j63 e0 po C45 n M m l1 l2 l3 l4 := by
  intro n
  induction n with
  | zero => intro M S l1 l2 l3 l4 hR hv; exact hv.elim
  | succ n ih =>
    intro M S l1 l2 l3 l4 hR hv
    refine rm_gi hR rfl ?_
    refine ⟨fun hq => ?_, fun hq => ?_⟩
    · have hv := hv.1 hq
      exact hK45 _ _ _ _ _ hR hv
    · have hv := hv.2 hq
      refine rm_gr hR (j := 17) rfl ?_
      obtain ⟨hi, hv⟩ := hv
      refine rm_ld hR (by decide) hi ?_
      refine ⟨fun hq => ?_, fun hq => ?_⟩
      · have hv := hv.1 hq
        refine rm_gi hR rfl ?_
        refine rm_gr hR (j := 15) rfl ?_
        obtain ⟨hi, hv⟩ := hv
        refine rm_ld hR (by decide) hi ?_
        refine rm_gr hR (j := 4) rfl ?_
        refine rm_gr hR (j := 13) rfl ?_
        obtain ⟨hi, hv⟩ := hv
        refine rm_ld hR (by decide) hi ?_
        obtain ⟨hi, hv⟩ := hv
        refine rm_ld hR (by decide) hi ?_
        refine ⟨fun hq => ?_, fun hq => ?_⟩
        · have hv := hv.1 hq
          refine rm_gr hR (j := 17) rfl ?_
          refine ⟨rm_is hR, ?_⟩
          refine lf_M_many hR hv (fun _ M _ hR hv => ?_)
          refine rm_gr hR (j := 3) rfl ?_
          refine rm_gr hR (j := 13) rfl ?_
          obtain ⟨hi, hv⟩ := hv
          refine rm_ld hR (by decide) hi ?_
          obtain ⟨hi, hv⟩ := hv
          refine rm_ld hR (by decide) hi ?_
          refine ⟨fun hq => ?_, fun hq => ?_⟩
          · have hv := hv.1 hq
            exact lf_M_tick_j145 hp hK45 ih _ _ _ _ _ _ _ _ hR hv
          · have hv := hv.2 hq
            exact lf_M_tick_j145 hp hK45 ih _ _ _ _ _ _ _ _ hR hv
        · have hv := hv.2 hq
          exact lf_M_tick_j227 hp hK45 ih _ _ _ _ _ _ hR hv
      · have hv := hv.2 hq
        exact lf_M_tick_j227 hp hK45 ih _ _ _ _ _ _ hR hv
def v_M_tick_j45 (post : Int32 → Sm → Prop) : Nat → Sm → Int32 → Int32 → Int32 → Prop
  | 0 => fun _ _ _ _ => False
  | n + 1 => fun S l1 l2 l3 => ((l1 ≤ l3) → post ((S 24 0) - l2) S) ∧ (¬ (l1 ≤ l3) → aPF S 1 ((S 1 0) + 1) (fun S1 => ∃ nn, v_M_tick_j63 post (v_M_tick_j45 post n) nn S1 l1 l2 l3 0))
set_option maxRecDepth 100000 in
theorem lf_M_tick_j45 {e0 : Nat} {M0 : zM} {m : Nat} {ad : Nat → Nat} {post : Int32 → Sm → Prop} {po : Int32 → zM → Prop} (hp : ∀ (r : Int32) (M : zM) (S : Sm), RMf M0 M m ad S → post r S → po r M) : ∀ n : Nat, ∀ (M : zM) (S : Sm) (l1 : Int32) (l2 : Int32) (l3 : Int32), RMf M0 M m ad S → v_M_tick_j45 post  n S l1 l2 l3 → w_M_tick_j45 e0 po  n M m l1 l2 l3 := by
  intro n
  induction n with
  | zero => intro M S l1 l2 l3 hR hv; exact hv.elim
  | succ n ih =>
    intro M S l1 l2 l3 hR hv
    refine ⟨fun hq => ?_, fun hq => ?_⟩
    · have hv := hv.1 hq
      refine rm_gi hR rfl ?_
      exact hp _ _ _ hR hv
    · have hv := hv.2 hq
      refine rm_gi hR rfl ?_
      refine rm_pf_1 hR (fun M hR => ?_)
      obtain ⟨nfu, hv⟩ := hv
      exact ⟨nfu, lf_M_tick_j63 hp ih nfu _ _ _ _ _ _ hR hv⟩
def v_M_tick_j28 (post : Int32 → Sm → Prop) (S : Sm) (l1 : Int32) (s0 : Int32) : Prop := v_M_goes (fun r2 S1 => ((r2 = 0) → post 0 S1) ∧ (¬ (r2 = 0) → ∃ nn, v_M_tick_j45 post nn S1 l1 (S1 24 0) 0)) S s0 1 1
set_option maxRecDepth 100000 in
theorem lf_M_tick_j28 {e0 : Nat} {M0 : zM} {m : Nat} {ad : Nat → Nat} {post : Int32 → Sm → Prop} {po : Int32 → zM → Prop} (hp : ∀ (r : Int32) (M : zM) (S : Sm), RMf M0 M m ad S → post r S → po r M) : ∀ (M : zM) (S : Sm) (l1 : Int32) (s0 : Int32), RMf M0 M m ad S → v_M_tick_j28 post  S l1 s0 → w_M_tick_j28 e0 po  M m l1 s0 m := by
  intro M S l1 s0 hR hv
  refine ⟨rm_is hR, ?_⟩
  refine lf_M_goes hR hv (fun _ M _ hR hv => ?_)
  refine ⟨fun hq => ?_, fun hq => ?_⟩
  · have hv := hv.1 hq
    exact hp _ _ _ hR hv
  · have hv := hv.2 hq
    refine rm_gi hR rfl ?_
    obtain ⟨nfu, hv⟩ := hv
    exact ⟨nfu, lf_M_tick_j45 hp  nfu _ _ _ _ _ hR hv⟩
def v_M_tick_j27 (post : Int32 → Sm → Prop) (S : Sm) (l1 : Int32) : Prop := v_M_tick_j28 post S l1 0
set_option maxRecDepth 100000 in
theorem lf_M_tick_j27 {e0 : Nat} {M0 : zM} {m : Nat} {ad : Nat → Nat} {post : Int32 → Sm → Prop} {po : Int32 → zM → Prop} (hp : ∀ (r : Int32) (M : zM) (S : Sm), RMf M0 M m ad S → post r S → po r M) : ∀ (M : zM) (S : Sm) (l1 : Int32), RMf M0 M m ad S → v_M_tick_j27 post  S l1 → w_M_tick_j27 e0 po  M m l1 m := by
  intro M S l1 hR hv
  exact lf_M_tick_j28 hp  _ _ _ _ hR hv
def v_M_tick (post : Int32 → Sm → Prop) (S : Sm) (x1 : Int32) : Prop := v_M_in (fun r2 S1 => ((r2 = 0) → v_M_tick_j27 post S1 x1) ∧ (¬ (r2 = 0) → (((999999 - (S1 1 0)) < x1) → v_M_tick_j27 post S1 x1) ∧ (¬ ((999999 - (S1 1 0)) < x1) → v_M_tick_j28 post S1 x1 1))) S x1 1 5000
set_option maxRecDepth 100000 in
theorem lf_M_tick {e0 : Nat} {M0 : zM} {m : Nat} {ad : Nat → Nat} {post : Int32 → Sm → Prop} {po : Int32 → zM → Prop} {M : zM} {S : Sm} {x1 : Int32} (hR : RMf M0 M m ad S) (hv : v_M_tick post S x1) (hp : ∀ (r : Int32) (M : zM) (S : Sm), RMf M0 M m ad S → post r S → po r M) : w_M_tick e0 po M m x1 := by
  refine lf_M_in hR hv (fun _ M _ hR hv => ?_)
  refine ⟨fun hq => ?_, fun hq => ?_⟩
  · have hv := hv.1 hq
    exact lf_M_tick_j27 hp  _ _ _ hR hv
  · have hv := hv.2 hq
    refine rm_gi hR rfl ?_
    refine ⟨fun hq => ?_, fun hq => ?_⟩
    · have hv := hv.1 hq
      exact lf_M_tick_j27 hp  _ _ _ hR hv
    · have hv := hv.2 hq
      exact lf_M_tick_j28 hp  _ _ _ _ hR hv
def v_M_alarmAt_j24 (post : Int32 → Sm → Prop) (S : Sm) (l1 : Int32) (l2 : Int32) (s0 : Int32) : Prop := v_M_goes (fun r2 S1 => ((r2 = 0) → post 0 S1) ∧ (¬ (r2 = 0) → ((l2 = 0) → aLD S1 17 l1 (fun v7 => post v7 S1)) ∧ (¬ (l2 = 0) → ((5 ≤ l2) → ((l2 = 5) → aLD S1 16 l1 (fun v4 => post v4 S1)) ∧ (¬ (l2 = 5) → aLD S1 15 l1 (fun v3 => post v3 S1))) ∧ (¬ (5 ≤ l2) → v_M_many (fun r6 S5 => post r6 S5) S1 l1 l2)))) S s0 1 1
set_option maxRecDepth 100000 in
theorem lf_M_alarmAt_j24 {e0 : Nat} {M0 : zM} {m : Nat} {ad : Nat → Nat} {post : Int32 → Sm → Prop} {po : Int32 → zM → Prop} (hp : ∀ (r : Int32) (M : zM) (S : Sm), RMf M0 M m ad S → post r S → po r M) : ∀ (M : zM) (S : Sm) (l1 : Int32) (l2 : Int32) (s0 : Int32), RMf M0 M m ad S → v_M_alarmAt_j24 post  S l1 l2 s0 → w_M_alarmAt_j24 e0 po  M m l1 l2 s0 m := by
  intro M S l1 l2 s0 hR hv
  refine ⟨rm_is hR, ?_⟩
  refine lf_M_goes hR hv (fun _ M _ hR hv => ?_)
  refine ⟨fun hq => ?_, fun hq => ?_⟩
  · have hv := hv.1 hq
    exact hp _ _ _ hR hv
  · have hv := hv.2 hq
    refine ⟨fun hq => ?_, fun hq => ?_⟩
    · have hv := hv.1 hq
      refine rm_gr hR (j := 17) rfl ?_
      obtain ⟨hi, hv⟩ := hv
      refine rm_ld hR (by decide) hi ?_
      exact hp _ _ _ hR hv
    · have hv := hv.2 hq
      refine ⟨fun hq => ?_, fun hq => ?_⟩
      · have hv := hv.1 hq
        refine ⟨fun hq => ?_, fun hq => ?_⟩
        · have hv := hv.1 hq
          refine rm_gr hR (j := 16) rfl ?_
          obtain ⟨hi, hv⟩ := hv
          refine rm_ld hR (by decide) hi ?_
          exact hp _ _ _ hR hv
        · have hv := hv.2 hq
          refine rm_gr hR (j := 15) rfl ?_
          obtain ⟨hi, hv⟩ := hv
          refine rm_ld hR (by decide) hi ?_
          exact hp _ _ _ hR hv
      · have hv := hv.2 hq
        refine ⟨rm_is hR, ?_⟩
        refine lf_M_many hR hv (fun _ M _ hR hv => ?_)
        exact hp _ _ _ hR hv
def v_M_alarmAt_j23 (post : Int32 → Sm → Prop) (S : Sm) (l1 : Int32) (l2 : Int32) : Prop := v_M_alarmAt_j24 post S l1 l2 0
set_option maxRecDepth 100000 in
theorem lf_M_alarmAt_j23 {e0 : Nat} {M0 : zM} {m : Nat} {ad : Nat → Nat} {post : Int32 → Sm → Prop} {po : Int32 → zM → Prop} (hp : ∀ (r : Int32) (M : zM) (S : Sm), RMf M0 M m ad S → post r S → po r M) : ∀ (M : zM) (S : Sm) (l1 : Int32) (l2 : Int32), RMf M0 M m ad S → v_M_alarmAt_j23 post  S l1 l2 → w_M_alarmAt_j23 e0 po  M m l1 l2 m := by
  intro M S l1 l2 hR hv
  exact lf_M_alarmAt_j24 hp  _ _ _ _ _ hR hv
def v_M_alarmAt (post : Int32 → Sm → Prop) (S : Sm) (x1 : Int32) (x2 : Int32) : Prop := v_M_isAlarm (fun r2 S1 => ((r2 = 0) → v_M_alarmAt_j23 post S1 x1 x2) ∧ (¬ (r2 = 0) → v_M_in (fun r4 S3 => ((r4 = 0) → v_M_alarmAt_j23 post S3 x1 x2) ∧ (¬ (r4 = 0) → v_M_alarmAt_j24 post S3 x1 x2 1)) S1 x2 0 6)) S x1
set_option maxRecDepth 100000 in
theorem lf_M_alarmAt {e0 : Nat} {M0 : zM} {m : Nat} {ad : Nat → Nat} {post : Int32 → Sm → Prop} {po : Int32 → zM → Prop} {M : zM} {S : Sm} {x1 : Int32} {x2 : Int32} (hR : RMf M0 M m ad S) (hv : v_M_alarmAt post S x1 x2) (hp : ∀ (r : Int32) (M : zM) (S : Sm), RMf M0 M m ad S → post r S → po r M) : w_M_alarmAt e0 po M m x1 x2 := by
  refine ⟨rm_is hR, ?_⟩
  refine lf_M_isAlarm hR hv (fun _ M _ hR hv => ?_)
  refine ⟨fun hq => ?_, fun hq => ?_⟩
  · have hv := hv.1 hq
    exact lf_M_alarmAt_j23 hp  _ _ _ _ hR hv
  · have hv := hv.2 hq
    refine lf_M_in hR hv (fun _ M _ hR hv => ?_)
    refine ⟨fun hq => ?_, fun hq => ?_⟩
    · have hv := hv.1 hq
      exact lf_M_alarmAt_j23 hp  _ _ _ _ hR hv
    · have hv := hv.2 hq
      exact lf_M_alarmAt_j24 hp  _ _ _ _ _ hR hv
def v_M_comes_j124 (post : Int32 → Sm → Prop) (K29 : Sm → Int32 → Int32 → Int32 → Int32 → Prop) (K41 : Sm → Int32 → Int32 → Int32 → Int32 → Int32 → Int32 → Prop) (S : Sm) (l1 : Int32) (l2 : Int32) (l3 : Int32) (l4 : Int32) (l5 : Int32) (l6 : Int32) : Prop := K41 S l1 l2 l3 l4 l5 (l6 + 1)
set_option maxRecDepth 100000 in
theorem lf_M_comes_j124 {e0 : Nat} {M0 : zM} {m : Nat} {ad : Nat → Nat} {post : Int32 → Sm → Prop} {po : Int32 → zM → Prop} (hp : ∀ (r : Int32) (M : zM) (S : Sm), RMf M0 M m ad S → post r S → po r M) {K29 : Sm → Int32 → Int32 → Int32 → Int32 → Prop} {C29 : zM → Nat → Int32 → Int32 → Int32 → Int32 → Prop} (hK29 : ∀ (M : zM) (S : Sm) (l1 : Int32) (l2 : Int32) (l3 : Int32) (l4 : Int32), RMf M0 M m ad S → K29 S l1 l2 l3 l4 → C29 M m l1 l2 l3 l4) {K41 : Sm → Int32 → Int32 → Int32 → Int32 → Int32 → Int32 → Prop} {C41 : zM → Nat → Int32 → Int32 → Int32 → Int32 → Int32 → Int32 → Prop} (hK41 : ∀ (M : zM) (S : Sm) (l1 : Int32) (l2 : Int32) (l3 : Int32) (l4 : Int32) (l5 : Int32) (l6 : Int32), RMf M0 M m ad S → K41 S l1 l2 l3 l4 l5 l6 → C41 M m l1 l2 l3 l4 l5 l6) : ∀ (M : zM) (S : Sm) (l1 : Int32) (l2 : Int32) (l3 : Int32) (l4 : Int32) (l5 : Int32) (l6 : Int32), RMf M0 M m ad S → v_M_comes_j124 post K29 K41 S l1 l2 l3 l4 l5 l6 → w_M_comes_j124 e0 po C29 C41 M m l1 l2 l3 l4 l5 l6 := by
  intro M S l1 l2 l3 l4 l5 l6 hR hv
  exact hK41 _ _ _ _ _ _ _ _ hR hv
def v_M_comes_j120 (post : Int32 → Sm → Prop) (K29 : Sm → Int32 → Int32 → Int32 → Int32 → Prop) (K41 : Sm → Int32 → Int32 → Int32 → Int32 → Int32 → Int32 → Prop) (S : Sm) (l1 : Int32) (l2 : Int32) (l3 : Int32) (l4 : Int32) (l6 : Int32) (l8 : Int32) : Prop := v_M_comes_j124 post K29 K41 S l1 l2 l3 l4 l8 l6
set_option maxRecDepth 100000 in
theorem lf_M_comes_j120 {e0 : Nat} {M0 : zM} {m : Nat} {ad : Nat → Nat} {post : Int32 → Sm → Prop} {po : Int32 → zM → Prop} (hp : ∀ (r : Int32) (M : zM) (S : Sm), RMf M0 M m ad S → post r S → po r M) {K29 : Sm → Int32 → Int32 → Int32 → Int32 → Prop} {C29 : zM → Nat → Int32 → Int32 → Int32 → Int32 → Prop} (hK29 : ∀ (M : zM) (S : Sm) (l1 : Int32) (l2 : Int32) (l3 : Int32) (l4 : Int32), RMf M0 M m ad S → K29 S l1 l2 l3 l4 → C29 M m l1 l2 l3 l4) {K41 : Sm → Int32 → Int32 → Int32 → Int32 → Int32 → Int32 → Prop} {C41 : zM → Nat → Int32 → Int32 → Int32 → Int32 → Int32 → Int32 → Prop} (hK41 : ∀ (M : zM) (S : Sm) (l1 : Int32) (l2 : Int32) (l3 : Int32) (l4 : Int32) (l5 : Int32) (l6 : Int32), RMf M0 M m ad S → K41 S l1 l2 l3 l4 l5 l6 → C41 M m l1 l2 l3 l4 l5 l6) : ∀ (M : zM) (S : Sm) (l1 : Int32) (l2 : Int32) (l3 : Int32) (l4 : Int32) (l6 : Int32) (l8 : Int32), RMf M0 M m ad S → v_M_comes_j120 post K29 K41 S l1 l2 l3 l4 l6 l8 → w_M_comes_j120 e0 po C29 C41 M m l1 l2 l3 l4 l6 l8 := by
  intro M S l1 l2 l3 l4 l6 l8 hR hv
  exact lf_M_comes_j124 hp hK29 hK41 _ _ _ _ _ _ _ _ hR hv
def v_M_comes_j81 (post : Int32 → Sm → Prop) (K29 : Sm → Int32 → Int32 → Int32 → Int32 → Prop) (K41 : Sm → Int32 → Int32 → Int32 → Int32 → Int32 → Int32 → Prop) (S : Sm) (l1 : Int32) (l2 : Int32) (l3 : Int32) (l4 : Int32) (l5 : Int32) (l6 : Int32) (s0 : Int32) : Prop := ((0 ≤ s0) → ((((1000 * s0) + l6) ≤ l3) → v_M_comes_j124 post K29 K41 S l1 l2 l3 l4 l5 l6) ∧ (¬ (((1000 * s0) + l6) ≤ l3) → ((l5 < 0) → v_M_comes_j120 post K29 K41 S l1 l2 l3 l4 l6 ((1000 * s0) + l6)) ∧ (¬ (l5 < 0) → ((l5 ≤ ((1000 * s0) + l6)) → v_M_comes_j124 post K29 K41 S l1 l2 l3 l4 l5 l6) ∧ (¬ (l5 ≤ ((1000 * s0) + l6)) → v_M_comes_j120 post K29 K41 S l1 l2 l3 l4 l6 ((1000 * s0) + l6))))) ∧ (¬ (0 ≤ s0) → v_M_comes_j124 post K29 K41 S l1 l2 l3 l4 l5 l6)
set_option maxRecDepth 100000 in
theorem lf_M_comes_j81 {e0 : Nat} {M0 : zM} {m : Nat} {ad : Nat → Nat} {post : Int32 → Sm → Prop} {po : Int32 → zM → Prop} (hp : ∀ (r : Int32) (M : zM) (S : Sm), RMf M0 M m ad S → post r S → po r M) {K29 : Sm → Int32 → Int32 → Int32 → Int32 → Prop} {C29 : zM → Nat → Int32 → Int32 → Int32 → Int32 → Prop} (hK29 : ∀ (M : zM) (S : Sm) (l1 : Int32) (l2 : Int32) (l3 : Int32) (l4 : Int32), RMf M0 M m ad S → K29 S l1 l2 l3 l4 → C29 M m l1 l2 l3 l4) {K41 : Sm → Int32 → Int32 → Int32 → Int32 → Int32 → Int32 → Prop} {C41 : zM → Nat → Int32 → Int32 → Int32 → Int32 → Int32 → Int32 → Prop} (hK41 : ∀ (M : zM) (S : Sm) (l1 : Int32) (l2 : Int32) (l3 : Int32) (l4 : Int32) (l5 : Int32) (l6 : Int32), RMf M0 M m ad S → K41 S l1 l2 l3 l4 l5 l6 → C41 M m l1 l2 l3 l4 l5 l6) : ∀ (M : zM) (S : Sm) (l1 : Int32) (l2 : Int32) (l3 : Int32) (l4 : Int32) (l5 : Int32) (l6 : Int32) (s0 : Int32), RMf M0 M m ad S → v_M_comes_j81 post K29 K41 S l1 l2 l3 l4 l5 l6 s0 → w_M_comes_j81 e0 po C29 C41 M m l1 l2 l3 l4 l5 l6 s0 := by
  intro M S l1 l2 l3 l4 l5 l6 s0 hR hv
  refine ⟨fun hq => ?_, fun hq => ?_⟩
  · have hv := hv.1 hq
    refine ⟨fun hq => ?_, fun hq => ?_⟩
    · have hv := hv.1 hq
      exact lf_M_comes_j124 hp hK29 hK41 _ _ _ _ _ _ _ _ hR hv
    · have hv := hv.2 hq
      refine ⟨fun hq => ?_, fun hq => ?_⟩
      · have hv := hv.1 hq
        exact lf_M_comes_j120 hp hK29 hK41 _ _ _ _ _ _ _ _ hR hv
      · have hv := hv.2 hq
        refine ⟨fun hq => ?_, fun hq => ?_⟩
        · have hv := hv.1 hq
          exact lf_M_comes_j124 hp hK29 hK41 _ _ _ _ _ _ _ _ hR hv
        · have hv := hv.2 hq
          exact lf_M_comes_j120 hp hK29 hK41 _ _ _ _ _ _ _ _ hR hv
  · have hv := hv.2 hq
    exact lf_M_comes_j124 hp hK29 hK41 _ _ _ _ _ _ _ _ hR hv
def v_M_comes_j41 (post : Int32 → Sm → Prop) (K29 : Sm → Int32 → Int32 → Int32 → Int32 → Prop) : Nat → Sm → Int32 → Int32 → Int32 → Int32 → Int32 → Int32 → Prop
  | 0 => fun _ _ _ _ _ _ _ => False
  | n + 1 => fun S l1 l2 l3 l4 l5 l6 => (((S 6 0) ≤ l6) → ((0 ≤ l5) → K29 S l1 l2 l5 (l4 + 1)) ∧ (¬ (0 ≤ l5) → post (-1) S)) ∧ (¬ ((S 6 0) ≤ l6) → aLD S 18 ((l1 * 60) + l6) (fun v1 => ((v1 = 0) → v_M_comes_j81 post K29 (v_M_comes_j41 post K29 n) S l1 l2 l3 l4 l5 l6 (-1)) ∧ (¬ (v1 = 0) → aLD S 21 ((l1 * 60) + l6) (fun v2 => v_M_comes_j81 post K29 (v_M_comes_j41 post K29 n) S l1 l2 l3 l4 l5 l6 v2))))
set_option maxRecDepth 100000 in
theorem lf_M_comes_j41 {e0 : Nat} {M0 : zM} {m : Nat} {ad : Nat → Nat} {post : Int32 → Sm → Prop} {po : Int32 → zM → Prop} (hp : ∀ (r : Int32) (M : zM) (S : Sm), RMf M0 M m ad S → post r S → po r M) {K29 : Sm → Int32 → Int32 → Int32 → Int32 → Prop} {C29 : zM → Nat → Int32 → Int32 → Int32 → Int32 → Prop} (hK29 : ∀ (M : zM) (S : Sm) (l1 : Int32) (l2 : Int32) (l3 : Int32) (l4 : Int32), RMf M0 M m ad S → K29 S l1 l2 l3 l4 → C29 M m l1 l2 l3 l4) : ∀ n : Nat, ∀ (M : zM) (S : Sm) (l1 : Int32) (l2 : Int32) (l3 : Int32) (l4 : Int32) (l5 : Int32) (l6 : Int32), RMf M0 M m ad S → v_M_comes_j41 post K29 n S l1 l2 l3 l4 l5 l6 → w_M_comes_j41 e0 po C29 n M m l1 l2 l3 l4 l5 l6 := by
  intro n
  induction n with
  | zero => intro M S l1 l2 l3 l4 l5 l6 hR hv; exact hv.elim
  | succ n ih =>
    intro M S l1 l2 l3 l4 l5 l6 hR hv
    refine rm_gi hR rfl ?_
    refine ⟨fun hq => ?_, fun hq => ?_⟩
    · have hv := hv.1 hq
      refine ⟨fun hq => ?_, fun hq => ?_⟩
      · have hv := hv.1 hq
        exact hK29 _ _ _ _ _ _ hR hv
      · have hv := hv.2 hq
        exact hp _ _ _ hR hv
    · have hv := hv.2 hq
      refine rm_gr hR (j := 18) rfl ?_
      obtain ⟨hi, hv⟩ := hv
      refine rm_ld hR (by decide) hi ?_
      refine ⟨fun hq => ?_, fun hq => ?_⟩
      · have hv := hv.1 hq
        exact lf_M_comes_j81 hp hK29 ih _ _ _ _ _ _ _ _ _ hR hv
      · have hv := hv.2 hq
        refine rm_gr hR (j := 21) rfl ?_
        obtain ⟨hi, hv⟩ := hv
        refine rm_ld hR (by decide) hi ?_
        exact lf_M_comes_j81 hp hK29 ih _ _ _ _ _ _ _ _ _ hR hv
def v_M_comes_j29 (post : Int32 → Sm → Prop) : Nat → Sm → Int32 → Int32 → Int32 → Int32 → Prop
  | 0 => fun _ _ _ _ _ => False
  | n + 1 => fun S l1 l2 l3 l4 => ((l2 < l4) → post ((1000 * (l3 - l3 / 1000 * 1000)) + (l3 / 1000)) S) ∧ (¬ (l2 < l4) → ∃ nn, v_M_comes_j41 post (v_M_comes_j29 post n) nn S l1 l2 l3 l4 (-1) 0)
set_option maxRecDepth 100000 in
theorem lf_M_comes_j29 {e0 : Nat} {M0 : zM} {m : Nat} {ad : Nat → Nat} {post : Int32 → Sm → Prop} {po : Int32 → zM → Prop} (hp : ∀ (r : Int32) (M : zM) (S : Sm), RMf M0 M m ad S → post r S → po r M) : ∀ n : Nat, ∀ (M : zM) (S : Sm) (l1 : Int32) (l2 : Int32) (l3 : Int32) (l4 : Int32), RMf M0 M m ad S → v_M_comes_j29 post  n S l1 l2 l3 l4 → w_M_comes_j29 e0 po  n M m l1 l2 l3 l4 := by
  intro n
  induction n with
  | zero => intro M S l1 l2 l3 l4 hR hv; exact hv.elim
  | succ n ih =>
    intro M S l1 l2 l3 l4 hR hv
    refine ⟨fun hq => ?_, fun hq => ?_⟩
    · have hv := hv.1 hq
      exact hp _ _ _ hR hv
    · have hv := hv.2 hq
      obtain ⟨nfu, hv⟩ := hv
      exact ⟨nfu, lf_M_comes_j41 hp ih nfu _ _ _ _ _ _ _ _ hR hv⟩
def v_M_comes_j15 (post : Int32 → Sm → Prop) (S : Sm) (l1 : Int32) (l2 : Int32) (s0 : Int32) (s1 : Int32) : Prop := v_M_goes (fun r2 S1 => ((r2 = 0) → post 0 S1) ∧ (¬ (r2 = 0) → ∃ nn, v_M_comes_j29 post nn S1 l1 l2 (-1) 0)) S s1 s0 1
set_option maxRecDepth 100000 in
theorem lf_M_comes_j15 {e0 : Nat} {M0 : zM} {m : Nat} {ad : Nat → Nat} {post : Int32 → Sm → Prop} {po : Int32 → zM → Prop} (hp : ∀ (r : Int32) (M : zM) (S : Sm), RMf M0 M m ad S → post r S → po r M) : ∀ (M : zM) (S : Sm) (l1 : Int32) (l2 : Int32) (s0 : Int32) (s1 : Int32), RMf M0 M m ad S → v_M_comes_j15 post  S l1 l2 s0 s1 → w_M_comes_j15 e0 po  M m l1 l2 s0 s1 m := by
  intro M S l1 l2 s0 s1 hR hv
  refine ⟨rm_is hR, ?_⟩
  refine lf_M_goes hR hv (fun _ M _ hR hv => ?_)
  refine ⟨fun hq => ?_, fun hq => ?_⟩
  · have hv := hv.1 hq
    exact hp _ _ _ hR hv
  · have hv := hv.2 hq
    obtain ⟨nfu, hv⟩ := hv
    exact ⟨nfu, lf_M_comes_j29 hp  nfu _ _ _ _ _ _ hR hv⟩
def v_M_comes (post : Int32 → Sm → Prop) (S : Sm) (x1 : Int32) (x2 : Int32) : Prop := v_M_isAlarm (fun r2 S1 => ((x2 < 0) → v_M_comes_j15 post S1 x1 x2 0 r2) ∧ (¬ (x2 < 0) → v_M_comes_j15 post S1 x1 x2 1 r2)) S x1
set_option maxRecDepth 100000 in
theorem lf_M_comes {e0 : Nat} {M0 : zM} {m : Nat} {ad : Nat → Nat} {post : Int32 → Sm → Prop} {po : Int32 → zM → Prop} {M : zM} {S : Sm} {x1 : Int32} {x2 : Int32} (hR : RMf M0 M m ad S) (hv : v_M_comes post S x1 x2) (hp : ∀ (r : Int32) (M : zM) (S : Sm), RMf M0 M m ad S → post r S → po r M) : w_M_comes e0 po M m x1 x2 := by
  refine ⟨rm_is hR, ?_⟩
  refine lf_M_isAlarm hR hv (fun _ M _ hR hv => ?_)
  refine ⟨fun hq => ?_, fun hq => ?_⟩
  · have hv := hv.1 hq
    exact lf_M_comes_j15 hp  _ _ _ _ _ _ hR hv
  · have hv := hv.2 hq
    exact lf_M_comes_j15 hp  _ _ _ _ _ _ hR hv
def v_M_reached_j22 (post : Int32 → Sm → Prop) (S : Sm) (l1 : Int32) (l2 : Int32) (s0 : Int32) : Prop := v_M_goes (fun r2 S1 => ((r2 = 0) → post 0 S1) ∧ (¬ (r2 = 0) → v_M_isReached (fun r4 S3 => ((r4 = 0) → post (-1) S3) ∧ (¬ (r4 = 0) → aLD S3 20 ((l1 * 60) + l2) (fun v5 => aLD S3 19 ((l1 * 60) + l2) (fun v6 => post ((10 * v5) + v6) S3)))) S1 l1 l2)) S s0 1 1
set_option maxRecDepth 100000 in
theorem lf_M_reached_j22 {e0 : Nat} {M0 : zM} {m : Nat} {ad : Nat → Nat} {post : Int32 → Sm → Prop} {po : Int32 → zM → Prop} (hp : ∀ (r : Int32) (M : zM) (S : Sm), RMf M0 M m ad S → post r S → po r M) : ∀ (M : zM) (S : Sm) (l1 : Int32) (l2 : Int32) (s0 : Int32), RMf M0 M m ad S → v_M_reached_j22 post  S l1 l2 s0 → w_M_reached_j22 e0 po  M m l1 l2 s0 m := by
  intro M S l1 l2 s0 hR hv
  refine ⟨rm_is hR, ?_⟩
  refine lf_M_goes hR hv (fun _ M _ hR hv => ?_)
  refine ⟨fun hq => ?_, fun hq => ?_⟩
  · have hv := hv.1 hq
    exact hp _ _ _ hR hv
  · have hv := hv.2 hq
    refine ⟨rm_is hR, ?_⟩
    refine lf_M_isReached hR hv (fun _ M _ hR hv => ?_)
    refine ⟨fun hq => ?_, fun hq => ?_⟩
    · have hv := hv.1 hq
      exact hp _ _ _ hR hv
    · have hv := hv.2 hq
      refine rm_gr hR (j := 20) rfl ?_
      obtain ⟨hi, hv⟩ := hv
      refine rm_ld hR (by decide) hi ?_
      refine rm_gr hR (j := 19) rfl ?_
      obtain ⟨hi, hv⟩ := hv
      refine rm_ld hR (by decide) hi ?_
      exact hp _ _ _ hR hv
def v_M_reached_j21 (post : Int32 → Sm → Prop) (S : Sm) (l1 : Int32) (l2 : Int32) : Prop := v_M_reached_j22 post S l1 l2 0
set_option maxRecDepth 100000 in
theorem lf_M_reached_j21 {e0 : Nat} {M0 : zM} {m : Nat} {ad : Nat → Nat} {post : Int32 → Sm → Prop} {po : Int32 → zM → Prop} (hp : ∀ (r : Int32) (M : zM) (S : Sm), RMf M0 M m ad S → post r S → po r M) : ∀ (M : zM) (S : Sm) (l1 : Int32) (l2 : Int32), RMf M0 M m ad S → v_M_reached_j21 post  S l1 l2 → w_M_reached_j21 e0 po  M m l1 l2 m := by
  intro M S l1 l2 hR hv
  exact lf_M_reached_j22 hp  _ _ _ _ _ hR hv
def v_M_reached (post : Int32 → Sm → Prop) (S : Sm) (x1 : Int32) (x2 : Int32) : Prop := v_M_isAlarm (fun r2 S1 => ((r2 = 0) → v_M_reached_j21 post S1 x1 x2) ∧ (¬ (r2 = 0) → v_M_isPerson (fun r4 S3 => ((r4 = 0) → v_M_reached_j21 post S3 x1 x2) ∧ (¬ (r4 = 0) → v_M_reached_j22 post S3 x1 x2 1)) S1 x2)) S x1
set_option maxRecDepth 100000 in
theorem lf_M_reached {e0 : Nat} {M0 : zM} {m : Nat} {ad : Nat → Nat} {post : Int32 → Sm → Prop} {po : Int32 → zM → Prop} {M : zM} {S : Sm} {x1 : Int32} {x2 : Int32} (hR : RMf M0 M m ad S) (hv : v_M_reached post S x1 x2) (hp : ∀ (r : Int32) (M : zM) (S : Sm), RMf M0 M m ad S → post r S → po r M) : w_M_reached e0 po M m x1 x2 := by
  refine ⟨rm_is hR, ?_⟩
  refine lf_M_isAlarm hR hv (fun _ M _ hR hv => ?_)
  refine ⟨fun hq => ?_, fun hq => ?_⟩
  · have hv := hv.1 hq
    exact lf_M_reached_j21 hp  _ _ _ _ hR hv
  · have hv := hv.2 hq
    refine ⟨rm_is hR, ?_⟩
    refine lf_M_isPerson hR hv (fun _ M _ hR hv => ?_)
    refine ⟨fun hq => ?_, fun hq => ?_⟩
    · have hv := hv.1 hq
      exact lf_M_reached_j21 hp  _ _ _ _ hR hv
    · have hv := hv.2 hq
      exact lf_M_reached_j22 hp  _ _ _ _ _ hR hv
def v_M_share_j117 (post : Int32 → Sm → Prop) : Nat → Sm → Int32 → Int32 → Int32 → Int32 → Int32 → Prop
  | 0 => fun _ _ _ _ _ _ => False
  | n + 1 => fun S l2 l3 l4 l5 l6 => ((l6 ≤ 0) → ((l2 = 0) → (¬ l5 = 0) ∧ post (l4 / l5) S) ∧ (¬ (l2 = 0) → (¬ l5 = 0) ∧ post (l3 / l5) S)) ∧ (¬ (l6 ≤ 0) → (¬ l6 = 0) ∧ v_M_share_j117 post n S l2 l3 l4 l6 (l5 - l5 / l6 * l6))
set_option maxRecDepth 100000 in
theorem lf_M_share_j117 {e0 : Nat} {M0 : zM} {m : Nat} {ad : Nat → Nat} {post : Int32 → Sm → Prop} {po : Int32 → zM → Prop} (hp : ∀ (r : Int32) (M : zM) (S : Sm), RMf M0 M m ad S → post r S → po r M) : ∀ n : Nat, ∀ (M : zM) (S : Sm) (l2 : Int32) (l3 : Int32) (l4 : Int32) (l5 : Int32) (l6 : Int32), RMf M0 M m ad S → v_M_share_j117 post  n S l2 l3 l4 l5 l6 → w_M_share_j117 e0 po  n M l2 l3 l4 l5 l6 := by
  intro n
  induction n with
  | zero => intro M S l2 l3 l4 l5 l6 hR hv; exact hv.elim
  | succ n ih =>
    intro M S l2 l3 l4 l5 l6 hR hv
    refine ⟨fun hq => ?_, fun hq => ?_⟩
    · have hv := hv.1 hq
      refine ⟨fun hq => ?_, fun hq => ?_⟩
      · have hv := hv.1 hq
        refine ⟨hv.1, ?_⟩
        have hv := hv.2
        exact hp _ _ _ hR hv
      · have hv := hv.2 hq
        refine ⟨hv.1, ?_⟩
        have hv := hv.2
        exact hp _ _ _ hR hv
    · have hv := hv.2 hq
      refine ⟨hv.1, ?_⟩
      have hv := hv.2
      exact ih _ _ _ _ _ _ _ hR hv
def v_M_share_j101 (post : Int32 → Sm → Prop) (S : Sm) (l2 : Int32) (l3 : Int32) (l4 : Int32) (s0 : Int32) (s1 : Int32) : Prop := v_M_goes (fun r2 S1 => ((r2 = 0) → post 0 S1) ∧ (¬ (r2 = 0) → ∃ nn, v_M_share_j117 post nn S1 l2 l3 l4 l3 l4)) S s1 s0 1
set_option maxRecDepth 100000 in
theorem lf_M_share_j101 {e0 : Nat} {M0 : zM} {m : Nat} {ad : Nat → Nat} {post : Int32 → Sm → Prop} {po : Int32 → zM → Prop} (hp : ∀ (r : Int32) (M : zM) (S : Sm), RMf M0 M m ad S → post r S → po r M) : ∀ (M : zM) (S : Sm) (l2 : Int32) (l3 : Int32) (l4 : Int32) (s0 : Int32) (s1 : Int32), RMf M0 M m ad S → v_M_share_j101 post  S l2 l3 l4 s0 s1 → w_M_share_j101 e0 po  M l2 l3 l4 s0 s1 m := by
  intro M S l2 l3 l4 s0 s1 hR hv
  refine ⟨rm_is hR, ?_⟩
  refine lf_M_goes hR hv (fun _ M _ hR hv => ?_)
  refine ⟨fun hq => ?_, fun hq => ?_⟩
  · have hv := hv.1 hq
    exact hp _ _ _ hR hv
  · have hv := hv.2 hq
    obtain ⟨nfu, hv⟩ := hv
    exact ⟨nfu, lf_M_share_j117 hp  nfu _ _ _ _ _ _ _ hR hv⟩
def v_M_share_j92 (post : Int32 → Sm → Prop) (S : Sm) (l2 : Int32) (l3 : Int32) (l4 : Int32) (s0 : Int32) : Prop := ((l3 ≤ 0) → v_M_share_j101 post S l2 l3 l4 0 s0) ∧ (¬ (l3 ≤ 0) → v_M_share_j101 post S l2 l3 l4 1 s0)
set_option maxRecDepth 100000 in
theorem lf_M_share_j92 {e0 : Nat} {M0 : zM} {m : Nat} {ad : Nat → Nat} {post : Int32 → Sm → Prop} {po : Int32 → zM → Prop} (hp : ∀ (r : Int32) (M : zM) (S : Sm), RMf M0 M m ad S → post r S → po r M) : ∀ (M : zM) (S : Sm) (l2 : Int32) (l3 : Int32) (l4 : Int32) (s0 : Int32), RMf M0 M m ad S → v_M_share_j92 post  S l2 l3 l4 s0 → w_M_share_j92 e0 po  M l2 l3 l4 s0 m := by
  intro M S l2 l3 l4 s0 hR hv
  refine ⟨fun hq => ?_, fun hq => ?_⟩
  · have hv := hv.1 hq
    exact lf_M_share_j101 hp  _ _ _ _ _ _ _ hR hv
  · have hv := hv.2 hq
    exact lf_M_share_j101 hp  _ _ _ _ _ _ _ hR hv
def v_M_share_j91 (post : Int32 → Sm → Prop) (S : Sm) (l2 : Int32) (l3 : Int32) (l4 : Int32) : Prop := v_M_share_j92 post S l2 l3 l4 0
set_option maxRecDepth 100000 in
theorem lf_M_share_j91 {e0 : Nat} {M0 : zM} {m : Nat} {ad : Nat → Nat} {post : Int32 → Sm → Prop} {po : Int32 → zM → Prop} (hp : ∀ (r : Int32) (M : zM) (S : Sm), RMf M0 M m ad S → post r S → po r M) : ∀ (M : zM) (S : Sm) (l2 : Int32) (l3 : Int32) (l4 : Int32), RMf M0 M m ad S → v_M_share_j91 post  S l2 l3 l4 → w_M_share_j91 e0 po  M l2 l3 l4 m := by
  intro M S l2 l3 l4 hR hv
  exact lf_M_share_j92 hp  _ _ _ _ _ _ hR hv
def v_M_share_j63 (post : Int32 → Sm → Prop) (K8 : Sm → Int32 → Int32 → Int32 → Int32 → Int32 → Prop) (S : Sm) (l1 : Int32) (l2 : Int32) (l3 : Int32) (l4 : Int32) (l5 : Int32) : Prop := K8 S l1 l2 l3 l4 (l5 + 1)
set_option maxRecDepth 100000 in
theorem lf_M_share_j63 {e0 : Nat} {M0 : zM} {m : Nat} {ad : Nat → Nat} {post : Int32 → Sm → Prop} {po : Int32 → zM → Prop} (hp : ∀ (r : Int32) (M : zM) (S : Sm), RMf M0 M m ad S → post r S → po r M) {K8 : Sm → Int32 → Int32 → Int32 → Int32 → Int32 → Prop} {C8 : zM → Nat → Int32 → Int32 → Int32 → Int32 → Int32 → Prop} (hK8 : ∀ (M : zM) (S : Sm) (l1 : Int32) (l2 : Int32) (l3 : Int32) (l4 : Int32) (l5 : Int32), RMf M0 M m ad S → K8 S l1 l2 l3 l4 l5 → C8 M m l1 l2 l3 l4 l5) : ∀ (M : zM) (S : Sm) (l1 : Int32) (l2 : Int32) (l3 : Int32) (l4 : Int32) (l5 : Int32), RMf M0 M m ad S → v_M_share_j63 post K8 S l1 l2 l3 l4 l5 → w_M_share_j63 e0 po C8 M m l1 l2 l3 l4 l5 := by
  intro M S l1 l2 l3 l4 l5 hR hv
  exact hK8 _ _ _ _ _ _ _ hR hv
def v_M_share_j8 (post : Int32 → Sm → Prop) : Nat → Sm → Int32 → Int32 → Int32 → Int32 → Int32 → Prop
  | 0 => fun _ _ _ _ _ _ => False
  | n + 1 => fun S l1 l2 l3 l4 l5 => (((S 12 0) ≤ l5) → v_M_isGroup (fun r2 S1 => ((r2 = 0) → v_M_share_j91 post S1 l2 l3 l4) ∧ (¬ (r2 = 0) → v_M_in (fun r4 S3 => ((r4 = 0) → v_M_share_j91 post S3 l2 l3 l4) ∧ (¬ (r4 = 0) → v_M_share_j92 post S3 l2 l3 l4 1)) S1 l2 0 1)) S l1) ∧ (¬ ((S 12 0) ≤ l5) → aLD S 13 l5 (fun v5 => ((v5 = l1) → aLD S 17 l5 (fun v6 => ((v6 = 0) → v_M_share_j63 post (v_M_share_j8 post n) S l1 l2 l3 l4 l5) ∧ (¬ (v6 = 0) → v_M_many (fun r8 S7 => v_M_many (fun r10 S9 => v_M_share_j63 post (v_M_share_j8 post n) S9 l1 l2 (l3 + r8) (l4 + r10) l5) S7 l5 3) S l5 1))) ∧ (¬ (v5 = l1) → v_M_share_j63 post (v_M_share_j8 post n) S l1 l2 l3 l4 l5)))
set_option maxRecDepth 100000 in
theorem lf_M_share_j8 {e0 : Nat} {M0 : zM} {m : Nat} {ad : Nat → Nat} {post : Int32 → Sm → Prop} {po : Int32 → zM → Prop} (hp : ∀ (r : Int32) (M : zM) (S : Sm), RMf M0 M m ad S → post r S → po r M) : ∀ n : Nat, ∀ (M : zM) (S : Sm) (l1 : Int32) (l2 : Int32) (l3 : Int32) (l4 : Int32) (l5 : Int32), RMf M0 M m ad S → v_M_share_j8 post  n S l1 l2 l3 l4 l5 → w_M_share_j8 e0 po  n M m l1 l2 l3 l4 l5 := by
  intro n
  induction n with
  | zero => intro M S l1 l2 l3 l4 l5 hR hv; exact hv.elim
  | succ n ih =>
    intro M S l1 l2 l3 l4 l5 hR hv
    refine rm_gi hR rfl ?_
    refine ⟨fun hq => ?_, fun hq => ?_⟩
    · have hv := hv.1 hq
      refine ⟨rm_is hR, ?_⟩
      refine lf_M_isGroup hR hv (fun _ M _ hR hv => ?_)
      refine ⟨fun hq => ?_, fun hq => ?_⟩
      · have hv := hv.1 hq
        exact lf_M_share_j91 hp  _ _ _ _ _ hR hv
      · have hv := hv.2 hq
        refine lf_M_in hR hv (fun _ M _ hR hv => ?_)
        refine ⟨fun hq => ?_, fun hq => ?_⟩
        · have hv := hv.1 hq
          exact lf_M_share_j91 hp  _ _ _ _ _ hR hv
        · have hv := hv.2 hq
          exact lf_M_share_j92 hp  _ _ _ _ _ _ hR hv
    · have hv := hv.2 hq
      refine rm_gr hR (j := 13) rfl ?_
      obtain ⟨hi, hv⟩ := hv
      refine rm_ld hR (by decide) hi ?_
      refine ⟨fun hq => ?_, fun hq => ?_⟩
      · have hv := hv.1 hq
        refine rm_gr hR (j := 17) rfl ?_
        obtain ⟨hi, hv⟩ := hv
        refine rm_ld hR (by decide) hi ?_
        refine ⟨fun hq => ?_, fun hq => ?_⟩
        · have hv := hv.1 hq
          exact lf_M_share_j63 hp ih _ _ _ _ _ _ _ hR hv
        · have hv := hv.2 hq
          refine ⟨rm_is hR, ?_⟩
          refine lf_M_many hR hv (fun _ M _ hR hv => ?_)
          refine ⟨rm_is hR, ?_⟩
          refine lf_M_many hR hv (fun _ M _ hR hv => ?_)
          exact lf_M_share_j63 hp ih _ _ _ _ _ _ _ hR hv
      · have hv := hv.2 hq
        exact lf_M_share_j63 hp ih _ _ _ _ _ _ _ hR hv
def v_M_share (post : Int32 → Sm → Prop) (S : Sm) (x1 : Int32) (x2 : Int32) : Prop := ∃ nn, v_M_share_j8 post nn S x1 x2 0 0 0
set_option maxRecDepth 100000 in
theorem lf_M_share {e0 : Nat} {M0 : zM} {m : Nat} {ad : Nat → Nat} {post : Int32 → Sm → Prop} {po : Int32 → zM → Prop} {M : zM} {S : Sm} {x1 : Int32} {x2 : Int32} (hR : RMf M0 M m ad S) (hv : v_M_share post S x1 x2) (hp : ∀ (r : Int32) (M : zM) (S : Sm), RMf M0 M m ad S → post r S → po r M) : w_M_share e0 po M m x1 x2 := by
  obtain ⟨nfu, hv⟩ := hv
  exact ⟨nfu, lf_M_share_j8 hp  nfu _ _ _ _ _ _ _ hR hv⟩
def v_M_isSilent_j59 (post : Int32 → Sm → Prop) (K4 : Sm → Int32 → Int32 → Int32 → Prop) (S : Sm) (l1 : Int32) (l2 : Int32) (l3 : Int32) : Prop := K4 S l1 l2 (l3 + 1)
set_option maxRecDepth 100000 in
theorem lf_M_isSilent_j59 {e0 : Nat} {M0 : zM} {m : Nat} {ad : Nat → Nat} {post : Int32 → Sm → Prop} {po : Int32 → zM → Prop} (hp : ∀ (r : Int32) (M : zM) (S : Sm), RMf M0 M m ad S → post r S → po r M) {K4 : Sm → Int32 → Int32 → Int32 → Prop} {C4 : zM → Nat → Int32 → Int32 → Int32 → Prop} (hK4 : ∀ (M : zM) (S : Sm) (l1 : Int32) (l2 : Int32) (l3 : Int32), RMf M0 M m ad S → K4 S l1 l2 l3 → C4 M m l1 l2 l3) : ∀ (M : zM) (S : Sm) (l1 : Int32) (l2 : Int32) (l3 : Int32), RMf M0 M m ad S → v_M_isSilent_j59 post K4 S l1 l2 l3 → w_M_isSilent_j59 e0 po C4 M m l1 l2 l3 := by
  intro M S l1 l2 l3 hR hv
  exact hK4 _ _ _ _ _ hR hv
def v_M_isSilent_j4 (post : Int32 → Sm → Prop) : Nat → Sm → Int32 → Int32 → Int32 → Prop
  | 0 => fun _ _ _ _ => False
  | n + 1 => fun S l1 l2 l3 => (((S 12 0) ≤ l3) → ((l2 ≤ 2) → post 0 S) ∧ (¬ (l2 ≤ 2) → post 1 S)) ∧ (¬ ((S 12 0) ≤ l3) → aLD S 17 l3 (fun v1 => ((v1 = 0) → v_M_isSilent_j59 post (v_M_isSilent_j4 post n) S l1 l2 l3) ∧ (¬ (v1 = 0) → aLD S 18 ((l3 * 60) + l1) (fun v2 => ((v2 = 0) → v_M_isSilent_j59 post (v_M_isSilent_j4 post n) S l1 l2 l3) ∧ (¬ (v2 = 0) → aLD S 21 ((l3 * 60) + l1) (fun v3 => ((v3 = (-2)) → v_M_isSilent_j59 post (v_M_isSilent_j4 post n) S l1 (l2 + 1) l3) ∧ (¬ (v3 = (-2)) → post 0 S)))))))
set_option maxRecDepth 100000 in
theorem lf_M_isSilent_j4 {e0 : Nat} {M0 : zM} {m : Nat} {ad : Nat → Nat} {post : Int32 → Sm → Prop} {po : Int32 → zM → Prop} (hp : ∀ (r : Int32) (M : zM) (S : Sm), RMf M0 M m ad S → post r S → po r M) : ∀ n : Nat, ∀ (M : zM) (S : Sm) (l1 : Int32) (l2 : Int32) (l3 : Int32), RMf M0 M m ad S → v_M_isSilent_j4 post  n S l1 l2 l3 → w_M_isSilent_j4 e0 po  n M m l1 l2 l3 := by
  intro n
  induction n with
  | zero => intro M S l1 l2 l3 hR hv; exact hv.elim
  | succ n ih =>
    intro M S l1 l2 l3 hR hv
    refine rm_gi hR rfl ?_
    refine ⟨fun hq => ?_, fun hq => ?_⟩
    · have hv := hv.1 hq
      refine ⟨fun hq => ?_, fun hq => ?_⟩
      · have hv := hv.1 hq
        exact hp _ _ _ hR hv
      · have hv := hv.2 hq
        exact hp _ _ _ hR hv
    · have hv := hv.2 hq
      refine rm_gr hR (j := 17) rfl ?_
      obtain ⟨hi, hv⟩ := hv
      refine rm_ld hR (by decide) hi ?_
      refine ⟨fun hq => ?_, fun hq => ?_⟩
      · have hv := hv.1 hq
        exact lf_M_isSilent_j59 hp ih _ _ _ _ _ hR hv
      · have hv := hv.2 hq
        refine rm_gr hR (j := 18) rfl ?_
        obtain ⟨hi, hv⟩ := hv
        refine rm_ld hR (by decide) hi ?_
        refine ⟨fun hq => ?_, fun hq => ?_⟩
        · have hv := hv.1 hq
          exact lf_M_isSilent_j59 hp ih _ _ _ _ _ hR hv
        · have hv := hv.2 hq
          refine rm_gr hR (j := 21) rfl ?_
          obtain ⟨hi, hv⟩ := hv
          refine rm_ld hR (by decide) hi ?_
          refine ⟨fun hq => ?_, fun hq => ?_⟩
          · have hv := hv.1 hq
            exact lf_M_isSilent_j59 hp ih _ _ _ _ _ hR hv
          · have hv := hv.2 hq
            exact hp _ _ _ hR hv
def v_M_isSilent (post : Int32 → Sm → Prop) (S : Sm) (x1 : Int32) : Prop := ∃ nn, v_M_isSilent_j4 post nn S x1 0 0
set_option maxRecDepth 100000 in
theorem lf_M_isSilent {e0 : Nat} {M0 : zM} {m : Nat} {ad : Nat → Nat} {post : Int32 → Sm → Prop} {po : Int32 → zM → Prop} {M : zM} {S : Sm} {x1 : Int32} (hR : RMf M0 M m ad S) (hv : v_M_isSilent post S x1) (hp : ∀ (r : Int32) (M : zM) (S : Sm), RMf M0 M m ad S → post r S → po r M) : w_M_isSilent e0 po M m x1 := by
  obtain ⟨nfu, hv⟩ := hv
  exact ⟨nfu, lf_M_isSilent_j4 hp  nfu _ _ _ _ _ hR hv⟩
def v_M_never_j52 (post : Int32 → Sm → Prop) (K24 : Sm → Int32 → Int32 → Prop) (S : Sm) (l2 : Int32) (l3 : Int32) : Prop := K24 S l2 (l3 + 1)
set_option maxRecDepth 100000 in
theorem lf_M_never_j52 {e0 : Nat} {M0 : zM} {m : Nat} {ad : Nat → Nat} {post : Int32 → Sm → Prop} {po : Int32 → zM → Prop} (hp : ∀ (r : Int32) (M : zM) (S : Sm), RMf M0 M m ad S → post r S → po r M) {K24 : Sm → Int32 → Int32 → Prop} {C24 : zM → Nat → Int32 → Int32 → Prop} (hK24 : ∀ (M : zM) (S : Sm) (l2 : Int32) (l3 : Int32), RMf M0 M m ad S → K24 S l2 l3 → C24 M m l2 l3) : ∀ (M : zM) (S : Sm) (l2 : Int32) (l3 : Int32), RMf M0 M m ad S → v_M_never_j52 post K24 S l2 l3 → w_M_never_j52 e0 po C24 M m l2 l3 := by
  intro M S l2 l3 hR hv
  exact hK24 _ _ _ _ hR hv
def v_M_never_j24 (post : Int32 → Sm → Prop) : Nat → Sm → Int32 → Int32 → Prop
  | 0 => fun _ _ _ => False
  | n + 1 => fun S l2 l3 => (((S 6 0) ≤ l3) → post (-1) S) ∧ (¬ ((S 6 0) ≤ l3) → v_M_isSilent (fun r2 S1 => ((r2 = 0) → v_M_never_j52 post (v_M_never_j24 post n) S1 l2 l3) ∧ (¬ (r2 = 0) → ((l2 = 0) → post l3 S1) ∧ (¬ (l2 = 0) → v_M_never_j52 post (v_M_never_j24 post n) S1 (l2 + (-1)) l3))) S l3)
set_option maxRecDepth 100000 in
theorem lf_M_never_j24 {e0 : Nat} {M0 : zM} {m : Nat} {ad : Nat → Nat} {post : Int32 → Sm → Prop} {po : Int32 → zM → Prop} (hp : ∀ (r : Int32) (M : zM) (S : Sm), RMf M0 M m ad S → post r S → po r M) : ∀ n : Nat, ∀ (M : zM) (S : Sm) (l2 : Int32) (l3 : Int32), RMf M0 M m ad S → v_M_never_j24 post  n S l2 l3 → w_M_never_j24 e0 po  n M m l2 l3 := by
  intro n
  induction n with
  | zero => intro M S l2 l3 hR hv; exact hv.elim
  | succ n ih =>
    intro M S l2 l3 hR hv
    refine rm_gi hR rfl ?_
    refine ⟨fun hq => ?_, fun hq => ?_⟩
    · have hv := hv.1 hq
      exact hp _ _ _ hR hv
    · have hv := hv.2 hq
      refine ⟨rm_is hR, ?_⟩
      refine lf_M_isSilent hR hv (fun _ M _ hR hv => ?_)
      refine ⟨fun hq => ?_, fun hq => ?_⟩
      · have hv := hv.1 hq
        exact lf_M_never_j52 hp ih _ _ _ _ hR hv
      · have hv := hv.2 hq
        refine ⟨fun hq => ?_, fun hq => ?_⟩
        · have hv := hv.1 hq
          exact hp _ _ _ hR hv
        · have hv := hv.2 hq
          exact lf_M_never_j52 hp ih _ _ _ _ hR hv
def v_M_never_j10 (post : Int32 → Sm → Prop) (S : Sm) (l1 : Int32) (s0 : Int32) : Prop := v_M_goes (fun r2 S1 => ((r2 = 0) → post 0 S1) ∧ (¬ (r2 = 0) → ∃ nn, v_M_never_j24 post nn S1 l1 0)) S s0 1 1
set_option maxRecDepth 100000 in
theorem lf_M_never_j10 {e0 : Nat} {M0 : zM} {m : Nat} {ad : Nat → Nat} {post : Int32 → Sm → Prop} {po : Int32 → zM → Prop} (hp : ∀ (r : Int32) (M : zM) (S : Sm), RMf M0 M m ad S → post r S → po r M) : ∀ (M : zM) (S : Sm) (l1 : Int32) (s0 : Int32), RMf M0 M m ad S → v_M_never_j10 post  S l1 s0 → w_M_never_j10 e0 po  M m l1 s0 m := by
  intro M S l1 s0 hR hv
  refine ⟨rm_is hR, ?_⟩
  refine lf_M_goes hR hv (fun _ M _ hR hv => ?_)
  refine ⟨fun hq => ?_, fun hq => ?_⟩
  · have hv := hv.1 hq
    exact hp _ _ _ hR hv
  · have hv := hv.2 hq
    obtain ⟨nfu, hv⟩ := hv
    exact ⟨nfu, lf_M_never_j24 hp  nfu _ _ _ _ hR hv⟩
def v_M_never (post : Int32 → Sm → Prop) (S : Sm) (x1 : Int32) : Prop := ((x1 < 0) → v_M_never_j10 post S x1 0) ∧ (¬ (x1 < 0) → v_M_never_j10 post S x1 1)
set_option maxRecDepth 100000 in
theorem lf_M_never {e0 : Nat} {M0 : zM} {m : Nat} {ad : Nat → Nat} {post : Int32 → Sm → Prop} {po : Int32 → zM → Prop} {M : zM} {S : Sm} {x1 : Int32} (hR : RMf M0 M m ad S) (hv : v_M_never post S x1) (hp : ∀ (r : Int32) (M : zM) (S : Sm), RMf M0 M m ad S → post r S → po r M) : w_M_never e0 po M m x1 := by
  refine ⟨fun hq => ?_, fun hq => ?_⟩
  · have hv := hv.1 hq
    exact lf_M_never_j10 hp  _ _ _ _ hR hv
  · have hv := hv.2 hq
    exact lf_M_never_j10 hp  _ _ _ _ hR hv
def v_M_count_j41 (post : Int32 → Sm → Prop) (K21 : Sm → Int32 → Int32 → Int32 → Prop) (S : Sm) (l1 : Int32) (l2 : Int32) (l3 : Int32) : Prop := K21 S l1 l2 (l3 + 1)
set_option maxRecDepth 100000 in
theorem lf_M_count_j41 {e0 : Nat} {M0 : zM} {m : Nat} {ad : Nat → Nat} {post : Int32 → Sm → Prop} {po : Int32 → zM → Prop} (hp : ∀ (r : Int32) (M : zM) (S : Sm), RMf M0 M m ad S → post r S → po r M) {K21 : Sm → Int32 → Int32 → Int32 → Prop} {C21 : zM → Nat → Int32 → Int32 → Int32 → Prop} (hK21 : ∀ (M : zM) (S : Sm) (l1 : Int32) (l2 : Int32) (l3 : Int32), RMf M0 M m ad S → K21 S l1 l2 l3 → C21 M m l1 l2 l3) : ∀ (M : zM) (S : Sm) (l1 : Int32) (l2 : Int32) (l3 : Int32), RMf M0 M m ad S → v_M_count_j41 post K21 S l1 l2 l3 → w_M_count_j41 e0 po C21 M m l1 l2 l3 := by
  intro M S l1 l2 l3 hR hv
  exact hK21 _ _ _ _ _ hR hv
def v_M_count_j21 (post : Int32 → Sm → Prop) : Nat → Sm → Int32 → Int32 → Int32 → Prop
  | 0 => fun _ _ _ _ => False
  | n + 1 => fun S l1 l2 l3 => (((S 12 0) ≤ l3) → ((l1 = 0) → post (S 1 0) S) ∧ (¬ (l1 = 0) → ((l1 = 1) → post l2 S) ∧ (¬ (l1 = 1) → ((l1 = 2) → post (S 22 0) S) ∧ (¬ (l1 = 2) → ((l1 = 3) → post (S 23 0) S) ∧ (¬ (l1 = 3) → post (S 24 0) S))))) ∧ (¬ ((S 12 0) ≤ l3) → aLD S 17 l3 (fun v1 => ((v1 = 0) → v_M_count_j41 post (v_M_count_j21 post n) S l1 (l2 + 1) l3) ∧ (¬ (v1 = 0) → v_M_count_j41 post (v_M_count_j21 post n) S l1 l2 l3)))
set_option maxRecDepth 100000 in
theorem lf_M_count_j21 {e0 : Nat} {M0 : zM} {m : Nat} {ad : Nat → Nat} {post : Int32 → Sm → Prop} {po : Int32 → zM → Prop} (hp : ∀ (r : Int32) (M : zM) (S : Sm), RMf M0 M m ad S → post r S → po r M) : ∀ n : Nat, ∀ (M : zM) (S : Sm) (l1 : Int32) (l2 : Int32) (l3 : Int32), RMf M0 M m ad S → v_M_count_j21 post  n S l1 l2 l3 → w_M_count_j21 e0 po  n M m l1 l2 l3 := by
  intro n
  induction n with
  | zero => intro M S l1 l2 l3 hR hv; exact hv.elim
  | succ n ih =>
    intro M S l1 l2 l3 hR hv
    refine rm_gi hR rfl ?_
    refine ⟨fun hq => ?_, fun hq => ?_⟩
    · have hv := hv.1 hq
      refine ⟨fun hq => ?_, fun hq => ?_⟩
      · have hv := hv.1 hq
        refine rm_gi hR rfl ?_
        exact hp _ _ _ hR hv
      · have hv := hv.2 hq
        refine ⟨fun hq => ?_, fun hq => ?_⟩
        · have hv := hv.1 hq
          exact hp _ _ _ hR hv
        · have hv := hv.2 hq
          refine ⟨fun hq => ?_, fun hq => ?_⟩
          · have hv := hv.1 hq
            refine rm_gi hR rfl ?_
            exact hp _ _ _ hR hv
          · have hv := hv.2 hq
            refine ⟨fun hq => ?_, fun hq => ?_⟩
            · have hv := hv.1 hq
              refine rm_gi hR rfl ?_
              exact hp _ _ _ hR hv
            · have hv := hv.2 hq
              refine rm_gi hR rfl ?_
              exact hp _ _ _ hR hv
    · have hv := hv.2 hq
      refine rm_gr hR (j := 17) rfl ?_
      obtain ⟨hi, hv⟩ := hv
      refine rm_ld hR (by decide) hi ?_
      refine ⟨fun hq => ?_, fun hq => ?_⟩
      · have hv := hv.1 hq
        exact lf_M_count_j41 hp ih _ _ _ _ _ hR hv
      · have hv := hv.2 hq
        exact lf_M_count_j41 hp ih _ _ _ _ _ hR hv
def v_M_count (post : Int32 → Sm → Prop) (S : Sm) (x1 : Int32) : Prop := v_M_in (fun r2 S1 => v_M_goes (fun r4 S3 => ((r4 = 0) → post 0 S3) ∧ (¬ (r4 = 0) → ∃ nn, v_M_count_j21 post nn S3 x1 0 0)) S1 r2 1 1) S x1 0 4
set_option maxRecDepth 100000 in
theorem lf_M_count {e0 : Nat} {M0 : zM} {m : Nat} {ad : Nat → Nat} {post : Int32 → Sm → Prop} {po : Int32 → zM → Prop} {M : zM} {S : Sm} {x1 : Int32} (hR : RMf M0 M m ad S) (hv : v_M_count post S x1) (hp : ∀ (r : Int32) (M : zM) (S : Sm), RMf M0 M m ad S → post r S → po r M) : w_M_count e0 po M m x1 := by
  refine lf_M_in hR hv (fun _ M _ hR hv => ?_)
  refine ⟨rm_is hR, ?_⟩
  refine lf_M_goes hR hv (fun _ M _ hR hv => ?_)
  refine ⟨fun hq => ?_, fun hq => ?_⟩
  · have hv := hv.1 hq
    exact hp _ _ _ hR hv
  · have hv := hv.2 hq
    obtain ⟨nfu, hv⟩ := hv
    exact ⟨nfu, lf_M_count_j21 hp  nfu _ _ _ _ _ hR hv⟩
