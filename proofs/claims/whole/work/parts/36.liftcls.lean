def u_A_requireGroup_j15 (post : Sm → Prop) (px : String → Sm → Prop) (mc : Nat) (ms : Nat) (C : Sm) : Prop := 1 ≤ mc ∧ 6 ≤ ms ∧ px "java/lang/IllegalArgumentException" C
set_option maxRecDepth 100000 in
theorem lc_A_requireGroup_j15 {e0 : Nat} {M0 : zM} {own : Nat → Prop} {x : Nat} {Z : Zc} {nn : Nat → Nat} {post : Sm → Prop} {po : zM → Prop} {px : String → Sm → Prop} {pxo : String → zM → Prop} (hp : ∀ (M : zM) (C : Sm), RCx e0 M0 own M Z C x nn → post C → po M) (hpx : ∀ (E : String) (M : zM) (C : Sm), RCx e0 M0 own M Z C x nn → px E C → pxo E M) : ∀ (mc : Nat) (ms : Nat) (M : zM) (C : Sm) , RCx e0 M0 own M Z C x nn → u_A_requireGroup_j15 post px  mc ms C  → w_A_requireGroup_j15 e0 po pxo  mc ms M  := by
  intro mc ms M C hR hv
  exact ⟨hv.1, hv.2.1, hpx _ _ _ hR hv.2.2⟩
def u_A_requireGroup (post : Sm → Prop) (px : String → Sm → Prop) (mc : Nat) (ms : Nat) (C : Sm) (x1 : Int32) : Prop := ((x1 < 0) → u_A_requireGroup_j15 post px mc ms C) ∧ (¬ (x1 < 0) → ((x1 < (C 4 0)) → post C) ∧ (¬ (x1 < (C 4 0)) → u_A_requireGroup_j15 post px mc ms C))
set_option maxRecDepth 100000 in
theorem lc_A_requireGroup {e0 : Nat} {M0 : zM} {own : Nat → Prop} {x : Nat} {Z : Zc} {nn : Nat → Nat} {post : Sm → Prop} {po : zM → Prop} {px : String → Sm → Prop} {pxo : String → zM → Prop} {mc ms : Nat} {M : zM} {C : Sm} {x1 : Int32} (hR : RCx e0 M0 own M Z C x nn) (hv : u_A_requireGroup post px mc ms C x1) (hp : ∀ (M : zM) (C : Sm), RCx e0 M0 own M Z C x nn → post C → po M) (hpx : ∀ (E : String) (M : zM) (C : Sm), RCx e0 M0 own M Z C x nn → px E C → pxo E M) : w_A_requireGroup e0 po pxo mc ms M x x1 := by
  refine ⟨fun hq => ?_, fun hq => ?_⟩
  · have hv := hv.1 hq
    exact lc_A_requireGroup_j15 hp hpx  _ _ _ _ hR hv
  · have hv := hv.2 hq
    refine cx_gr9 hR rfl ?_
    refine ⟨cx_isL hR (by decide), ?_⟩
    refine cx_size hR (by decide) ?_
    refine ⟨fun hq => ?_, fun hq => ?_⟩
    · have hv := hv.1 hq
      exact hp _ _ hR hv
    · have hv := hv.2 hq
      exact lc_A_requireGroup_j15 hp hpx  _ _ _ _ hR hv
def u_A_groupOf (post : Nat → Sm → Prop) (px : String → Sm → Prop) (mc : Nat) (ms : Nat) (C : Sm) (x1 : Int32) : Prop := ∃ mc2 ms3 : Nat, mc2 ≤ mc ∧ ms3 ≤ ms ∧ u_A_requireGroup (fun C1 => aGT C1 0 x1 (fun i5 => post i5 C1)) px mc2 ms3 C x1
set_option maxRecDepth 100000 in
theorem lc_A_groupOf {e0 : Nat} {M0 : zM} {own : Nat → Prop} {x : Nat} {Z : Zc} {nn : Nat → Nat} {post : Nat → Sm → Prop} {po : Option Nat → zM → Prop} {px : String → Sm → Prop} {pxo : String → zM → Prop} {mc ms : Nat} {M : zM} {C : Sm} {x1 : Int32} (hR : RCx e0 M0 own M Z C x nn) (hv : u_A_groupOf post px mc ms C x1) (hp : ∀ (r : Nat) (M : zM) (C : Sm), RCx e0 M0 own M Z C x nn → r < nn 0 → post r C → po (some (Z.1 1 r)) M) (hpx : ∀ (E : String) (M : zM) (C : Sm), RCx e0 M0 own M Z C x nn → px E C → pxo E M) : w_A_groupOf e0 po pxo mc ms M x x1 := by
  refine ⟨cx_is9 hR, ?_⟩
  obtain ⟨mc2, ms3, hba, hbb, hv⟩ := hv
  refine ⟨mc2, ms3, hba, hbb, ?_⟩
  refine lc_A_requireGroup hR  hv (fun M C19 hR hv => ?_) hpx
  refine cx_gr9 hR rfl ?_
  obtain ⟨hi9, hv⟩ := hv
  have hn4 := (by rw [← hR.2.2 0 (by decide)]; exact vp_in_lt hi9 : (x1).toNatClampNeg < nn 0)
  refine ⟨cx_isL hR (by decide), ?_⟩
  refine cx_get hR (by decide) (by rw [← hR.2.2 0 (by decide)]; exact hi9) ?_
  refine ⟨_, rfl, ?_⟩
  refine ⟨cx_isG hR hn4, ?_⟩
  exact hp _ _ _ hR hn4 hv
def u_A_next_j31 (post : Sm → Prop) (px : String → Sm → Prop) (mc : Nat) (ms : Nat) (C : Sm) (l2 : Int32) (l3 : Nat) : Prop := aW C 12 l3 l2 (fun C1 => post C1)
set_option maxRecDepth 100000 in
theorem lc_A_next_j31 {e0 : Nat} {M0 : zM} {own : Nat → Prop} {x : Nat} {Z : Zc} {nn : Nat → Nat} {post : Sm → Prop} {po : zM → Prop} {px : String → Sm → Prop} {pxo : String → zM → Prop} (hp : ∀ (M : zM) (C : Sm), RCx e0 M0 own M Z C x nn → post C → po M) (hpx : ∀ (E : String) (M : zM) (C : Sm), RCx e0 M0 own M Z C x nn → px E C → pxo E M) : ∀ (mc : Nat) (ms : Nat) (M : zM) (C : Sm) (l2 : Int32) (l3 : Nat), RCx e0 M0 own M Z C x nn → l3 < nn 0 → u_A_next_j31 post px  mc ms C l2 l3 → w_A_next_j31 e0 po pxo  mc ms M l2 (Z.1 1 l3) := by
  intro mc ms M C l2 l3 hR hl3 hv
  refine cx_pG hR hl3 (by decide) (fun M hR => ?_)
  exact hp _ _ hR hv
def u_A_next (post : Sm → Prop) (px : String → Sm → Prop) (mc : Nat) (ms : Nat) (C : Sm) (x1 : Int32) (x2 : Int32) : Prop := ∃ mc2 ms3 : Nat, mc2 ≤ mc ∧ ms3 ≤ ms ∧ u_A_groupOf (fun i4 C1 => ((x2 = (-1)) → u_A_next_j31 post px (mc - mc2) (ms - ms3) C1 x2 i4) ∧ (¬ (x2 = (-1)) → ∃ mc7 ms8 : Nat, mc7 ≤ (mc - mc2) ∧ ms8 ≤ (ms - ms3) ∧ u_A_requireGroup (fun C6 => ((x1 < x2) → u_A_next_j31 post px ((mc - mc2) - mc7) ((ms - ms3) - ms8) C6 x2 i4) ∧ (¬ (x1 < x2) → 1 ≤ ((mc - mc2) - mc7) ∧ 6 ≤ ((ms - ms3) - ms8) ∧ px "java/lang/IllegalStateException" C6)) px mc7 ms8 C1 x2)) px mc2 ms3 C x1
set_option maxRecDepth 100000 in
theorem lc_A_next {e0 : Nat} {M0 : zM} {own : Nat → Prop} {x : Nat} {Z : Zc} {nn : Nat → Nat} {post : Sm → Prop} {po : zM → Prop} {px : String → Sm → Prop} {pxo : String → zM → Prop} {mc ms : Nat} {M : zM} {C : Sm} {x1 : Int32} {x2 : Int32} (hR : RCx e0 M0 own M Z C x nn) (hv : u_A_next post px mc ms C x1 x2) (hp : ∀ (M : zM) (C : Sm), RCx e0 M0 own M Z C x nn → post C → po M) (hpx : ∀ (E : String) (M : zM) (C : Sm), RCx e0 M0 own M Z C x nn → px E C → pxo E M) : w_A_next e0 po pxo mc ms M x x1 x2 := by
  refine ⟨cx_is9 hR, ?_⟩
  obtain ⟨mc2, ms3, hba, hbb, hv⟩ := hv
  refine ⟨mc2, ms3, hba, hbb, ?_⟩
  refine lc_A_groupOf hR  hv (fun i4 M C19 hR hn5 hv => ?_) hpx
  refine ⟨_, rfl, ?_⟩
  refine ⟨fun hq => ?_, fun hq => ?_⟩
  · have hv := hv.1 hq
    exact lc_A_next_j31 hp hpx  _ _ _ _ _ _ hR hn5 hv
  · have hv := hv.2 hq
    refine ⟨cx_is9 hR, ?_⟩
    obtain ⟨mc7, ms8, hba, hbb, hv⟩ := hv
    refine ⟨mc7, ms8, hba, hbb, ?_⟩
    refine lc_A_requireGroup hR  hv (fun M C69 hR hv => ?_) hpx
    refine ⟨fun hq => ?_, fun hq => ?_⟩
    · have hv := hv.1 hq
      exact lc_A_next_j31 hp hpx  _ _ _ _ _ _ hR hn5 hv
    · have hv := hv.2 hq
      exact ⟨hv.1, hv.2.1, hpx _ _ _ hR hv.2.2⟩
def u_A_requirePerson_j15 (post : Sm → Prop) (px : String → Sm → Prop) (mc : Nat) (ms : Nat) (C : Sm) : Prop := 1 ≤ mc ∧ 6 ≤ ms ∧ px "java/lang/IllegalArgumentException" C
set_option maxRecDepth 100000 in
theorem lc_A_requirePerson_j15 {e0 : Nat} {M0 : zM} {own : Nat → Prop} {x : Nat} {Z : Zc} {nn : Nat → Nat} {post : Sm → Prop} {po : zM → Prop} {px : String → Sm → Prop} {pxo : String → zM → Prop} (hp : ∀ (M : zM) (C : Sm), RCx e0 M0 own M Z C x nn → post C → po M) (hpx : ∀ (E : String) (M : zM) (C : Sm), RCx e0 M0 own M Z C x nn → px E C → pxo E M) : ∀ (mc : Nat) (ms : Nat) (M : zM) (C : Sm) , RCx e0 M0 own M Z C x nn → u_A_requirePerson_j15 post px  mc ms C  → w_A_requirePerson_j15 e0 po pxo  mc ms M  := by
  intro mc ms M C hR hv
  exact ⟨hv.1, hv.2.1, hpx _ _ _ hR hv.2.2⟩
def u_A_requirePerson (post : Sm → Prop) (px : String → Sm → Prop) (mc : Nat) (ms : Nat) (C : Sm) (x1 : Int32) : Prop := ((x1 < 0) → u_A_requirePerson_j15 post px mc ms C) ∧ (¬ (x1 < 0) → ((x1 < (C 5 0)) → post C) ∧ (¬ (x1 < (C 5 0)) → u_A_requirePerson_j15 post px mc ms C))
set_option maxRecDepth 100000 in
theorem lc_A_requirePerson {e0 : Nat} {M0 : zM} {own : Nat → Prop} {x : Nat} {Z : Zc} {nn : Nat → Nat} {post : Sm → Prop} {po : zM → Prop} {px : String → Sm → Prop} {pxo : String → zM → Prop} {mc ms : Nat} {M : zM} {C : Sm} {x1 : Int32} (hR : RCx e0 M0 own M Z C x nn) (hv : u_A_requirePerson post px mc ms C x1) (hp : ∀ (M : zM) (C : Sm), RCx e0 M0 own M Z C x nn → post C → po M) (hpx : ∀ (E : String) (M : zM) (C : Sm), RCx e0 M0 own M Z C x nn → px E C → pxo E M) : w_A_requirePerson e0 po pxo mc ms M x x1 := by
  refine ⟨fun hq => ?_, fun hq => ?_⟩
  · have hv := hv.1 hq
    exact lc_A_requirePerson_j15 hp hpx  _ _ _ _ hR hv
  · have hv := hv.2 hq
    refine cx_gr9 hR rfl ?_
    refine ⟨cx_isL hR (by decide), ?_⟩
    refine cx_size hR (by decide) ?_
    refine ⟨fun hq => ?_, fun hq => ?_⟩
    · have hv := hv.1 hq
      exact hp _ _ hR hv
    · have hv := hv.2 hq
      exact lc_A_requirePerson_j15 hp hpx  _ _ _ _ hR hv
def u_A_personOf (post : Nat → Sm → Prop) (px : String → Sm → Prop) (mc : Nat) (ms : Nat) (C : Sm) (x1 : Int32) : Prop := ∃ mc2 ms3 : Nat, mc2 ≤ mc ∧ ms3 ≤ ms ∧ u_A_requirePerson (fun C1 => aGT C1 1 x1 (fun i5 => post i5 C1)) px mc2 ms3 C x1
set_option maxRecDepth 100000 in
theorem lc_A_personOf {e0 : Nat} {M0 : zM} {own : Nat → Prop} {x : Nat} {Z : Zc} {nn : Nat → Nat} {post : Nat → Sm → Prop} {po : Option Nat → zM → Prop} {px : String → Sm → Prop} {pxo : String → zM → Prop} {mc ms : Nat} {M : zM} {C : Sm} {x1 : Int32} (hR : RCx e0 M0 own M Z C x nn) (hv : u_A_personOf post px mc ms C x1) (hp : ∀ (r : Nat) (M : zM) (C : Sm), RCx e0 M0 own M Z C x nn → r < nn 1 → post r C → po (some (Z.1 2 r)) M) (hpx : ∀ (E : String) (M : zM) (C : Sm), RCx e0 M0 own M Z C x nn → px E C → pxo E M) : w_A_personOf e0 po pxo mc ms M x x1 := by
  refine ⟨cx_is9 hR, ?_⟩
  obtain ⟨mc2, ms3, hba, hbb, hv⟩ := hv
  refine ⟨mc2, ms3, hba, hbb, ?_⟩
  refine lc_A_requirePerson hR  hv (fun M C19 hR hv => ?_) hpx
  refine cx_gr9 hR rfl ?_
  obtain ⟨hi9, hv⟩ := hv
  have hn4 := (by rw [← hR.2.2 1 (by decide)]; exact vp_in_lt hi9 : (x1).toNatClampNeg < nn 1)
  refine ⟨cx_isL hR (by decide), ?_⟩
  refine cx_get hR (by decide) (by rw [← hR.2.2 1 (by decide)]; exact hi9) ?_
  refine ⟨_, rfl, ?_⟩
  refine ⟨cx_isP hR hn4, ?_⟩
  exact hp _ _ _ hR hn4 hv
def u_A_way_j16 (post : Int32 → Sm → Prop) (px : String → Sm → Prop) (mc : Nat) (ms : Nat) (C : Sm) : Prop := 1 ≤ mc ∧ 6 ≤ ms ∧ px "java/lang/IndexOutOfBoundsException" C
set_option maxRecDepth 100000 in
theorem lc_A_way_j16 {e0 : Nat} {M0 : zM} {own : Nat → Prop} {x : Nat} {Z : Zc} {nn : Nat → Nat} {post : Int32 → Sm → Prop} {po : Int32 → zM → Prop} {px : String → Sm → Prop} {pxo : String → zM → Prop} (hp : ∀ (r : Int32) (M : zM) (C : Sm), RCx e0 M0 own M Z C x nn → post r C → po r M) (hpx : ∀ (E : String) (M : zM) (C : Sm), RCx e0 M0 own M Z C x nn → px E C → pxo E M) : ∀ (mc : Nat) (ms : Nat) (M : zM) (C : Sm) , RCx e0 M0 own M Z C x nn → u_A_way_j16 post px  mc ms C  → w_A_way_j16 e0 po pxo  mc ms M  := by
  intro mc ms M C hR hv
  exact ⟨hv.1, hv.2.1, hpx _ _ _ hR hv.2.2⟩
def u_A_way (post : Int32 → Sm → Prop) (px : String → Sm → Prop) (mc : Nat) (ms : Nat) (C : Sm) (x1 : Int32) (x2 : Int32) (x3 : Int32) : Prop := ∃ mc2 ms3 : Nat, mc2 ≤ mc ∧ ms3 ≤ ms ∧ u_A_personOf (fun i4 C1 => ((x2 < 0) → u_A_way_j16 post px (mc - mc2) (ms - ms3) C1) ∧ (¬ (x2 < 0) → ((x2 < 3) → u_P_setWay (fun C6 => post (C6 23 i4) C6) C1 i4 x2 x3) ∧ (¬ (x2 < 3) → u_A_way_j16 post px (mc - mc2) (ms - ms3) C1))) px mc2 ms3 C x1
set_option maxRecDepth 100000 in
theorem lc_A_way {e0 : Nat} {M0 : zM} {own : Nat → Prop} {x : Nat} {Z : Zc} {nn : Nat → Nat} {post : Int32 → Sm → Prop} {po : Int32 → zM → Prop} {px : String → Sm → Prop} {pxo : String → zM → Prop} {mc ms : Nat} {M : zM} {C : Sm} {x1 : Int32} {x2 : Int32} {x3 : Int32} (hR : RCx e0 M0 own M Z C x nn) (hv : u_A_way post px mc ms C x1 x2 x3) (hp : ∀ (r : Int32) (M : zM) (C : Sm), RCx e0 M0 own M Z C x nn → post r C → po r M) (hpx : ∀ (E : String) (M : zM) (C : Sm), RCx e0 M0 own M Z C x nn → px E C → pxo E M) : w_A_way e0 po pxo mc ms M x x1 x2 x3 := by
  refine ⟨cx_is9 hR, ?_⟩
  obtain ⟨mc2, ms3, hba, hbb, hv⟩ := hv
  refine ⟨mc2, ms3, hba, hbb, ?_⟩
  refine lc_A_personOf hR  hv (fun i4 M C19 hR hn5 hv => ?_) hpx
  refine ⟨_, rfl, ?_⟩
  refine ⟨fun hq => ?_, fun hq => ?_⟩
  · have hv := hv.1 hq
    exact lc_A_way_j16 hp hpx  _ _ _ _ hR hv
  · have hv := hv.2 hq
    refine ⟨fun hq => ?_, fun hq => ?_⟩
    · have hv := hv.1 hq
      refine ⟨cx_isP hR hn5, ?_⟩
      refine lc_P_setWay hR hn5 hv (fun M C69 hR hv => ?_)
      refine cx_giP hR hn5 rfl ?_
      exact hp _ _ _ hR hv
    · have hv := hv.2 hq
      exact lc_A_way_j16 hp hpx  _ _ _ _ hR hv
def u_A_is_j15 (post : Sm → Prop) (px : String → Sm → Prop) (mc : Nat) (ms : Nat) (C : Sm) : Prop := 1 ≤ mc ∧ 6 ≤ ms ∧ px "java/lang/IndexOutOfBoundsException" C
set_option maxRecDepth 100000 in
theorem lc_A_is_j15 {e0 : Nat} {M0 : zM} {own : Nat → Prop} {x : Nat} {Z : Zc} {nn : Nat → Nat} {post : Sm → Prop} {po : zM → Prop} {px : String → Sm → Prop} {pxo : String → zM → Prop} (hp : ∀ (M : zM) (C : Sm), RCx e0 M0 own M Z C x nn → post C → po M) (hpx : ∀ (E : String) (M : zM) (C : Sm), RCx e0 M0 own M Z C x nn → px E C → pxo E M) : ∀ (mc : Nat) (ms : Nat) (M : zM) (C : Sm) , RCx e0 M0 own M Z C x nn → u_A_is_j15 post px  mc ms C  → w_A_is_j15 e0 po pxo  mc ms M  := by
  intro mc ms M C hR hv
  exact ⟨hv.1, hv.2.1, hpx _ _ _ hR hv.2.2⟩
def u_A_is (post : Sm → Prop) (px : String → Sm → Prop) (mc : Nat) (ms : Nat) (C : Sm) (x1 : Int32) (x2 : Int32) : Prop := ∃ mc2 ms3 : Nat, mc2 ≤ mc ∧ ms3 ≤ ms ∧ u_A_personOf (fun i4 C1 => ((x2 < 0) → u_A_is_j15 post px (mc - mc2) (ms - ms3) C1) ∧ (¬ (x2 < 0) → ((x2 ≤ 2) → aW C1 24 i4 x2 (fun C6 => post C6)) ∧ (¬ (x2 ≤ 2) → u_A_is_j15 post px (mc - mc2) (ms - ms3) C1))) px mc2 ms3 C x1
set_option maxRecDepth 100000 in
theorem lc_A_is {e0 : Nat} {M0 : zM} {own : Nat → Prop} {x : Nat} {Z : Zc} {nn : Nat → Nat} {post : Sm → Prop} {po : zM → Prop} {px : String → Sm → Prop} {pxo : String → zM → Prop} {mc ms : Nat} {M : zM} {C : Sm} {x1 : Int32} {x2 : Int32} (hR : RCx e0 M0 own M Z C x nn) (hv : u_A_is post px mc ms C x1 x2) (hp : ∀ (M : zM) (C : Sm), RCx e0 M0 own M Z C x nn → post C → po M) (hpx : ∀ (E : String) (M : zM) (C : Sm), RCx e0 M0 own M Z C x nn → px E C → pxo E M) : w_A_is e0 po pxo mc ms M x x1 x2 := by
  refine ⟨cx_is9 hR, ?_⟩
  obtain ⟨mc2, ms3, hba, hbb, hv⟩ := hv
  refine ⟨mc2, ms3, hba, hbb, ?_⟩
  refine lc_A_personOf hR  hv (fun i4 M C19 hR hn5 hv => ?_) hpx
  refine ⟨_, rfl, ?_⟩
  refine ⟨fun hq => ?_, fun hq => ?_⟩
  · have hv := hv.1 hq
    exact lc_A_is_j15 hp hpx  _ _ _ _ hR hv
  · have hv := hv.2 hq
    refine ⟨fun hq => ?_, fun hq => ?_⟩
    · have hv := hv.1 hq
      refine cx_pP hR hn5 (by decide) (fun M hR => ?_)
      exact hp _ _ hR hv
    · have hv := hv.2 hq
      exact lc_A_is_j15 hp hpx  _ _ _ _ hR hv
def u_A_wouldAskSomebody_j2 (post : Int32 → Sm → Prop) : Nat → Sm → Int32 → Int32 → Int32 → Prop
  | 0 => fun _ _ _ _ => False
  | n + 1 => fun C l1 l2 l3 => (((C 5 0) ≤ l3) → post 0 C) ∧ (¬ ((C 5 0) ≤ l3) → aGT C 1 l3 (fun i2 => u_P_wouldBeAsked (fun r4 C3 => ((r4 = 0) → u_A_wouldAskSomebody_j2 post n C3 l1 l2 (l3 + 1)) ∧ (¬ (r4 = 0) → post 1 C3)) C i2 l1 l2))
set_option maxRecDepth 100000 in
theorem lc_A_wouldAskSomebody_j2 {e0 : Nat} {M0 : zM} {own : Nat → Prop} {x : Nat} {Z : Zc} {nn : Nat → Nat} {post : Int32 → Sm → Prop} {po : Int32 → zM → Prop} (hp : ∀ (r : Int32) (M : zM) (C : Sm), RCx e0 M0 own M Z C x nn → post r C → po r M) : ∀ n : Nat, ∀  (M : zM) (C : Sm) (l1 : Int32) (l2 : Int32) (l3 : Int32), RCx e0 M0 own M Z C x nn → u_A_wouldAskSomebody_j2 post  n  C l1 l2 l3 → w_A_wouldAskSomebody_j2 e0 po  n  M x l1 l2 l3 := by
  intro n
  induction n with
  | zero => intro M C l1 l2 l3 hR hv; exact hv.elim
  | succ n ih =>
    intro M C l1 l2 l3 hR hv
    refine cx_gr9 hR rfl ?_
    refine ⟨cx_isL hR (by decide), ?_⟩
    refine cx_size hR (by decide) ?_
    refine ⟨fun hq => ?_, fun hq => ?_⟩
    · have hv := hv.1 hq
      exact hp _ _ _ hR hv
    · have hv := hv.2 hq
      refine cx_gr9 hR rfl ?_
      obtain ⟨hi9, hv⟩ := hv
      have hn1 := (by rw [← hR.2.2 1 (by decide)]; exact vp_in_lt hi9 : (l3).toNatClampNeg < nn 1)
      refine ⟨cx_isL hR (by decide), ?_⟩
      refine cx_get hR (by decide) (by rw [← hR.2.2 1 (by decide)]; exact hi9) ?_
      refine ⟨_, rfl, ?_⟩
      refine ⟨cx_isP hR hn1, ?_⟩
      refine ⟨cx_isP hR hn1, ?_⟩
      refine lc_P_wouldBeAsked hR hn1 hv (fun r4 M C39 hR hv => ?_)
      refine ⟨fun hq => ?_, fun hq => ?_⟩
      · have hv := hv.1 hq
        exact ih _ _ _ _ _ hR hv
      · have hv := hv.2 hq
        exact hp _ _ _ hR hv
def u_A_wouldAskSomebody (post : Int32 → Sm → Prop) (C : Sm) (x1 : Int32) (x2 : Int32) : Prop := ∃ nn9, u_A_wouldAskSomebody_j2 post nn9 C x1 x2 0
set_option maxRecDepth 100000 in
theorem lc_A_wouldAskSomebody {e0 : Nat} {M0 : zM} {own : Nat → Prop} {x : Nat} {Z : Zc} {nn : Nat → Nat} {post : Int32 → Sm → Prop} {po : Int32 → zM → Prop} {M : zM} {C : Sm} {x1 : Int32} {x2 : Int32} (hR : RCx e0 M0 own M Z C x nn) (hv : u_A_wouldAskSomebody post  C x1 x2) (hp : ∀ (r : Int32) (M : zM) (C : Sm), RCx e0 M0 own M Z C x nn → post r C → po r M) : w_A_wouldAskSomebody e0 po  M x x1 x2 := by
  obtain ⟨nfu, hv⟩ := hv
  exact ⟨nfu, lc_A_wouldAskSomebody_j2 hp  nfu _ _ _ _ _ hR hv⟩
def u_A_alarm (post : Int32 → Sm → Prop) (px : String → Sm → Prop) (mc : Nat) (ms : Nat) (C : Sm) (x1 : Int32) (x2 : Int32) : Prop := ∃ mc2 ms3 : Nat, mc2 ≤ mc ∧ ms3 ≤ ms ∧ u_A_requireGroup (fun C1 => u_A_wouldAskSomebody (fun r5 C4 => ((r5 = 0) → 1 ≤ (mc - mc2) ∧ 6 ≤ (ms - ms3) ∧ px "java/lang/IllegalStateException" C4) ∧ (¬ (r5 = 0) → (((C4 6 0) < 60) → ∃ mc7 ms8 : Nat, mc7 ≤ (mc - mc2) ∧ ms8 ≤ (ms - ms3) ∧ u_A_raise (fun C6 => post ((C6 6 0) - 1) C6) px mc7 ms8 C4 x1 x2 (-1)) ∧ (¬ ((C4 6 0) < 60) → 1 ≤ (mc - mc2) ∧ 6 ≤ (ms - ms3) ∧ px "java/lang/UnsupportedOperationException" C4))) C1 x1 x2) px mc2 ms3 C x1
set_option maxRecDepth 100000 in
theorem lc_A_alarm {e0 : Nat} {M0 : zM} {own : Nat → Prop} {x : Nat} {post : Int32 → Sm → Prop} {po : Int32 → zM → Prop} {px : String → Sm → Prop} {pxo : String → zM → Prop} {mc ms : Nat} {Z : Zc} {nn : Nat → Nat} {M : zM} {C : Sm} {x1 : Int32} {x2 : Int32} (hR : RCx e0 M0 own M Z C x nn) (hv : u_A_alarm post px mc ms C x1 x2) (hp : ∀ (r : Int32) (M : zM) (Z : Zc) (C : Sm) (nn : Nat → Nat), RCx e0 M0 own M Z C x nn → post r C → po r M) (hpx : ∀ (E : String) (M : zM) (Z : Zc) (C : Sm) (nn : Nat → Nat), RCx e0 M0 own M Z C x nn → px E C → pxo E M) : w_A_alarm e0 po pxo mc ms M x x1 x2 := by
  refine ⟨cx_is9 hR, ?_⟩
  obtain ⟨mc2, ms3, hba, hbb, hv⟩ := hv
  refine ⟨mc2, ms3, hba, hbb, ?_⟩
  refine lc_A_requireGroup hR  hv (fun M C19 hR hv => ?_) (fun E M C hR hv => hpx E M _ C _ hR hv)
  refine ⟨cx_is9 hR, ?_⟩
  refine lc_A_wouldAskSomebody hR  hv (fun r5 M C49 hR hv => ?_)
  refine ⟨fun hq => ?_, fun hq => ?_⟩
  · have hv := hv.1 hq
    exact ⟨hv.1, hv.2.1, hpx _ _ _ _ _ hR hv.2.2⟩
  · have hv := hv.2 hq
    refine cx_gr9 hR rfl ?_
    refine ⟨cx_isL hR (by decide), ?_⟩
    refine cx_size hR (by decide) ?_
    refine ⟨fun hq => ?_, fun hq => ?_⟩
    · have hv := hv.1 hq
      refine ⟨cx_is9 hR, ?_⟩
      obtain ⟨mc7, ms8, hba, hbb, hv⟩ := hv
      refine ⟨mc7, ms8, hba, hbb, ?_⟩
      refine lc_A_raise hR  hv (fun M Z C69 nn hR hv => ?_) hpx
      refine cx_gr9 hR rfl ?_
      refine ⟨cx_isL hR (by decide), ?_⟩
      refine cx_size hR (by decide) ?_
      exact hp _ _ _ _ _ hR hv
    · have hv := hv.2 hq
      exact ⟨hv.1, hv.2.1, hpx _ _ _ _ _ hR hv.2.2⟩
def u_A_requireAlarm_j15 (post : Sm → Prop) (px : String → Sm → Prop) (mc : Nat) (ms : Nat) (C : Sm) : Prop := 1 ≤ mc ∧ 6 ≤ ms ∧ px "java/lang/IllegalArgumentException" C
set_option maxRecDepth 100000 in
theorem lc_A_requireAlarm_j15 {e0 : Nat} {M0 : zM} {own : Nat → Prop} {x : Nat} {Z : Zc} {nn : Nat → Nat} {post : Sm → Prop} {po : zM → Prop} {px : String → Sm → Prop} {pxo : String → zM → Prop} (hp : ∀ (M : zM) (C : Sm), RCx e0 M0 own M Z C x nn → post C → po M) (hpx : ∀ (E : String) (M : zM) (C : Sm), RCx e0 M0 own M Z C x nn → px E C → pxo E M) : ∀ (mc : Nat) (ms : Nat) (M : zM) (C : Sm) , RCx e0 M0 own M Z C x nn → u_A_requireAlarm_j15 post px  mc ms C  → w_A_requireAlarm_j15 e0 po pxo  mc ms M  := by
  intro mc ms M C hR hv
  exact ⟨hv.1, hv.2.1, hpx _ _ _ hR hv.2.2⟩
def u_A_requireAlarm (post : Sm → Prop) (px : String → Sm → Prop) (mc : Nat) (ms : Nat) (C : Sm) (x1 : Int32) : Prop := ((x1 < 0) → u_A_requireAlarm_j15 post px mc ms C) ∧ (¬ (x1 < 0) → ((x1 < (C 6 0)) → post C) ∧ (¬ (x1 < (C 6 0)) → u_A_requireAlarm_j15 post px mc ms C))
set_option maxRecDepth 100000 in
theorem lc_A_requireAlarm {e0 : Nat} {M0 : zM} {own : Nat → Prop} {x : Nat} {Z : Zc} {nn : Nat → Nat} {post : Sm → Prop} {po : zM → Prop} {px : String → Sm → Prop} {pxo : String → zM → Prop} {mc ms : Nat} {M : zM} {C : Sm} {x1 : Int32} (hR : RCx e0 M0 own M Z C x nn) (hv : u_A_requireAlarm post px mc ms C x1) (hp : ∀ (M : zM) (C : Sm), RCx e0 M0 own M Z C x nn → post C → po M) (hpx : ∀ (E : String) (M : zM) (C : Sm), RCx e0 M0 own M Z C x nn → px E C → pxo E M) : w_A_requireAlarm e0 po pxo mc ms M x x1 := by
  refine ⟨fun hq => ?_, fun hq => ?_⟩
  · have hv := hv.1 hq
    exact lc_A_requireAlarm_j15 hp hpx  _ _ _ _ hR hv
  · have hv := hv.2 hq
    refine cx_gr9 hR rfl ?_
    refine ⟨cx_isL hR (by decide), ?_⟩
    refine cx_size hR (by decide) ?_
    refine ⟨fun hq => ?_, fun hq => ?_⟩
    · have hv := hv.1 hq
      exact hp _ _ hR hv
    · have hv := hv.2 hq
      exact lc_A_requireAlarm_j15 hp hpx  _ _ _ _ hR hv
def u_A_alarmOf (post : Nat → Sm → Prop) (px : String → Sm → Prop) (mc : Nat) (ms : Nat) (C : Sm) (x1 : Int32) : Prop := ∃ mc2 ms3 : Nat, mc2 ≤ mc ∧ ms3 ≤ ms ∧ u_A_requireAlarm (fun C1 => aGT C1 2 x1 (fun i5 => post i5 C1)) px mc2 ms3 C x1
set_option maxRecDepth 100000 in
theorem lc_A_alarmOf {e0 : Nat} {M0 : zM} {own : Nat → Prop} {x : Nat} {Z : Zc} {nn : Nat → Nat} {post : Nat → Sm → Prop} {po : Option Nat → zM → Prop} {px : String → Sm → Prop} {pxo : String → zM → Prop} {mc ms : Nat} {M : zM} {C : Sm} {x1 : Int32} (hR : RCx e0 M0 own M Z C x nn) (hv : u_A_alarmOf post px mc ms C x1) (hp : ∀ (r : Nat) (M : zM) (C : Sm), RCx e0 M0 own M Z C x nn → r < nn 2 → post r C → po (some (Z.1 5 r)) M) (hpx : ∀ (E : String) (M : zM) (C : Sm), RCx e0 M0 own M Z C x nn → px E C → pxo E M) : w_A_alarmOf e0 po pxo mc ms M x x1 := by
  refine ⟨cx_is9 hR, ?_⟩
  obtain ⟨mc2, ms3, hba, hbb, hv⟩ := hv
  refine ⟨mc2, ms3, hba, hbb, ?_⟩
  refine lc_A_requireAlarm hR  hv (fun M C19 hR hv => ?_) hpx
  refine cx_gr9 hR rfl ?_
  obtain ⟨hi9, hv⟩ := hv
  have hn4 := (by rw [← hR.2.2 2 (by decide)]; exact vp_in_lt hi9 : (x1).toNatClampNeg < nn 2)
  refine ⟨cx_isL hR (by decide), ?_⟩
  refine cx_get hR (by decide) (by rw [← hR.2.2 2 (by decide)]; exact hi9) ?_
  refine ⟨_, rfl, ?_⟩
  refine ⟨cx_isA hR hn4, ?_⟩
  exact hp _ _ _ hR hn4 hv
def u_A_noteLate_j68 (post : Int32 → Sm → Prop) (K10 : Sm → Int32 → Int32 → Int32 → Prop) (C : Sm) (l1 : Int32) (l2 : Int32) (l3 : Int32) : Prop := K10 C l1 l2 (l3 + (-1))
set_option maxRecDepth 100000 in
theorem lc_A_noteLate_j68 {e0 : Nat} {M0 : zM} {own : Nat → Prop} {x : Nat} {Z : Zc} {nn : Nat → Nat} {post : Int32 → Sm → Prop} {po : Int32 → zM → Prop} (hp : ∀ (r : Int32) (M : zM) (C : Sm), RCx e0 M0 own M Z C x nn → post r C → po r M) {K10 : Sm → Int32 → Int32 → Int32 → Prop} {C10 : zM → Nat → Int32 → Int32 → Int32 → Prop} (hK10 : ∀  (M : zM) (C : Sm) (l1 : Int32) (l2 : Int32) (l3 : Int32), RCx e0 M0 own M Z C x nn → K10  C l1 l2 l3 → C10  M x l1 l2 l3) : ∀  (M : zM) (C : Sm) (l1 : Int32) (l2 : Int32) (l3 : Int32), RCx e0 M0 own M Z C x nn → u_A_noteLate_j68 post K10  C l1 l2 l3 → w_A_noteLate_j68 e0 po C10  M x l1 l2 l3 := by
  intro M C l1 l2 l3 hR hv
  exact hK10 _ _ _ _ _ hR hv
def u_A_noteLate_j10 (post : Int32 → Sm → Prop) : Nat → Sm → Int32 → Int32 → Int32 → Prop
  | 0 => fun _ _ _ _ => False
  | n + 1 => fun C l1 l2 l3 => ((l3 < 0) → post 3 C) ∧ (¬ (l3 < 0) → aGT C 2 l3 (fun i2 => (((C 37 i2) = 0) → u_L_hasAsked (fun r4 C3 => ((r4 = 0) → u_A_noteLate_j68 post (u_A_noteLate_j10 post n) C3 l1 l2 l3) ∧ (¬ (r4 = 0) → u_L_hasReachedBy (fun r6 C5 => ((r6 = 0) → post 3 C5) ∧ (¬ (r6 = 0) → u_L_note (fun C7 => post 2 C7) C5 i2 l1 l2)) C3 i2 (C3 0 0) l1)) C i2 l1) ∧ (¬ ((C 37 i2) = 0) → u_A_noteLate_j68 post (u_A_noteLate_j10 post n) C l1 l2 l3)))
set_option maxRecDepth 100000 in
theorem lc_A_noteLate_j10 {e0 : Nat} {M0 : zM} {own : Nat → Prop} {x : Nat} {Z : Zc} {nn : Nat → Nat} {post : Int32 → Sm → Prop} {po : Int32 → zM → Prop} (hp : ∀ (r : Int32) (M : zM) (C : Sm), RCx e0 M0 own M Z C x nn → post r C → po r M) : ∀ n : Nat, ∀  (M : zM) (C : Sm) (l1 : Int32) (l2 : Int32) (l3 : Int32), RCx e0 M0 own M Z C x nn → u_A_noteLate_j10 post  n  C l1 l2 l3 → w_A_noteLate_j10 e0 po  n  M x l1 l2 l3 := by
  intro n
  induction n with
  | zero => intro M C l1 l2 l3 hR hv; exact hv.elim
  | succ n ih =>
    intro M C l1 l2 l3 hR hv
    refine ⟨fun hq => ?_, fun hq => ?_⟩
    · have hv := hv.1 hq
      exact hp _ _ _ hR hv
    · have hv := hv.2 hq
      refine cx_gr9 hR rfl ?_
      obtain ⟨hi9, hv⟩ := hv
      have hn1 := (by rw [← hR.2.2 2 (by decide)]; exact vp_in_lt hi9 : (l3).toNatClampNeg < nn 2)
      refine ⟨cx_isL hR (by decide), ?_⟩
      refine cx_get hR (by decide) (by rw [← hR.2.2 2 (by decide)]; exact hi9) ?_
      refine ⟨_, rfl, ?_⟩
      refine ⟨cx_isA hR hn1, ?_⟩
      refine cx_giA hR hn1 rfl ?_
      refine ⟨fun hq => ?_, fun hq => ?_⟩
      · have hv := hv.1 hq
        refine ⟨cx_isA hR hn1, ?_⟩
        refine lc_L_hasAsked hR hn1 hv (fun r4 M C39 hR hv => ?_)
        refine ⟨fun hq => ?_, fun hq => ?_⟩
        · have hv := hv.1 hq
          exact lc_A_noteLate_j68 hp ih _ _ _ _ _ hR hv
        · have hv := hv.2 hq
          refine cx_gi9 hR rfl ?_
          refine ⟨cx_isA hR hn1, ?_⟩
          refine lc_L_hasReachedBy hR hn1 hv (fun r6 M C59 hR hv => ?_)
          refine ⟨fun hq => ?_, fun hq => ?_⟩
          · have hv := hv.1 hq
            exact hp _ _ _ hR hv
          · have hv := hv.2 hq
            refine ⟨cx_isA hR hn1, ?_⟩
            refine lc_L_note hR hn1 hv (fun M C79 hR hv => ?_)
            exact hp _ _ _ hR hv
      · have hv := hv.2 hq
        exact lc_A_noteLate_j68 hp ih _ _ _ _ _ hR hv
def u_A_noteLate (post : Int32 → Sm → Prop) (C : Sm) (x1 : Int32) (x2 : Int32) : Prop := ∃ nn9, u_A_noteLate_j10 post nn9 C x1 x2 ((C 6 0) - 1)
set_option maxRecDepth 100000 in
theorem lc_A_noteLate {e0 : Nat} {M0 : zM} {own : Nat → Prop} {x : Nat} {Z : Zc} {nn : Nat → Nat} {post : Int32 → Sm → Prop} {po : Int32 → zM → Prop} {M : zM} {C : Sm} {x1 : Int32} {x2 : Int32} (hR : RCx e0 M0 own M Z C x nn) (hv : u_A_noteLate post  C x1 x2) (hp : ∀ (r : Int32) (M : zM) (C : Sm), RCx e0 M0 own M Z C x nn → post r C → po r M) : w_A_noteLate e0 po  M x x1 x2 := by
  refine cx_gr9 hR rfl ?_
  refine ⟨cx_isL hR (by decide), ?_⟩
  refine cx_size hR (by decide) ?_
  obtain ⟨nfu, hv⟩ := hv
  exact ⟨nfu, lc_A_noteLate_j10 hp  nfu _ _ _ _ _ hR hv⟩
def u_A_answer_j23 (post : Int32 → Sm → Prop) (px : String → Sm → Prop) (mc : Nat) (ms : Nat) (C : Sm) : Prop := 1 ≤ mc ∧ 6 ≤ ms ∧ px "java/lang/IndexOutOfBoundsException" C
set_option maxRecDepth 100000 in
theorem lc_A_answer_j23 {e0 : Nat} {M0 : zM} {own : Nat → Prop} {x : Nat} {Z : Zc} {nn : Nat → Nat} {post : Int32 → Sm → Prop} {po : Int32 → zM → Prop} {px : String → Sm → Prop} {pxo : String → zM → Prop} (hp : ∀ (r : Int32) (M : zM) (C : Sm), RCx e0 M0 own M Z C x nn → post r C → po r M) (hpx : ∀ (E : String) (M : zM) (C : Sm), RCx e0 M0 own M Z C x nn → px E C → pxo E M) : ∀ (mc : Nat) (ms : Nat) (M : zM) (C : Sm) , RCx e0 M0 own M Z C x nn → u_A_answer_j23 post px  mc ms C  → w_A_answer_j23 e0 po pxo  mc ms M  := by
  intro mc ms M C hR hv
  exact ⟨hv.1, hv.2.1, hpx _ _ _ hR hv.2.2⟩
def u_A_answer (post : Int32 → Sm → Prop) (px : String → Sm → Prop) (mc : Nat) (ms : Nat) (C : Sm) (x1 : Int32) (x2 : Int32) (x3 : Int32) : Prop := ∃ mc2 ms3 : Nat, mc2 ≤ mc ∧ ms3 ≤ ms ∧ u_A_alarmOf (fun i4 C1 => ∃ mc7 ms8 : Nat, mc7 ≤ (mc - mc2) ∧ ms8 ≤ (ms - ms3) ∧ u_A_requirePerson (fun C6 => ((x3 < (-1)) → u_A_answer_j23 post px ((mc - mc2) - mc7) ((ms - ms3) - ms8) C6) ∧ (¬ (x3 < (-1)) → ((x3 ≤ 120) → u_L_hasReached (fun r10 C9 => ((r10 = 0) → 1 ≤ ((mc - mc2) - mc7) ∧ 6 ≤ ((ms - ms3) - ms8) ∧ px "java/lang/IllegalStateException" C9) ∧ (¬ (r10 = 0) → u_L_hasReachedBy (fun r12 C11 => ((r12 = 0) → aW C11 2 0 ((C11 2 0) + 1) (fun C17 => post 4 C17)) ∧ (¬ (r12 = 0) → (((C11 37 i4) = 0) → u_L_note (fun C16 => post 1 C16) C11 i4 x2 x3) ∧ (¬ ((C11 37 i4) = 0) → aW C11 1 0 ((C11 1 0) + 1) (fun C13 => u_A_noteLate (fun r15 C14 => post r15 C14) C13 x2 x3)))) C9 i4 (C9 0 0) x2)) C6 i4 x2) ∧ (¬ (x3 ≤ 120) → u_A_answer_j23 post px ((mc - mc2) - mc7) ((ms - ms3) - ms8) C6))) px mc7 ms8 C1 x2) px mc2 ms3 C x1
set_option maxRecDepth 100000 in
theorem lc_A_answer {e0 : Nat} {M0 : zM} {own : Nat → Prop} {x : Nat} {Z : Zc} {nn : Nat → Nat} {post : Int32 → Sm → Prop} {po : Int32 → zM → Prop} {px : String → Sm → Prop} {pxo : String → zM → Prop} {mc ms : Nat} {M : zM} {C : Sm} {x1 : Int32} {x2 : Int32} {x3 : Int32} (hR : RCx e0 M0 own M Z C x nn) (hv : u_A_answer post px mc ms C x1 x2 x3) (hp : ∀ (r : Int32) (M : zM) (C : Sm), RCx e0 M0 own M Z C x nn → post r C → po r M) (hpx : ∀ (E : String) (M : zM) (C : Sm), RCx e0 M0 own M Z C x nn → px E C → pxo E M) : w_A_answer e0 po pxo mc ms M x x1 x2 x3 := by
  refine ⟨cx_is9 hR, ?_⟩
  obtain ⟨mc2, ms3, hba, hbb, hv⟩ := hv
  refine ⟨mc2, ms3, hba, hbb, ?_⟩
  refine lc_A_alarmOf hR  hv (fun i4 M C19 hR hn5 hv => ?_) hpx
  refine ⟨_, rfl, ?_⟩
  refine ⟨cx_is9 hR, ?_⟩
  obtain ⟨mc7, ms8, hba, hbb, hv⟩ := hv
  refine ⟨mc7, ms8, hba, hbb, ?_⟩
  refine lc_A_requirePerson hR  hv (fun M C69 hR hv => ?_) hpx
  refine ⟨fun hq => ?_, fun hq => ?_⟩
  · have hv := hv.1 hq
    exact lc_A_answer_j23 hp hpx  _ _ _ _ hR hv
  · have hv := hv.2 hq
    refine ⟨fun hq => ?_, fun hq => ?_⟩
    · have hv := hv.1 hq
      refine ⟨cx_isA hR hn5, ?_⟩
      refine lc_L_hasReached hR hn5 hv (fun r10 M C99 hR hv => ?_)
      refine ⟨fun hq => ?_, fun hq => ?_⟩
      · have hv := hv.1 hq
        exact ⟨hv.1, hv.2.1, hpx _ _ _ hR hv.2.2⟩
      · have hv := hv.2 hq
        refine cx_gi9 hR rfl ?_
        refine ⟨cx_isA hR hn5, ?_⟩
        refine lc_L_hasReachedBy hR hn5 hv (fun r12 M C119 hR hv => ?_)
        refine ⟨fun hq => ?_, fun hq => ?_⟩
        · have hv := hv.1 hq
          refine cx_gi9 hR rfl ?_
          refine cx_p9 hR (by decide) (fun M hR => ?_)
          exact hp _ _ _ hR hv
        · have hv := hv.2 hq
          refine cx_giA hR hn5 rfl ?_
          refine ⟨fun hq => ?_, fun hq => ?_⟩
          · have hv := hv.1 hq
            refine ⟨cx_isA hR hn5, ?_⟩
            refine lc_L_note hR hn5 hv (fun M C169 hR hv => ?_)
            exact hp _ _ _ hR hv
          · have hv := hv.2 hq
            refine cx_gi9 hR rfl ?_
            refine cx_p9 hR (by decide) (fun M hR => ?_)
            refine ⟨cx_is9 hR, ?_⟩
            refine lc_A_noteLate hR  hv (fun r15 M C149 hR hv => ?_)
            exact hp _ _ _ hR hv
    · have hv := hv.2 hq
      exact lc_A_answer_j23 hp hpx  _ _ _ _ hR hv
def u_A_firstDue_j61 (post : Int32 → Sm → Prop) (K9 : Sm → Int32 → Int32 → Int32 → Prop) (C : Sm) (l2 : Int32) (l3 : Int32) (l4 : Int32) : Prop := K9 C l2 l3 (l4 + 1)
set_option maxRecDepth 100000 in
theorem lc_A_firstDue_j61 {e0 : Nat} {M0 : zM} {own : Nat → Prop} {x : Nat} {Z : Zc} {nn : Nat → Nat} {post : Int32 → Sm → Prop} {po : Int32 → zM → Prop} (hp : ∀ (r : Int32) (M : zM) (C : Sm), RCx e0 M0 own M Z C x nn → post r C → po r M) {K9 : Sm → Int32 → Int32 → Int32 → Prop} {C9 : zM → Nat → Int32 → Int32 → Int32 → Prop} (hK9 : ∀  (M : zM) (C : Sm) (l2 : Int32) (l3 : Int32) (l4 : Int32), RCx e0 M0 own M Z C x nn → K9  C l2 l3 l4 → C9  M x l2 l3 l4) : ∀  (M : zM) (C : Sm) (l2 : Int32) (l3 : Int32) (l4 : Int32), RCx e0 M0 own M Z C x nn → u_A_firstDue_j61 post K9  C l2 l3 l4 → w_A_firstDue_j61 e0 po C9  M x l2 l3 l4 := by
  intro M C l2 l3 l4 hR hv
  exact hK9 _ _ _ _ _ hR hv
def u_A_firstDue_j9 (post : Int32 → Sm → Prop) : Nat → Sm → Int32 → Int32 → Int32 → Prop
  | 0 => fun _ _ _ _ => False
  | n + 1 => fun C l2 l3 l4 => (((C 6 0) ≤ l4) → post l2 C) ∧ (¬ ((C 6 0) ≤ l4) → aGT C 2 l4 (fun i2 => (((C 37 i2) = 0) → ((l3 ≤ (C 33 i2)) → u_A_firstDue_j61 post (u_A_firstDue_j9 post n) C l2 l3 l4) ∧ (¬ (l3 ≤ (C 33 i2)) → u_A_firstDue_j61 post (u_A_firstDue_j9 post n) C l4 (C 33 i2) l4)) ∧ (¬ ((C 37 i2) = 0) → u_A_firstDue_j61 post (u_A_firstDue_j9 post n) C l2 l3 l4)))
set_option maxRecDepth 100000 in
theorem lc_A_firstDue_j9 {e0 : Nat} {M0 : zM} {own : Nat → Prop} {x : Nat} {Z : Zc} {nn : Nat → Nat} {post : Int32 → Sm → Prop} {po : Int32 → zM → Prop} (hp : ∀ (r : Int32) (M : zM) (C : Sm), RCx e0 M0 own M Z C x nn → post r C → po r M) : ∀ n : Nat, ∀  (M : zM) (C : Sm) (l2 : Int32) (l3 : Int32) (l4 : Int32), RCx e0 M0 own M Z C x nn → u_A_firstDue_j9 post  n  C l2 l3 l4 → w_A_firstDue_j9 e0 po  n  M x l2 l3 l4 := by
  intro n
  induction n with
  | zero => intro M C l2 l3 l4 hR hv; exact hv.elim
  | succ n ih =>
    intro M C l2 l3 l4 hR hv
    refine cx_gr9 hR rfl ?_
    refine ⟨cx_isL hR (by decide), ?_⟩
    refine cx_size hR (by decide) ?_
    refine ⟨fun hq => ?_, fun hq => ?_⟩
    · have hv := hv.1 hq
      exact hp _ _ _ hR hv
    · have hv := hv.2 hq
      refine cx_gr9 hR rfl ?_
      obtain ⟨hi9, hv⟩ := hv
      have hn1 := (by rw [← hR.2.2 2 (by decide)]; exact vp_in_lt hi9 : (l4).toNatClampNeg < nn 2)
      refine ⟨cx_isL hR (by decide), ?_⟩
      refine cx_get hR (by decide) (by rw [← hR.2.2 2 (by decide)]; exact hi9) ?_
      refine ⟨_, rfl, ?_⟩
      refine ⟨cx_isA hR hn1, ?_⟩
      refine cx_giA hR hn1 rfl ?_
      refine ⟨fun hq => ?_, fun hq => ?_⟩
      · have hv := hv.1 hq
        refine cx_giA hR hn1 rfl ?_
        refine ⟨fun hq => ?_, fun hq => ?_⟩
        · have hv := hv.1 hq
          exact lc_A_firstDue_j61 hp ih _ _ _ _ _ hR hv
        · have hv := hv.2 hq
          refine cx_giA hR hn1 rfl ?_
          exact lc_A_firstDue_j61 hp ih _ _ _ _ _ hR hv
      · have hv := hv.2 hq
        exact lc_A_firstDue_j61 hp ih _ _ _ _ _ hR hv
def u_A_firstDue (post : Int32 → Sm → Prop) (C : Sm) (x1 : Int32) : Prop := ∃ nn9, u_A_firstDue_j9 post nn9 C (-1) (x1 + 1) 0
set_option maxRecDepth 100000 in
theorem lc_A_firstDue {e0 : Nat} {M0 : zM} {own : Nat → Prop} {x : Nat} {Z : Zc} {nn : Nat → Nat} {post : Int32 → Sm → Prop} {po : Int32 → zM → Prop} {M : zM} {C : Sm} {x1 : Int32} (hR : RCx e0 M0 own M Z C x nn) (hv : u_A_firstDue post  C x1) (hp : ∀ (r : Int32) (M : zM) (C : Sm), RCx e0 M0 own M Z C x nn → post r C → po r M) : w_A_firstDue e0 po  M x x1 := by
  obtain ⟨nfu, hv⟩ := hv
  exact ⟨nfu, lc_A_firstDue_j9 hp  nfu _ _ _ _ _ hR hv⟩
def u_A_addUp_j66 (post : Sm → Prop) (K28 : Sm → Nat → Int32 → Prop) (C : Sm) (l1 : Nat) (l3 : Int32) : Prop := K28 C l1 (l3 + 1)
set_option maxRecDepth 100000 in
theorem lc_A_addUp_j66 {e0 : Nat} {M0 : zM} {own : Nat → Prop} {x : Nat} {Z : Zc} {nn : Nat → Nat} {post : Sm → Prop} {po : zM → Prop} (hp : ∀ (M : zM) (C : Sm), RCx e0 M0 own M Z C x nn → post C → po M) {K28 : Sm → Nat → Int32 → Prop} {C28 : zM → Nat → Nat → Int32 → Prop} (hK28 : ∀  (M : zM) (C : Sm) (l1 : Nat) (l3 : Int32), RCx e0 M0 own M Z C x nn → l1 < nn 2 → K28  C l1 l3 → C28  M x (Z.1 5 l1) l3) : ∀  (M : zM) (C : Sm) (l1 : Nat) (l3 : Int32), RCx e0 M0 own M Z C x nn → l1 < nn 2 → u_A_addUp_j66 post K28  C l1 l3 → w_A_addUp_j66 e0 po C28  M x (Z.1 5 l1) l3 := by
  intro M C l1 l3 hR hl1 hv
  exact hK28 _ _ _ _ hR hl1 hv
def u_A_addUp_j28 (post : Sm → Prop) : Nat → Sm → Nat → Int32 → Prop
  | 0 => fun _ _ _ => False
  | n + 1 => fun C l1 l3 => (((C 5 0) ≤ l3) → post C) ∧ (¬ ((C 5 0) ≤ l3) → u_L_hasAsked (fun r2 C1 => ((r2 = 0) → u_A_addUp_j66 post (u_A_addUp_j28 post n) C1 l1 l3) ∧ (¬ (r2 = 0) → aGT C1 1 l3 (fun i4 => u_L_hasAnswer (fun r6 C5 => u_P_addClosed (fun C7 => u_A_addUp_j66 post (u_A_addUp_j28 post n) C7 l1 l3) C5 i4 r6) C1 l1 l3))) C l1 l3)
set_option maxRecDepth 100000 in
theorem lc_A_addUp_j28 {e0 : Nat} {M0 : zM} {own : Nat → Prop} {x : Nat} {Z : Zc} {nn : Nat → Nat} {post : Sm → Prop} {po : zM → Prop} (hp : ∀ (M : zM) (C : Sm), RCx e0 M0 own M Z C x nn → post C → po M) : ∀ n : Nat, ∀  (M : zM) (C : Sm) (l1 : Nat) (l3 : Int32), RCx e0 M0 own M Z C x nn → l1 < nn 2 → u_A_addUp_j28 post  n  C l1 l3 → w_A_addUp_j28 e0 po  n  M x (Z.1 5 l1) l3 := by
  intro n
  induction n with
  | zero => intro M C l1 l3 hR hl1 hv; exact hv.elim
  | succ n ih =>
    intro M C l1 l3 hR hl1 hv
    refine cx_gr9 hR rfl ?_
    refine ⟨cx_isL hR (by decide), ?_⟩
    refine cx_size hR (by decide) ?_
    refine ⟨fun hq => ?_, fun hq => ?_⟩
    · have hv := hv.1 hq
      exact hp _ _ hR hv
    · have hv := hv.2 hq
      refine ⟨cx_isA hR hl1, ?_⟩
      refine lc_L_hasAsked hR hl1 hv (fun r2 M C19 hR hv => ?_)
      refine ⟨fun hq => ?_, fun hq => ?_⟩
      · have hv := hv.1 hq
        exact lc_A_addUp_j66 hp ih _ _ _ _ hR hl1 hv
      · have hv := hv.2 hq
        refine cx_gr9 hR rfl ?_
        obtain ⟨hi9, hv⟩ := hv
        have hn3 := (by rw [← hR.2.2 1 (by decide)]; exact vp_in_lt hi9 : (l3).toNatClampNeg < nn 1)
        refine ⟨cx_isL hR (by decide), ?_⟩
        refine cx_get hR (by decide) (by rw [← hR.2.2 1 (by decide)]; exact hi9) ?_
        refine ⟨_, rfl, ?_⟩
        refine ⟨cx_isP hR hn3, ?_⟩
        refine ⟨cx_isA hR hl1, ?_⟩
        refine lc_L_hasAnswer hR hl1 hv (fun r6 M C59 hR hv => ?_)
        refine ⟨cx_isP hR hn3, ?_⟩
        refine lc_P_addClosed hR hn3 hv (fun M C79 hR hv => ?_)
        exact lc_A_addUp_j66 hp ih _ _ _ _ hR hl1 hv
def u_A_addUp (post : Sm → Prop) (C : Sm) (i1 : Nat) (i2 : Nat) : Prop := u_L_askedPersons (fun r2 C1 => aW C1 13 i2 ((C 13 i2) + r2) (fun C3 => u_L_answeredPersons (fun r5 C4 => aW C4 14 i2 ((C3 14 i2) + r5) (fun C6 => ∃ nn9, u_A_addUp_j28 post nn9 C6 i1 0)) C3 i1)) C i1
set_option maxRecDepth 100000 in
theorem lc_A_addUp {e0 : Nat} {M0 : zM} {own : Nat → Prop} {x : Nat} {Z : Zc} {nn : Nat → Nat} {post : Sm → Prop} {po : zM → Prop} {M : zM} {C : Sm} {i1 : Nat} {i2 : Nat} (hR : RCx e0 M0 own M Z C x nn) (hi1 : i1 < nn 2) (hi2 : i2 < nn 0) (hv : u_A_addUp post  C i1 i2) (hp : ∀ (M : zM) (C : Sm), RCx e0 M0 own M Z C x nn → post C → po M) : w_A_addUp e0 po  M x (Z.1 5 i1) (Z.1 1 i2) := by
  refine cx_giG hR hi2 rfl ?_
  refine ⟨cx_isA hR hi1, ?_⟩
  refine lc_L_askedPersons hR hi1 hv (fun r2 M C19 hR hv => ?_)
  refine cx_pG hR hi2 (by decide) (fun M hR => ?_)
  refine cx_giG hR hi2 rfl ?_
  refine ⟨cx_isA hR hi1, ?_⟩
  refine lc_L_answeredPersons hR hi1 hv (fun r5 M C49 hR hv => ?_)
  refine cx_pG hR hi2 (by decide) (fun M hR => ?_)
  obtain ⟨nfu, hv⟩ := hv
  exact ⟨nfu, lc_A_addUp_j28 hp  nfu _ _ _ _ hR hi1 hv⟩
def u_A_raiseSecond (post : Sm → Prop) (px : String → Sm → Prop) (mc : Nat) (ms : Nat) (C : Sm) (x1 : Int32) (x2 : Int32) : Prop := ((x1 = (-1)) → post C) ∧ (¬ (x1 = (-1)) → ((60 ≤ (C 6 0)) → post C) ∧ (¬ (60 ≤ (C 6 0)) → u_A_wouldAskSomebody (fun r2 C1 => ((r2 = 0) → post C1) ∧ (¬ (r2 = 0) → ∃ mc4 ms5 : Nat, mc4 ≤ mc ∧ ms5 ≤ ms ∧ u_A_raise (fun C3 => aW C3 3 0 ((C3 3 0) + 1) (fun C6 => post C6)) px mc4 ms5 C1 x1 0 x2)) C x1 0))
set_option maxRecDepth 100000 in
theorem lc_A_raiseSecond {e0 : Nat} {M0 : zM} {own : Nat → Prop} {x : Nat} {post : Sm → Prop} {po : zM → Prop} {px : String → Sm → Prop} {pxo : String → zM → Prop} {mc ms : Nat} {Z : Zc} {nn : Nat → Nat} {M : zM} {C : Sm} {x1 : Int32} {x2 : Int32} (hR : RCx e0 M0 own M Z C x nn) (hv : u_A_raiseSecond post px mc ms C x1 x2) (hp : ∀ (M : zM) (Z : Zc) (C : Sm) (nn : Nat → Nat), RCx e0 M0 own M Z C x nn → post C → po M) (hpx : ∀ (E : String) (M : zM) (Z : Zc) (C : Sm) (nn : Nat → Nat), RCx e0 M0 own M Z C x nn → px E C → pxo E M) : w_A_raiseSecond e0 po pxo mc ms M x x1 x2 := by
  refine ⟨fun hq => ?_, fun hq => ?_⟩
  · have hv := hv.1 hq
    exact hp _ _ _ _ hR hv
  · have hv := hv.2 hq
    refine cx_gr9 hR rfl ?_
    refine ⟨cx_isL hR (by decide), ?_⟩
    refine cx_size hR (by decide) ?_
    refine ⟨fun hq => ?_, fun hq => ?_⟩
    · have hv := hv.1 hq
      exact hp _ _ _ _ hR hv
    · have hv := hv.2 hq
      refine ⟨cx_is9 hR, ?_⟩
      refine lc_A_wouldAskSomebody hR  hv (fun r2 M C19 hR hv => ?_)
      refine ⟨fun hq => ?_, fun hq => ?_⟩
      · have hv := hv.1 hq
        exact hp _ _ _ _ hR hv
      · have hv := hv.2 hq
        refine ⟨cx_is9 hR, ?_⟩
        obtain ⟨mc4, ms5, hba, hbb, hv⟩ := hv
        refine ⟨mc4, ms5, hba, hbb, ?_⟩
        refine lc_A_raise hR  hv (fun M Z C39 nn hR hv => ?_) hpx
        refine cx_gi9 hR rfl ?_
        refine cx_p9 hR (by decide) (fun M hR => ?_)
        exact hp _ _ _ _ hR hv
def u_A_closeAlarm_j40 (post : Sm → Prop) (px : String → Sm → Prop) (mc : Nat) (ms : Nat) (C : Sm) (l1 : Int32) (l2 : Nat) (l3 : Nat) (s0 : Int32) (s1 : Nat) : Prop := aW C 37 s1 s0 (fun C1 => u_A_addUp (fun C2 => (((C2 37 l2) = 2) → (((C2 31 l2) = 0) → ∃ mc4 ms5 : Nat, mc4 ≤ mc ∧ ms5 ≤ ms ∧ u_A_raiseSecond (fun C3 => post C3) px mc4 ms5 C2 (C2 12 l3) l1) ∧ (¬ ((C2 31 l2) = 0) → post C2)) ∧ (¬ ((C2 37 l2) = 2) → post C2)) C1 l2 l3)
set_option maxRecDepth 100000 in
theorem lc_A_closeAlarm_j40 {e0 : Nat} {M0 : zM} {own : Nat → Prop} {x : Nat} {post : Sm → Prop} {po : zM → Prop} {px : String → Sm → Prop} {pxo : String → zM → Prop} (hp : ∀ (M : zM) (Z : Zc) (C : Sm) (nn : Nat → Nat), RCx e0 M0 own M Z C x nn → post C → po M) (hpx : ∀ (E : String) (M : zM) (Z : Zc) (C : Sm) (nn : Nat → Nat), RCx e0 M0 own M Z C x nn → px E C → pxo E M) : ∀ (mc : Nat) (ms : Nat) (M : zM) (Z : Zc) (C : Sm) (nn : Nat → Nat) (l1 : Int32) (l2 : Nat) (l3 : Nat) (s0 : Int32) (s1 : Nat), RCx e0 M0 own M Z C x nn → l2 < nn 2 → l3 < nn 0 → s1 < nn 2 → u_A_closeAlarm_j40 post px  mc ms C l1 l2 l3 s0 s1 → w_A_closeAlarm_j40 e0 po pxo  mc ms M x l1 (Z.1 5 l2) (Z.1 1 l3) s0 (Z.1 5 s1) := by
  intro mc ms M Z C nn l1 l2 l3 s0 s1 hR hl2 hl3 hs1 hv
  refine cx_pA hR hs1 (fun M hR => ?_)
  refine ⟨cx_is9 hR, ?_⟩
  refine lc_A_addUp hR hl2 hl3 hv (fun M C29 hR hv => ?_)
  refine cx_giA hR hl2 rfl ?_
  refine ⟨fun hq => ?_, fun hq => ?_⟩
  · have hv := hv.1 hq
    refine cx_giA hR hl2 rfl ?_
    refine ⟨fun hq => ?_, fun hq => ?_⟩
    · have hv := hv.1 hq
      refine cx_giG hR hl3 rfl ?_
      refine ⟨cx_is9 hR, ?_⟩
      obtain ⟨mc4, ms5, hba, hbb, hv⟩ := hv
      refine ⟨mc4, ms5, hba, hbb, ?_⟩
      refine lc_A_raiseSecond hR  hv (fun M Z C39 nn hR hv => ?_) hpx
      exact hp _ _ _ _ hR hv
    · have hv := hv.2 hq
      exact hp _ _ _ _ hR hv
  · have hv := hv.2 hq
    exact hp _ _ _ _ hR hv
def u_A_closeAlarm (post : Sm → Prop) (px : String → Sm → Prop) (mc : Nat) (ms : Nat) (C : Sm) (x1 : Int32) : Prop := ∃ mc2 ms3 : Nat, mc2 ≤ mc ∧ ms3 ≤ ms ∧ u_A_alarmOf (fun i4 C1 => ∃ mc7 ms8 : Nat, mc7 ≤ (mc - mc2) ∧ ms8 ≤ (ms - ms3) ∧ u_A_groupOf (fun i9 C6 => aW C6 0 0 (C6 33 i4) (fun C11 => u_L_comingPersons (fun r13 C12 => ((r13 < (C12 10 i9)) → u_A_closeAlarm_j40 post px ((mc - mc2) - mc7) ((ms - ms3) - ms8) C12 x1 i4 i9 2 i4) ∧ (¬ (r13 < (C12 10 i9)) → u_A_closeAlarm_j40 post px ((mc - mc2) - mc7) ((ms - ms3) - ms8) C12 x1 i4 i9 1 i4)) C11 i4)) px mc7 ms8 C1 (C1 30 i4)) px mc2 ms3 C x1
set_option maxRecDepth 100000 in
theorem lc_A_closeAlarm {e0 : Nat} {M0 : zM} {own : Nat → Prop} {x : Nat} {post : Sm → Prop} {po : zM → Prop} {px : String → Sm → Prop} {pxo : String → zM → Prop} {mc ms : Nat} {Z : Zc} {nn : Nat → Nat} {M : zM} {C : Sm} {x1 : Int32} (hR : RCx e0 M0 own M Z C x nn) (hv : u_A_closeAlarm post px mc ms C x1) (hp : ∀ (M : zM) (Z : Zc) (C : Sm) (nn : Nat → Nat), RCx e0 M0 own M Z C x nn → post C → po M) (hpx : ∀ (E : String) (M : zM) (Z : Zc) (C : Sm) (nn : Nat → Nat), RCx e0 M0 own M Z C x nn → px E C → pxo E M) : w_A_closeAlarm e0 po pxo mc ms M x x1 := by
  refine ⟨cx_is9 hR, ?_⟩
  obtain ⟨mc2, ms3, hba, hbb, hv⟩ := hv
  refine ⟨mc2, ms3, hba, hbb, ?_⟩
  refine lc_A_alarmOf hR  hv (fun i4 M C19 hR hn5 hv => ?_) (fun E M C hR hv => hpx E M _ C _ hR hv)
  refine ⟨_, rfl, ?_⟩
  refine cx_giA hR hn5 rfl ?_
  refine ⟨cx_is9 hR, ?_⟩
  obtain ⟨mc7, ms8, hba, hbb, hv⟩ := hv
  refine ⟨mc7, ms8, hba, hbb, ?_⟩
  refine lc_A_groupOf hR  hv (fun i9 M C69 hR hn10 hv => ?_) (fun E M C hR hv => hpx E M _ C _ hR hv)
  refine ⟨_, rfl, ?_⟩
  refine cx_giA hR hn5 rfl ?_
  refine cx_p9 hR (by decide) (fun M hR => ?_)
  refine ⟨cx_isA hR hn5, ?_⟩
  refine lc_L_comingPersons hR hn5 hv (fun r13 M C129 hR hv => ?_)
  refine cx_giG hR hn10 rfl ?_
  refine ⟨fun hq => ?_, fun hq => ?_⟩
  · have hv := hv.1 hq
    exact lc_A_closeAlarm_j40 hp hpx  _ _ _ _ _ _ _ _ _ _ _ hR hn5 hn10 hn5 hv
  · have hv := hv.2 hq
    exact lc_A_closeAlarm_j40 hp hpx  _ _ _ _ _ _ _ _ _ _ _ hR hn5 hn10 hn5 hv
def u_A_tick_j12 (post : Int32 → Sm → Prop) (px : String → Sm → Prop) (mc : Nat) (ms : Nat) (C : Sm) : Prop := 1 ≤ mc ∧ 6 ≤ ms ∧ px "java/lang/IndexOutOfBoundsException" C
set_option maxRecDepth 100000 in
theorem lc_A_tick_j12 {e0 : Nat} {M0 : zM} {own : Nat → Prop} {x : Nat} {post : Int32 → Sm → Prop} {po : Int32 → zM → Prop} {px : String → Sm → Prop} {pxo : String → zM → Prop} (hp : ∀ (r : Int32) (M : zM) (Z : Zc) (C : Sm) (nn : Nat → Nat), RCx e0 M0 own M Z C x nn → post r C → po r M) (hpx : ∀ (E : String) (M : zM) (Z : Zc) (C : Sm) (nn : Nat → Nat), RCx e0 M0 own M Z C x nn → px E C → pxo E M) : ∀ (mc : Nat) (ms : Nat) (M : zM) (Z : Zc) (C : Sm) (nn : Nat → Nat) , RCx e0 M0 own M Z C x nn → u_A_tick_j12 post px  mc ms C  → w_A_tick_j12 e0 po pxo  mc ms M  := by
  intro mc ms M Z C nn hR hv
  exact ⟨hv.1, hv.2.1, hpx _ _ _ _ _ hR hv.2.2⟩
def u_A_tick_j93 (post : Int32 → Sm → Prop) (px : String → Sm → Prop) (mc : Nat) (ms : Nat) (C : Sm) (l2 : Int32) (l3 : Int32) : Prop := aW C 0 0 l2 (fun C1 => post ((C1 3 0) - l3) C1)
set_option maxRecDepth 100000 in
theorem lc_A_tick_j93 {e0 : Nat} {M0 : zM} {own : Nat → Prop} {x : Nat} {post : Int32 → Sm → Prop} {po : Int32 → zM → Prop} {px : String → Sm → Prop} {pxo : String → zM → Prop} (hp : ∀ (r : Int32) (M : zM) (Z : Zc) (C : Sm) (nn : Nat → Nat), RCx e0 M0 own M Z C x nn → post r C → po r M) (hpx : ∀ (E : String) (M : zM) (Z : Zc) (C : Sm) (nn : Nat → Nat), RCx e0 M0 own M Z C x nn → px E C → pxo E M) : ∀ (mc : Nat) (ms : Nat) (M : zM) (Z : Zc) (C : Sm) (nn : Nat → Nat) (l2 : Int32) (l3 : Int32), RCx e0 M0 own M Z C x nn → u_A_tick_j93 post px  mc ms C l2 l3 → w_A_tick_j93 e0 po pxo  mc ms M x l2 l3 := by
  intro mc ms M Z C nn l2 l3 hR hv
  refine cx_p9 hR (by decide) (fun M hR => ?_)
  refine cx_gi9 hR rfl ?_
  exact hp _ _ _ _ _ hR hv
def u_A_tick_j58 (post : Int32 → Sm → Prop) (px : String → Sm → Prop) : Nat → Nat → Nat → Sm → Int32 → Int32 → Int32 → Prop
  | 0 => fun _ _ _ _ _ _ => False
  | n + 1 => fun mc ms C l2 l3 l4 => ((60 ≤ l4) → u_A_tick_j93 post px mc ms C l2 l3) ∧ (¬ (60 ≤ l4) → u_A_firstDue (fun r2 C1 => ((r2 = (-1)) → u_A_tick_j93 post px mc ms C1 l2 l3) ∧ (¬ (r2 = (-1)) → ∃ mc4 ms5 : Nat, mc4 ≤ mc ∧ ms5 ≤ ms ∧ u_A_closeAlarm (fun C3 => u_A_tick_j58 post px n (mc - mc4) (ms - ms5) C3 l2 l3 (l4 + 1)) px mc4 ms5 C1 r2)) C l2)
set_option maxRecDepth 100000 in
theorem lc_A_tick_j58 {e0 : Nat} {M0 : zM} {own : Nat → Prop} {x : Nat} {post : Int32 → Sm → Prop} {po : Int32 → zM → Prop} {px : String → Sm → Prop} {pxo : String → zM → Prop} (hp : ∀ (r : Int32) (M : zM) (Z : Zc) (C : Sm) (nn : Nat → Nat), RCx e0 M0 own M Z C x nn → post r C → po r M) (hpx : ∀ (E : String) (M : zM) (Z : Zc) (C : Sm) (nn : Nat → Nat), RCx e0 M0 own M Z C x nn → px E C → pxo E M) : ∀ n : Nat, ∀ (mc : Nat) (ms : Nat) (M : zM) (Z : Zc) (C : Sm) (nn : Nat → Nat) (l2 : Int32) (l3 : Int32) (l4 : Int32), RCx e0 M0 own M Z C x nn → u_A_tick_j58 post px  n mc ms C l2 l3 l4 → w_A_tick_j58 e0 po pxo  n mc ms M x l2 l3 l4 := by
  intro n
  induction n with
  | zero => intro mc ms M Z C nn l2 l3 l4 hR hv; exact hv.elim
  | succ n ih =>
    intro mc ms M Z C nn l2 l3 l4 hR hv
    refine ⟨fun hq => ?_, fun hq => ?_⟩
    · have hv := hv.1 hq
      exact lc_A_tick_j93 hp hpx  _ _ _ _ _ _ _ _ hR hv
    · have hv := hv.2 hq
      refine ⟨cx_is9 hR, ?_⟩
      refine lc_A_firstDue hR  hv (fun r2 M C19 hR hv => ?_)
      refine ⟨fun hq => ?_, fun hq => ?_⟩
      · have hv := hv.1 hq
        exact lc_A_tick_j93 hp hpx  _ _ _ _ _ _ _ _ hR hv
      · have hv := hv.2 hq
        refine ⟨cx_is9 hR, ?_⟩
        obtain ⟨mc4, ms5, hba, hbb, hv⟩ := hv
        refine ⟨mc4, ms5, hba, hbb, ?_⟩
        refine lc_A_closeAlarm hR  hv (fun M Z C39 nn hR hv => ?_) hpx
        exact ih _ _ _ _ _ _ _ _ _ hR hv
def u_A_tick (post : Int32 → Sm → Prop) (px : String → Sm → Prop) (mc : Nat) (ms : Nat) (C : Sm) (x1 : Int32) : Prop := ((x1 < 1) → u_A_tick_j12 post px mc ms C) ∧ (¬ (x1 < 1) → ((x1 ≤ 5000) → ((x1 ≤ (999999 - (C 0 0))) → ∃ nn9, u_A_tick_j58 post px nn9 mc ms C ((C 0 0) + x1) (C 3 0) 0) ∧ (¬ (x1 ≤ (999999 - (C 0 0))) → 1 ≤ mc ∧ 6 ≤ ms ∧ px "java/lang/IndexOutOfBoundsException" C)) ∧ (¬ (x1 ≤ 5000) → u_A_tick_j12 post px mc ms C))
set_option maxRecDepth 100000 in
theorem lc_A_tick {e0 : Nat} {M0 : zM} {own : Nat → Prop} {x : Nat} {post : Int32 → Sm → Prop} {po : Int32 → zM → Prop} {px : String → Sm → Prop} {pxo : String → zM → Prop} {mc ms : Nat} {Z : Zc} {nn : Nat → Nat} {M : zM} {C : Sm} {x1 : Int32} (hR : RCx e0 M0 own M Z C x nn) (hv : u_A_tick post px mc ms C x1) (hp : ∀ (r : Int32) (M : zM) (Z : Zc) (C : Sm) (nn : Nat → Nat), RCx e0 M0 own M Z C x nn → post r C → po r M) (hpx : ∀ (E : String) (M : zM) (Z : Zc) (C : Sm) (nn : Nat → Nat), RCx e0 M0 own M Z C x nn → px E C → pxo E M) : w_A_tick e0 po pxo mc ms M x x1 := by
  refine ⟨fun hq => ?_, fun hq => ?_⟩
  · have hv := hv.1 hq
    exact lc_A_tick_j12 hp hpx  _ _ _ _ _ _ hR hv
  · have hv := hv.2 hq
    refine ⟨fun hq => ?_, fun hq => ?_⟩
    · have hv := hv.1 hq
      refine cx_gi9 hR rfl ?_
      refine ⟨fun hq => ?_, fun hq => ?_⟩
      · have hv := hv.1 hq
        refine cx_gi9 hR rfl ?_
        refine cx_gi9 hR rfl ?_
        obtain ⟨nfu, hv⟩ := hv
        exact ⟨nfu, lc_A_tick_j58 hp hpx  nfu _ _ _ _ _ _ _ _ _ hR hv⟩
      · have hv := hv.2 hq
        exact ⟨hv.1, hv.2.1, hpx _ _ _ _ _ hR hv.2.2⟩
    · have hv := hv.2 hq
      exact lc_A_tick_j12 hp hpx  _ _ _ _ _ _ hR hv
def u_A_alarmAt (post : Int32 → Sm → Prop) (px : String → Sm → Prop) (mc : Nat) (ms : Nat) (C : Sm) (x1 : Int32) (x2 : Int32) : Prop := ∃ mc2 ms3 : Nat, mc2 ≤ mc ∧ ms3 ≤ ms ∧ u_A_alarmOf (fun i4 C1 => (x2 = 0 → post (C1 37 i4) C1) ∧ (x2 = 1 → u_L_askedPersons (fun r7 C6 => post r7 C6) C1 i4) ∧ (x2 = 2 → u_L_reachedPersons (fun r9 C8 => post r9 C8) C1 i4) ∧ (x2 = 3 → u_L_answeredPersons (fun r11 C10 => post r11 C10) C1 i4) ∧ (x2 = 4 → u_L_comingPersons (fun r13 C12 => post r13 C12) C1 i4) ∧ (x2 = 5 → post (C1 34 i4) C1) ∧ (x2 = 6 → post (C1 32 i4) C1) ∧ (¬ x2 = 0 → ¬ x2 = 1 → ¬ x2 = 2 → ¬ x2 = 3 → ¬ x2 = 4 → ¬ x2 = 5 → ¬ x2 = 6 → 1 ≤ (mc - mc2) ∧ 6 ≤ (ms - ms3) ∧ px "java/lang/IllegalArgumentException" C1)) px mc2 ms3 C x1
set_option maxRecDepth 100000 in
theorem lc_A_alarmAt {e0 : Nat} {M0 : zM} {own : Nat → Prop} {x : Nat} {Z : Zc} {nn : Nat → Nat} {post : Int32 → Sm → Prop} {po : Int32 → zM → Prop} {px : String → Sm → Prop} {pxo : String → zM → Prop} {mc ms : Nat} {M : zM} {C : Sm} {x1 : Int32} {x2 : Int32} (hR : RCx e0 M0 own M Z C x nn) (hv : u_A_alarmAt post px mc ms C x1 x2) (hp : ∀ (r : Int32) (M : zM) (C : Sm), RCx e0 M0 own M Z C x nn → post r C → po r M) (hpx : ∀ (E : String) (M : zM) (C : Sm), RCx e0 M0 own M Z C x nn → px E C → pxo E M) : w_A_alarmAt e0 po pxo mc ms M x x1 x2 := by
  refine ⟨cx_is9 hR, ?_⟩
  obtain ⟨mc2, ms3, hba, hbb, hv⟩ := hv
  refine ⟨mc2, ms3, hba, hbb, ?_⟩
  refine lc_A_alarmOf hR  hv (fun i4 M C19 hR hn5 hv => ?_) hpx
  refine ⟨_, rfl, ?_⟩
  refine ⟨fun hq => ?_, ?_⟩
  · have hv := hv.1 hq
    refine cx_giA hR hn5 rfl ?_
    exact hp _ _ _ hR hv
  refine ⟨fun hq => ?_, ?_⟩
  · have hv := hv.2.1 hq
    refine ⟨cx_isA hR hn5, ?_⟩
    refine lc_L_askedPersons hR hn5 hv (fun r7 M C69 hR hv => ?_)
    exact hp _ _ _ hR hv
  refine ⟨fun hq => ?_, ?_⟩
  · have hv := hv.2.2.1 hq
    refine ⟨cx_isA hR hn5, ?_⟩
    refine lc_L_reachedPersons hR hn5 hv (fun r9 M C89 hR hv => ?_)
    exact hp _ _ _ hR hv
  refine ⟨fun hq => ?_, ?_⟩
  · have hv := hv.2.2.2.1 hq
    refine ⟨cx_isA hR hn5, ?_⟩
    refine lc_L_answeredPersons hR hn5 hv (fun r11 M C109 hR hv => ?_)
    exact hp _ _ _ hR hv
  refine ⟨fun hq => ?_, ?_⟩
  · have hv := hv.2.2.2.2.1 hq
    refine ⟨cx_isA hR hn5, ?_⟩
    refine lc_L_comingPersons hR hn5 hv (fun r13 M C129 hR hv => ?_)
    exact hp _ _ _ hR hv
  refine ⟨fun hq => ?_, ?_⟩
  · have hv := hv.2.2.2.2.2.1 hq
    refine cx_giA hR hn5 rfl ?_
    exact hp _ _ _ hR hv
  refine ⟨fun hq => ?_, ?_⟩
  · have hv := hv.2.2.2.2.2.2.1 hq
    refine cx_giA hR hn5 rfl ?_
    exact hp _ _ _ hR hv
  intro hq0 hq1 hq2 hq3 hq4 hq5 hq6
  have hv := hv.2.2.2.2.2.2.2 hq0 hq1 hq2 hq3 hq4 hq5 hq6
  exact ⟨hv.1, hv.2.1, hpx _ _ _ hR hv.2.2⟩
def u_A_requireNotBelowZero (post : Sm → Prop) (px : String → Sm → Prop) (mc : Nat) (ms : Nat) (C : Sm) (x0 : Int32) : Prop := ((0 ≤ x0) → post C) ∧ (¬ (0 ≤ x0) → 1 ≤ mc ∧ 6 ≤ ms ∧ px "java/lang/IndexOutOfBoundsException" C)
set_option maxRecDepth 100000 in
theorem lc_A_requireNotBelowZero {e0 : Nat} {M0 : zM} {own : Nat → Prop} {x : Nat} {Z : Zc} {nn : Nat → Nat} {post : Sm → Prop} {po : zM → Prop} {px : String → Sm → Prop} {pxo : String → zM → Prop} {mc ms : Nat} {M : zM} {C : Sm} {x0 : Int32} (hR : RCx e0 M0 own M Z C x nn) (hv : u_A_requireNotBelowZero post px mc ms C x0) (hp : ∀ (M : zM) (C : Sm), RCx e0 M0 own M Z C x nn → post C → po M) (hpx : ∀ (E : String) (M : zM) (C : Sm), RCx e0 M0 own M Z C x nn → px E C → pxo E M) : w_A_requireNotBelowZero e0 po pxo mc ms M x0 := by
  refine ⟨fun hq => ?_, fun hq => ?_⟩
  · have hv := hv.1 hq
    exact hp _ _ hR hv
  · have hv := hv.2 hq
    exact ⟨hv.1, hv.2.1, hpx _ _ _ hR hv.2.2⟩
def u_A_comes (post : Int32 → Sm → Prop) (px : String → Sm → Prop) (mc : Nat) (ms : Nat) (C : Sm) (x1 : Int32) (x2 : Int32) : Prop := ∃ mc2 ms3 : Nat, mc2 ≤ mc ∧ ms3 ≤ ms ∧ u_A_alarmOf (fun i4 C1 => ∃ mc7 ms8 : Nat, mc7 ≤ (mc - mc2) ∧ ms8 ≤ (ms - ms3) ∧ u_A_requireNotBelowZero (fun C6 => u_L_comerAt (fun r10 C9 => post r10 C9) C6 i4 x2) px mc7 ms8 C1 x2) px mc2 ms3 C x1
set_option maxRecDepth 100000 in
theorem lc_A_comes {e0 : Nat} {M0 : zM} {own : Nat → Prop} {x : Nat} {Z : Zc} {nn : Nat → Nat} {post : Int32 → Sm → Prop} {po : Int32 → zM → Prop} {px : String → Sm → Prop} {pxo : String → zM → Prop} {mc ms : Nat} {M : zM} {C : Sm} {x1 : Int32} {x2 : Int32} (hR : RCx e0 M0 own M Z C x nn) (hv : u_A_comes post px mc ms C x1 x2) (hp : ∀ (r : Int32) (M : zM) (C : Sm), RCx e0 M0 own M Z C x nn → post r C → po r M) (hpx : ∀ (E : String) (M : zM) (C : Sm), RCx e0 M0 own M Z C x nn → px E C → pxo E M) : w_A_comes e0 po pxo mc ms M x x1 x2 := by
  refine ⟨cx_is9 hR, ?_⟩
  obtain ⟨mc2, ms3, hba, hbb, hv⟩ := hv
  refine ⟨mc2, ms3, hba, hbb, ?_⟩
  refine lc_A_alarmOf hR  hv (fun i4 M C19 hR hn5 hv => ?_) hpx
  refine ⟨_, rfl, ?_⟩
  obtain ⟨mc7, ms8, hba, hbb, hv⟩ := hv
  refine ⟨mc7, ms8, hba, hbb, ?_⟩
  refine lc_A_requireNotBelowZero hR  hv (fun M C69 hR hv => ?_) hpx
  refine ⟨cx_isA hR hn5, ?_⟩
  refine lc_L_comerAt hR hn5 hv (fun r10 M C99 hR hv => ?_)
  exact hp _ _ _ hR hv
def u_A_reached (post : Int32 → Sm → Prop) (px : String → Sm → Prop) (mc : Nat) (ms : Nat) (C : Sm) (x1 : Int32) (x2 : Int32) : Prop := ∃ mc2 ms3 : Nat, mc2 ≤ mc ∧ ms3 ≤ ms ∧ u_A_alarmOf (fun i4 C1 => ∃ mc7 ms8 : Nat, mc7 ≤ (mc - mc2) ∧ ms8 ≤ (ms - ms3) ∧ u_A_requirePerson (fun C6 => u_L_hasReached (fun r10 C9 => ((r10 = 0) → post (-1) C9) ∧ (¬ (r10 = 0) → u_L_reachOf (fun r12 C11 => post r12 C11) C9 i4 x2)) C6 i4 x2) px mc7 ms8 C1 x2) px mc2 ms3 C x1
set_option maxRecDepth 100000 in
theorem lc_A_reached {e0 : Nat} {M0 : zM} {own : Nat → Prop} {x : Nat} {Z : Zc} {nn : Nat → Nat} {post : Int32 → Sm → Prop} {po : Int32 → zM → Prop} {px : String → Sm → Prop} {pxo : String → zM → Prop} {mc ms : Nat} {M : zM} {C : Sm} {x1 : Int32} {x2 : Int32} (hR : RCx e0 M0 own M Z C x nn) (hv : u_A_reached post px mc ms C x1 x2) (hp : ∀ (r : Int32) (M : zM) (C : Sm), RCx e0 M0 own M Z C x nn → post r C → po r M) (hpx : ∀ (E : String) (M : zM) (C : Sm), RCx e0 M0 own M Z C x nn → px E C → pxo E M) : w_A_reached e0 po pxo mc ms M x x1 x2 := by
  refine ⟨cx_is9 hR, ?_⟩
  obtain ⟨mc2, ms3, hba, hbb, hv⟩ := hv
  refine ⟨mc2, ms3, hba, hbb, ?_⟩
  refine lc_A_alarmOf hR  hv (fun i4 M C19 hR hn5 hv => ?_) hpx
  refine ⟨_, rfl, ?_⟩
  refine ⟨cx_is9 hR, ?_⟩
  obtain ⟨mc7, ms8, hba, hbb, hv⟩ := hv
  refine ⟨mc7, ms8, hba, hbb, ?_⟩
  refine lc_A_requirePerson hR  hv (fun M C69 hR hv => ?_) hpx
  refine ⟨cx_isA hR hn5, ?_⟩
  refine lc_L_hasReached hR hn5 hv (fun r10 M C99 hR hv => ?_)
  refine ⟨fun hq => ?_, fun hq => ?_⟩
  · have hv := hv.1 hq
    exact hp _ _ _ hR hv
  · have hv := hv.2 hq
    refine ⟨cx_isA hR hn5, ?_⟩
    refine lc_L_reachOf hR hn5 hv (fun r12 M C119 hR hv => ?_)
    exact hp _ _ _ hR hv
def u_A_commonDivisor_j7 (post : Int32 → Sm → Prop) : Nat → Sm → Int32 → Int32 → Int32 → Prop
  | 0 => fun _ _ _ _ => False
  | n + 1 => fun C l2 l3 l4 => ((50 ≤ l4) → post l2 C) ∧ (¬ (50 ≤ l4) → ((l3 = 0) → post l2 C) ∧ (¬ (l3 = 0) → (¬ l3 = 0) ∧ u_A_commonDivisor_j7 post n C l3 (l2 - l2 / l3 * l3) (l4 + 1)))
set_option maxRecDepth 100000 in
theorem lc_A_commonDivisor_j7 {e0 : Nat} {M0 : zM} {own : Nat → Prop} {x : Nat} {Z : Zc} {nn : Nat → Nat} {post : Int32 → Sm → Prop} {po : Int32 → zM → Prop} (hp : ∀ (r : Int32) (M : zM) (C : Sm), RCx e0 M0 own M Z C x nn → post r C → po r M) : ∀ n : Nat, ∀  (M : zM) (C : Sm) (l2 : Int32) (l3 : Int32) (l4 : Int32), RCx e0 M0 own M Z C x nn → u_A_commonDivisor_j7 post  n  C l2 l3 l4 → w_A_commonDivisor_j7 e0 po  n  M l2 l3 l4 := by
  intro n
  induction n with
  | zero => intro M C l2 l3 l4 hR hv; exact hv.elim
  | succ n ih =>
    intro M C l2 l3 l4 hR hv
    refine ⟨fun hq => ?_, fun hq => ?_⟩
    · have hv := hv.1 hq
      exact hp _ _ _ hR hv
    · have hv := hv.2 hq
      refine ⟨fun hq => ?_, fun hq => ?_⟩
      · have hv := hv.1 hq
        exact hp _ _ _ hR hv
      · have hv := hv.2 hq
        refine ⟨hv.1, ?_⟩
        have hv := hv.2
        exact ih _ _ _ _ _ hR hv
def u_A_commonDivisor (post : Int32 → Sm → Prop) (C : Sm) (x0 : Int32) (x1 : Int32) : Prop := ∃ nn9, u_A_commonDivisor_j7 post nn9 C x0 x1 0
set_option maxRecDepth 100000 in
theorem lc_A_commonDivisor {e0 : Nat} {M0 : zM} {own : Nat → Prop} {x : Nat} {Z : Zc} {nn : Nat → Nat} {post : Int32 → Sm → Prop} {po : Int32 → zM → Prop} {M : zM} {C : Sm} {x0 : Int32} {x1 : Int32} (hR : RCx e0 M0 own M Z C x nn) (hv : u_A_commonDivisor post  C x0 x1) (hp : ∀ (r : Int32) (M : zM) (C : Sm), RCx e0 M0 own M Z C x nn → post r C → po r M) : w_A_commonDivisor e0 po  M x0 x1 := by
  obtain ⟨nfu, hv⟩ := hv
  exact ⟨nfu, lc_A_commonDivisor_j7 hp  nfu _ _ _ _ _ hR hv⟩
def u_A_share_j25 (post : Int32 → Sm → Prop) (px : String → Sm → Prop) (mc : Nat) (ms : Nat) (C : Sm) (l2 : Int32) (l3 : Nat) : Prop := u_A_commonDivisor (fun r2 C1 => ((1 ≤ r2) → ((l2 = 0) → (¬ r2 = 0) ∧ post ((C1 14 l3) / r2) C1) ∧ (¬ (l2 = 0) → (¬ r2 = 0) ∧ post ((C1 13 l3) / r2) C1)) ∧ (¬ (1 ≤ r2) → 1 ≤ mc ∧ 6 ≤ ms ∧ px "java/lang/ArithmeticException" C1)) C (C 13 l3) (C 14 l3)
set_option maxRecDepth 100000 in
theorem lc_A_share_j25 {e0 : Nat} {M0 : zM} {own : Nat → Prop} {x : Nat} {Z : Zc} {nn : Nat → Nat} {post : Int32 → Sm → Prop} {po : Int32 → zM → Prop} {px : String → Sm → Prop} {pxo : String → zM → Prop} (hp : ∀ (r : Int32) (M : zM) (C : Sm), RCx e0 M0 own M Z C x nn → post r C → po r M) (hpx : ∀ (E : String) (M : zM) (C : Sm), RCx e0 M0 own M Z C x nn → px E C → pxo E M) : ∀ (mc : Nat) (ms : Nat) (M : zM) (C : Sm) (l2 : Int32) (l3 : Nat), RCx e0 M0 own M Z C x nn → l3 < nn 0 → u_A_share_j25 post px  mc ms C l2 l3 → w_A_share_j25 e0 po pxo  mc ms M l2 (Z.1 1 l3) := by
  intro mc ms M C l2 l3 hR hl3 hv
  refine cx_giG hR hl3 rfl ?_
  refine cx_giG hR hl3 rfl ?_
  refine lc_A_commonDivisor hR  hv (fun r2 M C19 hR hv => ?_)
  refine ⟨fun hq => ?_, fun hq => ?_⟩
  · have hv := hv.1 hq
    refine ⟨fun hq => ?_, fun hq => ?_⟩
    · have hv := hv.1 hq
      refine cx_giG hR hl3 rfl ?_
      refine ⟨hv.1, ?_⟩
      have hv := hv.2
      exact hp _ _ _ hR hv
    · have hv := hv.2 hq
      refine cx_giG hR hl3 rfl ?_
      refine ⟨hv.1, ?_⟩
      have hv := hv.2
      exact hp _ _ _ hR hv
  · have hv := hv.2 hq
    exact ⟨hv.1, hv.2.1, hpx _ _ _ hR hv.2.2⟩
def u_A_share (post : Int32 → Sm → Prop) (px : String → Sm → Prop) (mc : Nat) (ms : Nat) (C : Sm) (x1 : Int32) (x2 : Int32) : Prop := ∃ mc2 ms3 : Nat, mc2 ≤ mc ∧ ms3 ≤ ms ∧ u_A_groupOf (fun i4 C1 => ((x2 = 0) → u_A_share_j25 post px (mc - mc2) (ms - ms3) C1 x2 i4) ∧ (¬ (x2 = 0) → ((x2 = 1) → u_A_share_j25 post px (mc - mc2) (ms - ms3) C1 x2 i4) ∧ (¬ (x2 = 1) → 1 ≤ (mc - mc2) ∧ 6 ≤ (ms - ms3) ∧ px "java/lang/IllegalArgumentException" C1))) px mc2 ms3 C x1
set_option maxRecDepth 100000 in
theorem lc_A_share {e0 : Nat} {M0 : zM} {own : Nat → Prop} {x : Nat} {Z : Zc} {nn : Nat → Nat} {post : Int32 → Sm → Prop} {po : Int32 → zM → Prop} {px : String → Sm → Prop} {pxo : String → zM → Prop} {mc ms : Nat} {M : zM} {C : Sm} {x1 : Int32} {x2 : Int32} (hR : RCx e0 M0 own M Z C x nn) (hv : u_A_share post px mc ms C x1 x2) (hp : ∀ (r : Int32) (M : zM) (C : Sm), RCx e0 M0 own M Z C x nn → post r C → po r M) (hpx : ∀ (E : String) (M : zM) (C : Sm), RCx e0 M0 own M Z C x nn → px E C → pxo E M) : w_A_share e0 po pxo mc ms M x x1 x2 := by
  refine ⟨cx_is9 hR, ?_⟩
  obtain ⟨mc2, ms3, hba, hbb, hv⟩ := hv
  refine ⟨mc2, ms3, hba, hbb, ?_⟩
  refine lc_A_groupOf hR  hv (fun i4 M C19 hR hn5 hv => ?_) hpx
  refine ⟨_, rfl, ?_⟩
  refine ⟨fun hq => ?_, fun hq => ?_⟩
  · have hv := hv.1 hq
    exact lc_A_share_j25 hp hpx  _ _ _ _ _ _ hR hn5 hv
  · have hv := hv.2 hq
    refine ⟨fun hq => ?_, fun hq => ?_⟩
    · have hv := hv.1 hq
      exact lc_A_share_j25 hp hpx  _ _ _ _ _ _ hR hn5 hv
    · have hv := hv.2 hq
      exact ⟨hv.1, hv.2.1, hpx _ _ _ hR hv.2.2⟩
def u_A_never_j46 (post : Int32 → Sm → Prop) (px : String → Sm → Prop) (K8 : Nat → Nat → Sm → Int32 → Int32 → Int32 → Prop) (mc : Nat) (ms : Nat) (C : Sm) (l1 : Int32) (l2 : Int32) (l3 : Int32) : Prop := K8 mc ms C l1 l2 (l3 + 1)
set_option maxRecDepth 100000 in
theorem lc_A_never_j46 {e0 : Nat} {M0 : zM} {own : Nat → Prop} {x : Nat} {Z : Zc} {nn : Nat → Nat} {post : Int32 → Sm → Prop} {po : Int32 → zM → Prop} {px : String → Sm → Prop} {pxo : String → zM → Prop} (hp : ∀ (r : Int32) (M : zM) (C : Sm), RCx e0 M0 own M Z C x nn → post r C → po r M) (hpx : ∀ (E : String) (M : zM) (C : Sm), RCx e0 M0 own M Z C x nn → px E C → pxo E M) {K8 : Nat → Nat → Sm → Int32 → Int32 → Int32 → Prop} {C8 : Nat → Nat → zM → Nat → Int32 → Int32 → Int32 → Prop} (hK8 : ∀ (mc : Nat) (ms : Nat) (M : zM) (C : Sm) (l1 : Int32) (l2 : Int32) (l3 : Int32), RCx e0 M0 own M Z C x nn → K8 mc ms C l1 l2 l3 → C8 mc ms M x l1 l2 l3) : ∀ (mc : Nat) (ms : Nat) (M : zM) (C : Sm) (l1 : Int32) (l2 : Int32) (l3 : Int32), RCx e0 M0 own M Z C x nn → u_A_never_j46 post px K8 mc ms C l1 l2 l3 → w_A_never_j46 e0 po pxo C8 mc ms M x l1 l2 l3 := by
  intro mc ms M C l1 l2 l3 hR hv
  exact hK8 _ _ _ _ _ _ _ hR hv
def u_A_never_j8 (post : Int32 → Sm → Prop) (px : String → Sm → Prop) : Nat → Nat → Nat → Sm → Int32 → Int32 → Int32 → Prop
  | 0 => fun _ _ _ _ _ _ => False
  | n + 1 => fun mc ms C l1 l2 l3 => (((C 5 0) ≤ l3) → post (-1) C) ∧ (¬ ((C 5 0) ≤ l3) → aGT C 1 l3 (fun i2 => u_P_neverAnswers (fun r4 C3 => ((r4 = 0) → u_A_never_j46 post px (u_A_never_j8 post px n) mc ms C3 l1 l2 l3) ∧ (¬ (r4 = 0) → ((l2 = l1) → post l3 C3) ∧ (¬ (l2 = l1) → u_A_never_j46 post px (u_A_never_j8 post px n) mc ms C3 l1 (l2 + 1) l3))) C i2))
set_option maxRecDepth 100000 in
theorem lc_A_never_j8 {e0 : Nat} {M0 : zM} {own : Nat → Prop} {x : Nat} {Z : Zc} {nn : Nat → Nat} {post : Int32 → Sm → Prop} {po : Int32 → zM → Prop} {px : String → Sm → Prop} {pxo : String → zM → Prop} (hp : ∀ (r : Int32) (M : zM) (C : Sm), RCx e0 M0 own M Z C x nn → post r C → po r M) (hpx : ∀ (E : String) (M : zM) (C : Sm), RCx e0 M0 own M Z C x nn → px E C → pxo E M) : ∀ n : Nat, ∀ (mc : Nat) (ms : Nat) (M : zM) (C : Sm) (l1 : Int32) (l2 : Int32) (l3 : Int32), RCx e0 M0 own M Z C x nn → u_A_never_j8 post px  n mc ms C l1 l2 l3 → w_A_never_j8 e0 po pxo  n mc ms M x l1 l2 l3 := by
  intro n
  induction n with
  | zero => intro mc ms M C l1 l2 l3 hR hv; exact hv.elim
  | succ n ih =>
    intro mc ms M C l1 l2 l3 hR hv
    refine cx_gr9 hR rfl ?_
    refine ⟨cx_isL hR (by decide), ?_⟩
    refine cx_size hR (by decide) ?_
    refine ⟨fun hq => ?_, fun hq => ?_⟩
    · have hv := hv.1 hq
      exact hp _ _ _ hR hv
    · have hv := hv.2 hq
      refine cx_gr9 hR rfl ?_
      obtain ⟨hi9, hv⟩ := hv
      have hn1 := (by rw [← hR.2.2 1 (by decide)]; exact vp_in_lt hi9 : (l3).toNatClampNeg < nn 1)
      refine ⟨cx_isL hR (by decide), ?_⟩
      refine cx_get hR (by decide) (by rw [← hR.2.2 1 (by decide)]; exact hi9) ?_
      refine ⟨_, rfl, ?_⟩
      refine ⟨cx_isP hR hn1, ?_⟩
      refine ⟨cx_isP hR hn1, ?_⟩
      refine lc_P_neverAnswers hR hn1 hv (fun r4 M C39 hR hv => ?_)
      refine ⟨fun hq => ?_, fun hq => ?_⟩
      · have hv := hv.1 hq
        exact lc_A_never_j46 hp hpx ih _ _ _ _ _ _ _ hR hv
      · have hv := hv.2 hq
        refine ⟨fun hq => ?_, fun hq => ?_⟩
        · have hv := hv.1 hq
          exact hp _ _ _ hR hv
        · have hv := hv.2 hq
          exact lc_A_never_j46 hp hpx ih _ _ _ _ _ _ _ hR hv
def u_A_never (post : Int32 → Sm → Prop) (px : String → Sm → Prop) (mc : Nat) (ms : Nat) (C : Sm) (x1 : Int32) : Prop := ∃ mc2 ms3 : Nat, mc2 ≤ mc ∧ ms3 ≤ ms ∧ u_A_requireNotBelowZero (fun C1 => ∃ nn9, u_A_never_j8 post px nn9 (mc - mc2) (ms - ms3) C1 x1 0 0) px mc2 ms3 C x1
set_option maxRecDepth 100000 in
theorem lc_A_never {e0 : Nat} {M0 : zM} {own : Nat → Prop} {x : Nat} {Z : Zc} {nn : Nat → Nat} {post : Int32 → Sm → Prop} {po : Int32 → zM → Prop} {px : String → Sm → Prop} {pxo : String → zM → Prop} {mc ms : Nat} {M : zM} {C : Sm} {x1 : Int32} (hR : RCx e0 M0 own M Z C x nn) (hv : u_A_never post px mc ms C x1) (hp : ∀ (r : Int32) (M : zM) (C : Sm), RCx e0 M0 own M Z C x nn → post r C → po r M) (hpx : ∀ (E : String) (M : zM) (C : Sm), RCx e0 M0 own M Z C x nn → px E C → pxo E M) : w_A_never e0 po pxo mc ms M x x1 := by
  obtain ⟨mc2, ms3, hba, hbb, hv⟩ := hv
  refine ⟨mc2, ms3, hba, hbb, ?_⟩
  refine lc_A_requireNotBelowZero hR  hv (fun M C19 hR hv => ?_) hpx
  obtain ⟨nfu, hv⟩ := hv
  exact ⟨nfu, lc_A_never_j8 hp hpx  nfu _ _ _ _ _ _ _ hR hv⟩
def u_A_openAlarms_j35 (post : Int32 → Sm → Prop) (K4 : Sm → Int32 → Int32 → Prop) (C : Sm) (l1 : Int32) (l2 : Int32) : Prop := K4 C l1 (l2 + 1)
set_option maxRecDepth 100000 in
theorem lc_A_openAlarms_j35 {e0 : Nat} {M0 : zM} {own : Nat → Prop} {x : Nat} {Z : Zc} {nn : Nat → Nat} {post : Int32 → Sm → Prop} {po : Int32 → zM → Prop} (hp : ∀ (r : Int32) (M : zM) (C : Sm), RCx e0 M0 own M Z C x nn → post r C → po r M) {K4 : Sm → Int32 → Int32 → Prop} {C4 : zM → Nat → Int32 → Int32 → Prop} (hK4 : ∀  (M : zM) (C : Sm) (l1 : Int32) (l2 : Int32), RCx e0 M0 own M Z C x nn → K4  C l1 l2 → C4  M x l1 l2) : ∀  (M : zM) (C : Sm) (l1 : Int32) (l2 : Int32), RCx e0 M0 own M Z C x nn → u_A_openAlarms_j35 post K4  C l1 l2 → w_A_openAlarms_j35 e0 po C4  M x l1 l2 := by
  intro M C l1 l2 hR hv
  exact hK4 _ _ _ _ hR hv
def u_A_openAlarms_j4 (post : Int32 → Sm → Prop) : Nat → Sm → Int32 → Int32 → Prop
  | 0 => fun _ _ _ => False
  | n + 1 => fun C l1 l2 => (((C 6 0) ≤ l2) → post l1 C) ∧ (¬ ((C 6 0) ≤ l2) → aGT C 2 l2 (fun i2 => (((C 37 i2) = 0) → u_A_openAlarms_j35 post (u_A_openAlarms_j4 post n) C (l1 + 1) l2) ∧ (¬ ((C 37 i2) = 0) → u_A_openAlarms_j35 post (u_A_openAlarms_j4 post n) C l1 l2)))
set_option maxRecDepth 100000 in
theorem lc_A_openAlarms_j4 {e0 : Nat} {M0 : zM} {own : Nat → Prop} {x : Nat} {Z : Zc} {nn : Nat → Nat} {post : Int32 → Sm → Prop} {po : Int32 → zM → Prop} (hp : ∀ (r : Int32) (M : zM) (C : Sm), RCx e0 M0 own M Z C x nn → post r C → po r M) : ∀ n : Nat, ∀  (M : zM) (C : Sm) (l1 : Int32) (l2 : Int32), RCx e0 M0 own M Z C x nn → u_A_openAlarms_j4 post  n  C l1 l2 → w_A_openAlarms_j4 e0 po  n  M x l1 l2 := by
  intro n
  induction n with
  | zero => intro M C l1 l2 hR hv; exact hv.elim
  | succ n ih =>
    intro M C l1 l2 hR hv
    refine cx_gr9 hR rfl ?_
    refine ⟨cx_isL hR (by decide), ?_⟩
    refine cx_size hR (by decide) ?_
    refine ⟨fun hq => ?_, fun hq => ?_⟩
    · have hv := hv.1 hq
      exact hp _ _ _ hR hv
    · have hv := hv.2 hq
      refine cx_gr9 hR rfl ?_
      obtain ⟨hi9, hv⟩ := hv
      have hn1 := (by rw [← hR.2.2 2 (by decide)]; exact vp_in_lt hi9 : (l2).toNatClampNeg < nn 2)
      refine ⟨cx_isL hR (by decide), ?_⟩
      refine cx_get hR (by decide) (by rw [← hR.2.2 2 (by decide)]; exact hi9) ?_
      refine ⟨_, rfl, ?_⟩
      refine ⟨cx_isA hR hn1, ?_⟩
      refine cx_giA hR hn1 rfl ?_
      refine ⟨fun hq => ?_, fun hq => ?_⟩
      · have hv := hv.1 hq
        exact lc_A_openAlarms_j35 hp ih _ _ _ _ hR hv
      · have hv := hv.2 hq
        exact lc_A_openAlarms_j35 hp ih _ _ _ _ hR hv
def u_A_openAlarms (post : Int32 → Sm → Prop) (C : Sm) : Prop := ∃ nn9, u_A_openAlarms_j4 post nn9 C 0 0
set_option maxRecDepth 100000 in
theorem lc_A_openAlarms {e0 : Nat} {M0 : zM} {own : Nat → Prop} {x : Nat} {Z : Zc} {nn : Nat → Nat} {post : Int32 → Sm → Prop} {po : Int32 → zM → Prop} {M : zM} {C : Sm}  (hR : RCx e0 M0 own M Z C x nn) (hv : u_A_openAlarms post  C ) (hp : ∀ (r : Int32) (M : zM) (C : Sm), RCx e0 M0 own M Z C x nn → post r C → po r M) : w_A_openAlarms e0 po  M x := by
  obtain ⟨nfu, hv⟩ := hv
  exact ⟨nfu, lc_A_openAlarms_j4 hp  nfu _ _ _ _ hR hv⟩
def u_A_count (post : Int32 → Sm → Prop) (px : String → Sm → Prop) (mc : Nat) (ms : Nat) (C : Sm) (x1 : Int32) : Prop := (x1 = 0 → post (C 0 0) C) ∧ (x1 = 1 → u_A_openAlarms (fun r2 C1 => post r2 C1) C) ∧ (x1 = 2 → post (C 1 0) C) ∧ (x1 = 3 → post (C 2 0) C) ∧ (x1 = 4 → post (C 3 0) C) ∧ (¬ x1 = 0 → ¬ x1 = 1 → ¬ x1 = 2 → ¬ x1 = 3 → ¬ x1 = 4 → 1 ≤ mc ∧ 6 ≤ ms ∧ px "java/lang/IllegalArgumentException" C)
set_option maxRecDepth 100000 in
theorem lc_A_count {e0 : Nat} {M0 : zM} {own : Nat → Prop} {x : Nat} {Z : Zc} {nn : Nat → Nat} {post : Int32 → Sm → Prop} {po : Int32 → zM → Prop} {px : String → Sm → Prop} {pxo : String → zM → Prop} {mc ms : Nat} {M : zM} {C : Sm} {x1 : Int32} (hR : RCx e0 M0 own M Z C x nn) (hv : u_A_count post px mc ms C x1) (hp : ∀ (r : Int32) (M : zM) (C : Sm), RCx e0 M0 own M Z C x nn → post r C → po r M) (hpx : ∀ (E : String) (M : zM) (C : Sm), RCx e0 M0 own M Z C x nn → px E C → pxo E M) : w_A_count e0 po pxo mc ms M x x1 := by
  refine ⟨fun hq => ?_, ?_⟩
  · have hv := hv.1 hq
    refine cx_gi9 hR rfl ?_
    exact hp _ _ _ hR hv
  refine ⟨fun hq => ?_, ?_⟩
  · have hv := hv.2.1 hq
    refine ⟨cx_is9 hR, ?_⟩
    refine lc_A_openAlarms hR  hv (fun r2 M C19 hR hv => ?_)
    exact hp _ _ _ hR hv
  refine ⟨fun hq => ?_, ?_⟩
  · have hv := hv.2.2.1 hq
    refine cx_gi9 hR rfl ?_
    exact hp _ _ _ hR hv
  refine ⟨fun hq => ?_, ?_⟩
  · have hv := hv.2.2.2.1 hq
    refine cx_gi9 hR rfl ?_
    exact hp _ _ _ hR hv
  refine ⟨fun hq => ?_, ?_⟩
  · have hv := hv.2.2.2.2.1 hq
    refine cx_gi9 hR rfl ?_
    exact hp _ _ _ hR hv
  intro hq0 hq1 hq2 hq3 hq4
  have hv := hv.2.2.2.2.2 hq0 hq1 hq2 hq3 hq4
  exact ⟨hv.1, hv.2.1, hpx _ _ _ hR hv.2.2⟩
