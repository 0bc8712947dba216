/-! never; share -/
section OPS5
variable {G : Gs} {C : Sm} {mc ms : Nat}
theorem ite_iff {P Q : Prop} [Decidable P] [Decidable Q] {α : Type} {a b : α} (h : P ↔ Q) : (if P then a else b) = if Q then a else b := by
  by_cases z : Q
  · rw [if_pos z, if_pos (h.mpr z)]
  · rw [if_neg z, if_neg (fun w => z (h.mp w))]
theorem nq1 {n : Nat} (h : n < 2 ^ 31) : nI n = 1 ↔ n = 1 := nI_eq (b := 1) h (by decide)
theorem nq2 {n : Nat} (h : n < 2 ^ 31) : nI n = 2 ↔ n = 2 := nI_eq (b := 2) h (by decide)
theorem nl0 {n : Nat} (h : n < 2 ^ 31) : nI n ≤ 0 ↔ n ≤ 0 := nI_leI (b := 0) h (by decide)
theorem nl2 {n : Nat} (h : n < 2 ^ 31) : nI n ≤ 2 ↔ n ≤ 2 := nI_leI (b := 2) h (by decide)
theorem nl3 {n : Nat} (h : n < 2 ^ 31) : nI n < 3 ↔ n < 3 := nI_ltI (b := 3) h (by decide)
theorem n1l {n : Nat} (h : n < 2 ^ 31) : 1 ≤ nI n ↔ 1 ≤ n := nI_leI (a := 1) (by decide) h
theorem cnt_mono {P : Nat → Bool} {l : Nat} : ∀ n, l ≤ n → cnt P l ≤ cnt P n := by
  intro n
  induction n with
  | zero => intro h; rw [show l = 0 by omega]; exact Nat.le_refl _
  | succ n ih =>
    intro h
    by_cases z : l = n + 1
    · rw [z]; exact Nat.le_refl _
    · have := ih (by omega)
      show cnt P l ≤ cnt P n + _
      omega
theorem cnt_imp {P Q : Nat → Bool} : ∀ n, (∀ i, i < n → P i = true → Q i = true) → cnt P n ≤ cnt Q n := by
  intro n
  induction n with
  | zero => intro _; exact Nat.le_refl _
  | succ n ih =>
    intro h
    have h1 := ih (fun i hi => h i (by omega))
    have h2 := h n (by omega)
    show cnt P n + _ ≤ cnt Q n + _
    by_cases z : P n = true
    · rw [if_pos z, if_pos (h2 z)]; omega
    · rw [if_neg z]; omega
theorem cnt_1 {P : Nat → Bool} {l : Nat} (h : P l = true) : cnt P (l + 1) = cnt P l + 1 := by
  show cnt P l + _ = _
  rw [if_pos h]
theorem cnt_0 {P : Nat → Bool} {l : Nat} (h : P l = false) : cnt P (l + 1) = cnt P l := by
  show cnt P l + _ = _
  rw [if_neg (by rw [h]; decide)]
  rfl
def silB (G : Gs) (p : Nat) : Bool := decide (3 ≤ cAsk G p ∧ cAns G p = 0)
theorem rf_isSilent {post : Int32 → Sm → Prop} {p : Nat} (hB : IB G) (hn : G 12 0 ≤ 60) (hp : p < 60) (h0 : silB G p = false → post 0 (encS G)) (h1 : silB G p = true → post 1 (encS G)) : v_M_isSilent post (encS G) (nI p) := by
  have key : ∀ d l, d + l = G 12 0 → cnt (fun a => decide (G 17 a ≠ 0 ∧ G 18 (60 * a + p) ≠ 0 ∧ G 21 (60 * a + p) ≠ 0)) l = 0 → v_M_isSilent_j4 post (d + 1) (encS G) (nI p) (nI (cnt (fun a => decide (G 17 a ≠ 0 ∧ G 18 (60 * a + p) ≠ 0)) l)) (nI l) := by
    intro d
    induction d with
    | zero =>
      intro l hl hz
      have e : l = G 12 0 := by omega
      subst e
      have hc := cnt_le (fun a => decide (G 17 a ≠ 0 ∧ G 18 (60 * a + p) ≠ 0)) (G 12 0)
      refine ⟨fun _ => ?_, fun z => absurd (nI_le (Nat.le_refl _) (by omega)) z⟩
      rw [nl2 (by omega)]
      refine ⟨fun z => h0 (decide_eq_false (fun w => ?_)), fun z => h1 (decide_eq_true ⟨?_, hz⟩)⟩
      · have := w.1; unfold cAsk at this; omega
      · show 3 ≤ cnt _ _; omega
    | succ d ih =>
      intro l hl hz
      have h17 := hB 17 l (by decide)
      have h18 := hB 18 (60 * l + p) (by decide)
      have h21 := hB 21 (60 * l + p) (by decide)
      refine ⟨fun z => absurd z (nI_ge (a := l) (b := G 12 0) (by omega) (by omega)), fun _ => a_ld (n := l) rfl (by show _ < 60; omega) ?_⟩
      have N : ¬ (G 17 l ≠ 0 ∧ G 18 (60 * l + p) ≠ 0) → v_M_isSilent_j59 post (v_M_isSilent_j4 post (d + 1)) (encS G) (nI p) (nI (cnt (fun a => decide (G 17 a ≠ 0 ∧ G 18 (60 * a + p) ≠ 0)) l)) (nI l) := fun z => by
        show v_M_isSilent_j4 post (d + 1) (encS G) (nI p) (nI (cnt (fun a => decide (G 17 a ≠ 0 ∧ G 18 (60 * a + p) ≠ 0)) l)) (nI l + 1)
        rw [cnt_f (P := fun a => decide (G 17 a ≠ 0 ∧ G 18 (60 * a + p) ≠ 0)) (decide_eq_false z), nI_1]
        exact ih (l + 1) (by omega) (by rw [cnt_0 (P := fun a => decide (G 17 a ≠ 0 ∧ G 18 (60 * a + p) ≠ 0 ∧ G 21 (60 * a + p) ≠ 0)) (decide_eq_false (fun w => z ⟨w.1, w.2.1⟩))]; exact hz)
      show (nI (G 17 l) = 0 → _) ∧ (¬ nI (G 17 l) = 0 → _)
      rw [nI_z (by omega)]
      refine ⟨fun z => N (fun w => w.1 z), fun z => a_ld (n := 60 * l + p) (ix60 l p) (by show _ < 3600; omega) ?_⟩
      show (nI (G 18 (60 * l + p)) = 0 → _) ∧ (¬ nI (G 18 (60 * l + p)) = 0 → _)
      rw [nI_z (by omega)]
      refine ⟨fun z2 => N (fun w => w.2 z2), fun z2 => a_ld (n := 60 * l + p) (ix60 l p) (by show _ < 3600; omega) ?_⟩
      show (m2 (G 21 (60 * l + p)) = -2 → _) ∧ (¬ m2 (G 21 (60 * l + p)) = -2 → _)
      rw [m2_eq2 (by omega)]
      refine ⟨fun z3 => ?_, fun z3 => h0 (decide_eq_false (fun w => ?_))⟩
      · show v_M_isSilent_j4 post (d + 1) (encS G) (nI p) (nI (cnt (fun a => decide (G 17 a ≠ 0 ∧ G 18 (60 * a + p) ≠ 0)) l) + 1) (nI l + 1)
        rw [cnt_t (P := fun a => decide (G 17 a ≠ 0 ∧ G 18 (60 * a + p) ≠ 0)) (decide_eq_true ⟨z, z2⟩), nI_1]
        exact ih (l + 1) (by omega) (by rw [cnt_0 (P := fun a => decide (G 17 a ≠ 0 ∧ G 18 (60 * a + p) ≠ 0 ∧ G 21 (60 * a + p) ≠ 0)) (decide_eq_false (fun w => w.2.2 z3))]; exact hz)
      · have a1 := cnt_mono (P := fun a => decide (G 17 a ≠ 0 ∧ G 18 (60 * a + p) ≠ 0 ∧ G 21 (60 * a + p) ≠ 0)) (l := l + 1) (G 12 0) (by omega)
        rw [cnt_1 (P := fun a => decide (G 17 a ≠ 0 ∧ G 18 (60 * a + p) ≠ 0 ∧ G 21 (60 * a + p) ≠ 0)) (decide_eq_true ⟨z, z2, z3⟩)] at a1
        have a2 := w.2
        unfold cAns at a2
        omega
  have k0 := key (G 12 0) 0 rfl rfl
  rw [show cnt (fun a => decide (G 17 a ≠ 0 ∧ G 18 (60 * a + p) ≠ 0)) 0 = 0 from rfl, nI_0] at k0
  exact ⟨_, k0⟩
def nvF (P : Nat → Bool) (i : Nat) : Nat → Nat → Int32
  | 0, _ => -1
  | d + 1, l => if P l = true then (if cnt P l = i then nI l else nvF P i d (l + 1)) else nvF P i d (l + 1)
theorem nvF_0 {P : Nat → Bool} {i d l : Nat} (h : P l = false) : nvF P i (d + 1) l = nvF P i d (l + 1) := by
  show (if P l = true then (if cnt P l = i then nI l else nvF P i d (l + 1)) else nvF P i d (l + 1)) = _
  rw [if_neg (by rw [h]; decide)]
theorem nvF_1 {P : Nat → Bool} {i d l : Nat} (h : P l = true) : nvF P i (d + 1) l = if cnt P l = i then nI l else nvF P i d (l + 1) := by
  show (if P l = true then (if cnt P l = i then nI l else nvF P i d (l + 1)) else nvF P i d (l + 1)) = _
  rw [if_pos h]
theorem rf_nvl {post : Int32 → Sm → Prop} {i : Nat} (hI : Inv G) (hi : i < 2 ^ 31) : ∀ d l, d + l = G 6 0 → cnt (silB G) l ≤ i → post (nvF (silB G) i d l) (encS G) → v_M_never_j24 post (d + 1) (encS G) (nI (i - cnt (silB G) l)) (nI l) := by
  have hnp := hI.1.2.1.2.1
  intro d
  induction d with
  | zero =>
    intro l hl hc h
    have e : l = G 6 0 := by omega
    subst e
    exact ⟨fun _ => h, fun z => absurd (nI_le (Nat.le_refl _) (by omega)) z⟩
  | succ d ih =>
    intro l hl hc h
    refine ⟨fun z => absurd z (nI_ge (a := l) (b := G 6 0) (by omega) (by omega)), fun _ => rf_isSilent hI.1.1 hI.1.2.1.2.2.1 (by omega) (fun s => ⟨fun _ => ?_, fun z => absurd rfl z⟩) (fun s => ⟨fun z => absurd z d10, fun _ => ?_⟩)⟩
    · show v_M_never_j24 post (d + 1) (encS G) (nI (i - cnt (silB G) l)) (nI l + 1)
      have e := nvF_0 (i := i) (d := d) s
      rw [e] at h
      rw [nI_1, ← cnt_0 s]
      exact ih (l + 1) (by omega) (by rw [cnt_0 s]; exact hc) h
    · rw [nI_z (by omega)]
      have e := nvF_1 (i := i) (d := d) s
      rw [e] at h
      refine ⟨fun z => ?_, fun z => ?_⟩
      · rw [if_pos (by omega)] at h; exact h
      · rw [if_neg (by omega)] at h
        show v_M_never_j24 post (d + 1) (encS G) (nI (i - cnt (silB G) l) + (-1)) (nI l + 1)
        have e2 : i - cnt (silB G) l = (i - cnt (silB G) (l + 1)) + 1 := by rw [cnt_1 s]; omega
        rw [e2, pk_m1, nI_1]
        exact ih (l + 1) (by omega) (by rw [cnt_1 s]; omega) h
theorem rf_never {post : Int32 → Sm → Prop} {x : Int32} (hI : Inv G) (h1 : x < 0 → post 0 (encS (gu G 0 0 1))) (h0 : ∀ i : Nat, x = nI i → i < 2 ^ 31 → post (nvF (silB G) i (G 6 0) 0) (encS (gu G 0 0 0))) : v_M_never post (encS G) x := by
  refine ⟨fun z => rf_goes (fun _ => ⟨fun _ => h1 z, fun w => absurd rfl w⟩) (fun w => absurd rfl w) (fun w => absurd rfl w) (fun w => absurd rfl w), fun z => rf_goes (fun w => absurd w d10) (fun _ w => absurd w d10) (fun _ _ w => absurd w d10) (fun _ _ _ => ⟨fun w => absurd w d10, fun _ => ?_⟩)⟩
  obtain ⟨i, hi, e⟩ := nI_of z
  have q := rf_nvl (G := gu G 0 0 0) (post := post) (inv_th (by decide) hI) hi (G 6 0) 0 rfl (Nat.zero_le _) (h0 i e hi)
  rw [nI_0] at q
  rw [e]
  exact ⟨_, q⟩
theorem cl_nvl {post : Int32 → Sm → Prop} {px : String → Sm → Prop} {i : Nat} (hI : Inv G) (hQ : RQ G C) (hi : i < 2 ^ 31) : ∀ d l, d + l = G 6 0 → cnt (silB G) l ≤ i → post (nvF (silB G) i d l) C → u_A_never_j8 post px (d + 1) mc ms C (nI i) (nI (cnt (silB G) l)) (nI l) := by
  have hnp := hI.1.2.1.2.1
  have hna := hI.1.2.1.2.2.1
  have e5 := hQ.1.2.2.2.2.2.1
  intro d
  induction d with
  | zero =>
    intro l hl hc h
    have e : l = G 6 0 := by omega
    subst e
    refine ⟨fun _ => h, fun z => absurd (by rw [e5]; exact nI_le (Nat.le_refl _) (by omega)) z⟩
  | succ d ih =>
    intro l hl hc h
    refine ⟨fun z => absurd z (by rw [e5]; exact nI_ge (a := l) (b := G 6 0) (by omega) (by omega)), fun _ => ⟨by rw [(rq_cn hI.1.2.1 hQ.1).2.1]; exact vp_in_nI (by omega) (by omega), ?_⟩⟩
    rw [nI_clamp (by omega)]
    obtain ⟨-, -, -, q4, q5, -⟩ := hQ.2.2.1 l (by omega)
    have hca : cAsk G l ≤ G 12 0 := cnt_le _ _
    have hcn : cAns G l ≤ G 12 0 := cnt_le _ _
    have hcl := cnt_le (silB G) l
    have N : silB G l = false → u_A_never_j46 post px (u_A_never_j8 post px (d + 1)) mc ms C (nI i) (nI (cnt (silB G) l)) (nI l) := fun s => by
      show u_A_never_j8 post px (d + 1) mc ms C (nI i) (nI (cnt (silB G) l)) (nI l + 1)
      have e := nvF_0 (i := i) (d := d) s
      rw [e] at h
      rw [nI_1, ← cnt_0 s]
      exact ih (l + 1) (by omega) (by rw [cnt_0 s]; exact hc) h
    show (C 25 l < 3 → _) ∧ (¬ C 25 l < 3 → (C 26 l = 0 → _) ∧ (¬ C 26 l = 0 → _))
    rw [q4, q5, nl3 (by omega), nI_z (by omega)]
    refine ⟨fun z => ⟨fun _ => N (decide_eq_false (by omega)), fun w => absurd rfl w⟩, fun z => ⟨fun z2 => ⟨fun w => absurd w d10, fun _ => ?_⟩, fun z2 => ⟨fun _ => N (decide_eq_false (by omega)), fun w => absurd rfl w⟩⟩⟩
    have s : silB G l = true := decide_eq_true ⟨by omega, z2⟩
    have e := nvF_1 (i := i) (d := d) s
    rw [e] at h
    rw [nI_eq (by omega) (by omega)]
    refine ⟨fun z => ?_, fun z => ?_⟩
    · rw [if_pos z] at h; exact h
    · rw [if_neg z] at h
      show u_A_never_j8 post px (d + 1) mc ms C (nI i) (nI (cnt (silB G) l) + 1) (nI l + 1)
      rw [cnt_t s, nI_1]
      exact ih (l + 1) (by omega) (by rw [cnt_1 s]; omega) h
theorem op_never {x : Int32} (hI : Inv G) (hQ : RQ G C) (hmc : 10 ≤ mc) (hms : 300 ≤ ms) : u_A_never (fun r C' => v_M_never (fun b S' => b = r ∧ Fin9 C' S' 0) (encS G) x) (PX1 eIO (fun k C' => v_M_never (fun _ S' => Fin9 C' S' k) (encS G) x)) mc ms C x := by
  refine ⟨1, 6, by omega, by omega, fun z => ?_, fun z => ⟨Nat.le_refl _, Nat.le_refl _, rfl, rf_never hI (fun _ => fin_th 1 (by decide) hI hQ) (fun i e hi => absurd (by rw [e]; exact nI_pos' hi) z)⟩⟩
  obtain ⟨i, hi, e⟩ := nI_of (x := x) (Int32.not_lt.mpr z)
  have q := cl_nvl (mc := mc - 1) (ms := ms - 6) (px := PX1 eIO (fun k C' => v_M_never (fun _ S' => Fin9 C' S' k) (encS G) x)) (post := fun r C' => v_M_never (fun b S' => b = r ∧ Fin9 C' S' 0) (encS G) x) hI hQ hi (G 6 0) 0 rfl (Nat.zero_le _) (rf_never hI (fun w => absurd z (Int32.not_le.mpr w)) (fun i' e' hi' => ⟨by rw [(nI_eq hi' hi).mp (e'.symm.trans e)], fin_th 0 (by decide) hI hQ⟩))
  rw [show cnt (silB G) 0 = 0 from rfl, nI_0, ← e] at q
  exact ⟨_, q⟩
/-! share -/
theorem mAsk_le (a : Nat) : mAsk G a ≤ 60 := cnt_le _ _
theorem mAns_le (a : Nat) : mAns G a ≤ mAsk G a := cnt_imp _ (fun i _ h => by
  have := of_decide_eq_true h
  exact decide_eq_true this.1)
theorem sm_imp {f g : Nat → Nat} : ∀ n, (∀ i, i < n → f i ≤ g i) → sm f n ≤ sm g n := by
  intro n
  induction n with
  | zero => intro _; exact Nat.le_refl _
  | succ n ih =>
    intro h
    have h1 := ih (fun i hi => h i (by omega))
    have h2 := h n (by omega)
    show sm f n + f n ≤ sm g n + g n
    omega
theorem sGood_le (g : Nat) : sGood G g ≤ sAll G g := sm_imp _ (fun i _ => by
  by_cases z : G 13 i = g ∧ G 17 i ≠ 0
  · show (if _ then _ else _) ≤ (if _ then _ else _)
    rw [if_pos z, if_pos z]; exact mAns_le i
  · show (if _ then _ else _) ≤ (if _ then _ else _)
    rw [if_neg z, if_neg z]; exact Nat.le_refl _)
theorem sAll_le (h : G 12 0 ≤ 60) (g : Nat) : sAll G g ≤ 3600 := by
  have q := sm_le (f := fun a => if G 13 a = g ∧ G 17 a ≠ 0 then mAsk G a else 0) (B := 60) (G 12 0) (fun i _ => ite_le9 (mAsk_le i) (by decide))
  have e : sAll G g ≤ 60 * G 12 0 := q
  omega
theorem gcd_st (x y : Nat) : Nat.gcd y (x % y) = Nat.gcd x y := by
  rw [Nat.gcd_comm y (x % y), ← Nat.gcd_rec, Nat.gcd_comm]
theorem rf_gcd {post : Int32 → Sm → Prop} {S : Sm} {w al go : Int32} {D : Nat} (hD : 0 < D) (h : post ((if w = 0 then go else al) / nI D) S) : ∀ n x y : Nat, y < n → x < 2 ^ 31 → y < 2 ^ 31 → Nat.gcd x y = D → v_M_share_j117 post n S w al go (nI x) (nI y) := by
  intro n
  induction n with
  | zero => intro x y h1; omega
  | succ n ih =>
    intro x y hn hx hy hg
    show (nI y ≤ 0 → _) ∧ (¬ nI y ≤ 0 → _)
    rw [nl0 hy]
    refine ⟨fun z => ?_, fun z => ⟨nI_ne0 (by omega) hy, ?_⟩⟩
    · have e : y = 0 := by omega
      subst e
      rw [Nat.gcd_zero_right] at hg
      subst hg
      refine ⟨fun w0 => ⟨nI_ne0 hD hx, ?_⟩, fun w0 => ⟨nI_ne0 hD hx, ?_⟩⟩
      · rw [if_pos w0] at h; exact h
      · rw [if_neg w0] at h; exact h
    · rw [pk_rem hx (by omega) hy]
      have hm : x % y < y := Nat.mod_lt _ (by omega)
      exact ih y (x % y) (by omega) hy (by omega) (by rw [gcd_st]; exact hg)
theorem half2 (u l : Nat) (hl : 0 < l) (hr : 0 < u % l) : 2 * (l % (u % l)) < l := by
  have h1 : u % l < l := Nat.mod_lt _ hl
  have h2 : l % (u % l) < u % l := Nat.mod_lt _ hr
  have h3 : (u % l) * (l / (u % l)) + l % (u % l) = l := Nat.div_add_mod _ _
  have h4 : 1 ≤ l / (u % l) := (Nat.le_div_iff_mul_le hr).mpr (by omega)
  have h5 : (u % l) * 1 ≤ (u % l) * (l / (u % l)) := Nat.mul_le_mul_left _ h4
  omega
theorem cl_gcd {post : Int32 → Sm → Prop} {D : Nat} (h : post (nI D) C) : ∀ k u l s : Nat, l < 2 ^ k → s + 2 * k ≤ 50 → u < 2 ^ 31 → l < 2 ^ 31 → Nat.gcd u l = D → u_A_commonDivisor_j7 post (2 * k + 1) C (nI u) (nI l) (nI s) := by
  intro k
  induction k with
  | zero =>
    intro u l s hl hs hu hl2 hg
    have e : l = 0 := by omega
    subst e
    rw [Nat.gcd_zero_right] at hg
    subst hg
    exact ⟨fun _ => h, fun _ => ⟨fun _ => h, fun z => absurd rfl z⟩⟩
  | succ k ih =>
    intro u l s hl hs hu hl2 hg
    show u_A_commonDivisor_j7 post (2 * k + 1 + 1 + 1) C (nI u) (nI l) (nI s)
    refine ⟨fun z => absurd z (nI_ge (a := s) (b := 50) (by omega) (by decide)), fun _ => ⟨fun z => ?_, fun z => ⟨z, ?_⟩⟩⟩
    · have e : l = 0 := (nI_z hl2).mp z
      subst e
      rw [Nat.gcd_zero_right] at hg
      subst hg
      exact h
    · have l0 : 0 < l := Nat.pos_of_ne_zero (fun w => z ((nI_z hl2).mpr w))
      have hm : u % l < l := Nat.mod_lt _ l0
      rw [pk_rem hu l0 hl2, nI_1]
      refine ⟨fun z => absurd z (nI_ge (a := s + 1) (b := 50) (by omega) (by decide)), fun _ => ⟨fun z2 => ?_, fun z2 => ⟨z2, ?_⟩⟩⟩
      · have e : u % l = 0 := (nI_z (by omega)).mp z2
        rw [← gcd_st, e, Nat.gcd_zero_right] at hg
        subst hg
        exact h
      · have r0 : 0 < u % l := Nat.pos_of_ne_zero (fun w => z2 ((nI_z (by omega)).mpr w))
        have hm2 : l % (u % l) < u % l := Nat.mod_lt _ r0
        have hh := half2 u l l0 r0
        rw [pk_rem hl2 r0 (by omega), nI_1]
        have h2k : 2 ^ (k + 1) = 2 * 2 ^ k := by rw [Nat.pow_succ, Nat.mul_comm]
        exact ih (u % l) (l % (u % l)) (s + 1 + 1) (by omega) (by omega) (by omega) (by omega) (by rw [gcd_st, gcd_st]; exact hg)
def shV (G : Gs) (g w : Nat) : Int32 := (if w = 0 then nI (sGood G g) else nI (sAll G g)) / nI (Nat.gcd (sAll G g) (sGood G g))
theorem nI_sm {f : Nat → Nat} {l : Nat} {v : Int32} (h : v = nI (f l)) : nI (sm f l) + v = nI (sm f (l + 1)) := by
  rw [h, nI_add]; rfl
theorem sm_k {f : Nat → Nat} {l : Nat} (h : f l = 0) : nI (sm f l) = nI (sm f (l + 1)) := by
  show _ = nI (sm f l + f l)
  rw [h]; rfl
theorem rf_share {post : Int32 → Sm → Prop} {x1 x2 : Int32} (hI : Inv G) (h1 : ¬ (vp_in x1 (G 2 0) ∧ 0 ≤ x2 ∧ x2 ≤ 1) → post 0 (encS (gu G 0 0 1))) (h2 : ∀ g w : Nat, x1 = nI g → g < G 2 0 → x2 = nI w → w ≤ 1 → sAll G g = 0 → post 0 (encS (gu G 0 0 2))) (h0 : ∀ g w : Nat, x1 = nI g → g < G 2 0 → x2 = nI w → w ≤ 1 → sAll G g ≠ 0 → post (shV G g w) (encS (gu G 0 0 0))) : v_M_share post (encS G) x1 x2 := by
  have H0 := hI.1.2.1
  have hB := hI.1.1
  have hna := H0.2.2.1
  have hng := H0.1
  have key : ∀ d l, d + l = G 12 0 → v_M_share_j8 post (d + 1) (encS G) x1 x2 (nI (sm (fun a => if nI (G 13 a) = x1 ∧ G 17 a ≠ 0 then mAsk G a else 0) l)) (nI (sm (fun a => if nI (G 13 a) = x1 ∧ G 17 a ≠ 0 then mAns G a else 0) l)) (nI l) := by
    intro d
    induction d with
    | zero =>
      intro l hl
      have e : l = G 12 0 := by omega
      subst e
      refine ⟨fun _ => ?_, fun z => absurd (nI_le (Nat.le_refl _) (by omega)) z⟩
      have J0 : ¬ (vp_in x1 (G 2 0) ∧ 0 ≤ x2 ∧ x2 ≤ 1) → ∀ a b : Int32, v_M_share_j91 post (encS G) x2 a b := fun w a b =>
        ⟨fun _ => rf_goes (fun _ => ⟨fun _ => h1 w, fun z => absurd rfl z⟩) (fun z => absurd rfl z) (fun z => absurd rfl z) (fun z => absurd rfl z), fun _ => rf_goes (fun _ => ⟨fun _ => h1 w, fun z => absurd rfl z⟩) (fun z => absurd rfl z) (fun z => absurd rfl z) (fun z => absurd rfl z)⟩
      refine rf_isGroup H0 (fun g => ⟨fun z => absurd z d10, fun _ => rf_in (fun a b => ⟨fun z => absurd z d10, fun _ => ?_⟩) (fun c => ⟨fun _ => J0 (fun w => c w.2) _ _, fun z => absurd rfl z⟩)⟩) (fun g => ⟨fun _ => J0 (fun w => g w.1) _ _, fun z => absurd rfl z⟩)
      obtain ⟨g, hg, e1, -⟩ := in_nI g (by omega)
      obtain ⟨w, hw, e2⟩ := lim_nI (n := 1) (by decide) a b
      have EA : sm (fun a => if nI (G 13 a) = x1 ∧ G 17 a ≠ 0 then mAsk G a else 0) (G 12 0) = sAll G g := sm_cg (fun i hi => by
        have h13 := hB 13 i (by decide)
        show (if nI (G 13 i) = x1 ∧ G 17 i ≠ 0 then _ else _) = if G 13 i = g ∧ G 17 i ≠ 0 then _ else _
        refine ite_iff ?_
        rw [e1, nI_eq (by omega) (by omega)])
      have EG : sm (fun a => if nI (G 13 a) = x1 ∧ G 17 a ≠ 0 then mAns G a else 0) (G 12 0) = sGood G g := sm_cg (fun i hi => by
        have h13 := hB 13 i (by decide)
        show (if nI (G 13 i) = x1 ∧ G 17 i ≠ 0 then _ else _) = if G 13 i = g ∧ G 17 i ≠ 0 then _ else _
        refine ite_iff ?_
        rw [e1, nI_eq (by omega) (by omega)])
      rw [EA, EG]
      have b1 := sAll_le hna g
      have b2 := sGood_le (G := G) g
      show (nI (sAll G g) ≤ 0 → _) ∧ (¬ nI (sAll G g) ≤ 0 → _)
      rw [nl0 (by omega)]
      refine ⟨fun z => rf_goes (fun y => absurd y d10) (fun _ _ => ⟨fun _ => h2 g w e1 hg e2 hw (by omega), fun y => absurd rfl y⟩) (fun _ y => absurd rfl y) (fun _ y => absurd rfl y), fun z => rf_goes (fun y => absurd y d10) (fun _ y => absurd y d10) (fun _ _ y => absurd y d10) (fun _ _ _ => ⟨fun y => absurd y d10, fun _ => ⟨sGood G g + 1, ?_⟩⟩)⟩
      have q := h0 g w e1 hg e2 hw (by omega)
      refine rf_gcd (D := Nat.gcd (sAll G g) (sGood G g)) (Nat.gcd_pos_of_pos_left _ (by omega)) ?_ _ _ _ (Nat.lt_succ_self _) (by omega) (by omega) rfl
      unfold shV at q
      have ew : (if x2 = 0 then nI (sGood G g) else nI (sAll G g)) = (if w = 0 then nI (sGood G g) else nI (sAll G g)) := by
        refine ite_iff ?_
        rw [e2, nI_z (by omega)]
      rw [ew]
      exact q
    | succ d ih =>
      intro l hl
      have h17 := hB 17 l (by decide)
      refine ⟨fun z => absurd z (nI_ge (a := l) (b := G 12 0) (by omega) (by omega)), fun _ => a_ld (n := l) rfl (by show _ < 60; omega) ?_⟩
      have N : ¬ (nI (G 13 l) = x1 ∧ G 17 l ≠ 0) → v_M_share_j63 post (v_M_share_j8 post (d + 1)) (encS G) x1 x2 (nI (sm (fun a => if nI (G 13 a) = x1 ∧ G 17 a ≠ 0 then mAsk G a else 0) l)) (nI (sm (fun a => if nI (G 13 a) = x1 ∧ G 17 a ≠ 0 then mAns G a else 0) l)) (nI l) := fun z => by
        unfold v_M_share_j63
        rw [nI_1, sm_k (f := fun a => if nI (G 13 a) = x1 ∧ G 17 a ≠ 0 then mAsk G a else 0) (if_neg z), sm_k (f := fun a => if nI (G 13 a) = x1 ∧ G 17 a ≠ 0 then mAns G a else 0) (if_neg z)]
        exact ih (l + 1) (by omega)
      refine ⟨fun z => a_ld (n := l) rfl (by show _ < 60; omega) ?_, fun z => N (fun w => z w.1)⟩
      show (nI (G 17 l) = 0 → _) ∧ (¬ nI (G 17 l) = 0 → _)
      rw [nI_z (by omega)]
      refine ⟨fun z2 => N (fun w => w.2 z2), fun z2 => rf_many (w := 1) hB (by omega) (by omega) (rf_many (w := 3) hB (by omega) (by omega) ?_)⟩
      unfold v_M_share_j63
      rw [nI_1, nI_sm (f := fun a => if nI (G 13 a) = x1 ∧ G 17 a ≠ 0 then mAsk G a else 0) (by rw [mW1]; exact congrArg nI (if_pos ⟨z, z2⟩).symm), nI_sm (f := fun a => if nI (G 13 a) = x1 ∧ G 17 a ≠ 0 then mAns G a else 0) (by rw [mW3]; exact congrArg nI (if_pos ⟨z, z2⟩).symm)]
      exact ih (l + 1) (by omega)
  have k0 := key (G 12 0) 0 rfl
  rw [show sm (fun a => if nI (G 13 a) = x1 ∧ G 17 a ≠ 0 then mAsk G a else 0) 0 = 0 from rfl, show sm (fun a => if nI (G 13 a) = x1 ∧ G 17 a ≠ 0 then mAns G a else 0) 0 = 0 from rfl, nI_0] at k0
  exact ⟨_, k0⟩
theorem op_share {x1 x2 : Int32} (hI : Inv G) (hQ : RQ G C) (hmc : 10 ≤ mc) (hms : 300 ≤ ms) : u_A_share (fun r C' => v_M_share (fun b S' => b = r ∧ Fin9 C' S' 0) (encS G) x1 x2) (PX2 eIA eAR (fun k C' => v_M_share (fun _ S' => Fin9 C' S' k) (encS G) x1 x2)) mc ms C x1 x2 := by
  have H0 := hI.1.2.1
  have hna := H0.2.2.1
  have hng := H0.1
  refine ⟨1, 6, by omega, by omega, cl_gOf H0 hQ.1 (Nat.le_refl _) (Nat.le_refl _) (fun g => ?_) (fun g => Or.inl ⟨rfl, rf_share hI (fun _ => fin_th 1 (by decide) hI hQ) (fun g' _ e h => absurd (by rw [e]; exact vp_in_nI h (by omega)) g) (fun g' _ e h => absurd (by rw [e]; exact vp_in_nI h (by omega)) g)⟩)⟩
  obtain ⟨i, hi, e1, ec⟩ := in_nI g (by omega)
  rw [ec]
  obtain ⟨-, -, -, q4, q5⟩ := hQ.2.1 i hi
  have b1 := sAll_le hna i
  have b2 := sGood_le (G := G) i
  have main : ∀ w : Nat, w ≤ 1 → x2 = nI w → u_A_share_j25 (fun r C' => v_M_share (fun b S' => b = r ∧ Fin9 C' S' 0) (encS G) x1 x2) (PX2 eIA eAR (fun k C' => v_M_share (fun _ S' => Fin9 C' S' k) (encS G) x1 x2)) (mc - 1) (ms - 6) C x2 i := by
    intro w hw e2
    have g2 : vp_in x1 (G 2 0) ∧ 0 ≤ x2 ∧ x2 ≤ 1 := ⟨g, by rw [e2]; exact nI_pos' (by omega), by rw [e2]; exact nI_le (b := 1) hw (by decide)⟩
    unfold u_A_share_j25 u_A_commonDivisor
    rw [q4, q5]
    refine ⟨2 * 12 + 1, ?_⟩
    have kk := cl_gcd (C := C) (D := Nat.gcd (sAll G i) (sGood G i)) (post := fun r2 C1 => ((1 ≤ r2) → ((x2 = 0) → (¬ r2 = 0) ∧ v_M_share (fun b S' => b = (C1 14 i) / r2 ∧ Fin9 C1 S' 0) (encS G) x1 x2) ∧ (¬ (x2 = 0) → (¬ r2 = 0) ∧ v_M_share (fun b S' => b = (C1 13 i) / r2 ∧ Fin9 C1 S' 0) (encS G) x1 x2)) ∧ (¬ (1 ≤ r2) → 1 ≤ mc - 1 ∧ 6 ≤ ms - 6 ∧ PX2 eIA eAR (fun k C' => v_M_share (fun _ S' => Fin9 C' S' k) (encS G) x1 x2) "java/lang/ArithmeticException" C1)) (by
      have hgb : Nat.gcd (sAll G i) (sGood G i) ≤ 3600 := by
        by_cases z : sAll G i = 0
        · have : sGood G i = 0 := by omega
          rw [z, this]; decide
        · have := Nat.gcd_le_left (sGood G i) (Nat.pos_of_ne_zero z); omega
      rw [q4, q5, n1l (by omega)]
      have fin : ∀ r : Int32, Nat.gcd (sAll G i) (sGood G i) ≠ 0 → shV G i w = r → v_M_share (fun b S' => b = r ∧ Fin9 C S' 0) (encS G) x1 x2 := by
        intro r hne hr
        have hs : sAll G i ≠ 0 := fun z => hne (by rw [z, show sGood G i = 0 by omega]; rfl)
        refine rf_share hI (fun z => absurd g2 z) (fun g' w' f1 fg f2 fw fz => ?_) (fun g' w' f1 fg f2 fw fz => ⟨?_, fin_th 0 (by decide) hI hQ⟩)
        · have y1 : g' = i := (nI_eq (by omega) (by omega)).mp (f1.symm.trans e1)
          rw [y1] at fz; exact absurd fz hs
        · have y1 : g' = i := (nI_eq (by omega) (by omega)).mp (f1.symm.trans e1)
          have y2 : w' = w := (nI_eq (by omega) (by omega)).mp (f2.symm.trans e2)
          rw [y1, y2]; exact hr
      refine ⟨fun z => ⟨fun w0 => ⟨nI_ne0 z (by omega), fin _ (by omega) ?_⟩, fun w0 => ⟨nI_ne0 z (by omega), fin _ (by omega) ?_⟩⟩, fun z => ⟨by omega, by omega, Or.inr ⟨rfl, ?_⟩⟩⟩
      · unfold shV; rw [if_pos ((nI_z (by omega)).mp (e2 ▸ w0))]
      · unfold shV; rw [if_neg (fun y => w0 (by rw [e2, y]; rfl))]
      · have hz : sAll G i = 0 := by
          have := fun y => Nat.gcd_pos_of_pos_left (m := sAll G i) (sGood G i) y
          omega
        refine rf_share hI (fun z => absurd g2 z) (fun g' w' f1 fg f2 fw fz => fin_th 2 (by decide) hI hQ) (fun g' w' f1 fg f2 fw fz => ?_)
        have y1 : g' = i := (nI_eq (by omega) (by omega)).mp (f1.symm.trans e1)
        rw [y1] at fz; exact absurd hz fz) 12 (sAll G i) (sGood G i) 0 (by omega) (by omega) (by omega) (by omega) rfl
    rw [nI_0] at kk
    exact kk
  refine ⟨fun z => main 0 (by decide) z, fun z => ⟨fun z2 => main 1 (by decide) z2, fun z2 => ⟨by omega, by omega, Or.inl ⟨rfl, ?_⟩⟩⟩⟩
  refine rf_share hI (fun _ => fin_th 1 (by decide) hI hQ) (fun g' w' f1 fg f2 fw fz => ?_) (fun g' w' f1 fg f2 fw fz => ?_)
  · exfalso
    rcases (show w' = 0 ∨ w' = 1 by omega) with rfl | rfl
    · exact z f2
    · exact z2 f2
  · exfalso
    rcases (show w' = 0 ∨ w' = 1 by omega) with rfl | rfl
    · exact z f2
    · exact z2 f2
end OPS5
