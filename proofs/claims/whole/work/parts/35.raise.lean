/-! What raising an alarm does to the class's memory. -/
def asksC (C : Sm) (g t : Int32) (p : Nat) : Bool := decide (C 20 p = g) && (decide (C 24 p = 0) || (decide (¬ t = 0) && decide (C 24 p = 1)))
def rnC (C : Sm) (p : Nat) : Nat → Nat → Int32
  | 0, _ => -1
  | n + 1, i => if nI i < C 23 p ∧ i < 3 then (if C 22 (3 * p + i) = 0 then rnC C p n (i + 1) else 200 * nI i + C 21 (3 * p + i)) else -1
def raiseC (C : Sm) (g t rs : Int32) : Sm := fun s p =>
  if s = 6 ∧ p = 0 then nI (cn C 2 + 1) else if s = 30 ∧ p = cn C 2 then g else if s = 31 ∧ p = cn C 2 then t else if s = 32 ∧ p = cn C 2 then C 0 0 else if s = 33 ∧ p = cn C 2 then C 0 0 + C 11 g.toNatClampNeg else if s = 34 ∧ p = cn C 2 then rs else if s = 37 ∧ p = cn C 2 then 0
  else if s = 35 ∧ 60 * cn C 2 ≤ p ∧ p < 60 * cn C 2 + 60 then (if p - 60 * cn C 2 < cn C 1 ∧ asksC C g t (p - 60 * cn C 2) = true then rnC C (p - 60 * cn C 2) 3 0 else -2) else if s = 36 ∧ 60 * cn C 2 ≤ p ∧ p < 60 * cn C 2 + 60 then -2 else C s p
def u_A_raise (post : Sm → Prop) (px : String → Sm → Prop) (mc ms : Nat) (C : Sm) (g t rs : Int32) : Prop := vp_in g (cn C 0) ∧ cn C 2 < 60 ∧ (t = 0 ∨ t = 1) ∧ 4 ≤ mc ∧ 300 ≤ ms ∧ post (raiseC C g t rs)
theorem lc_A_raise {e0 : Nat} {M0 : zM} {own : Nat → Prop} {x : Nat} {post : Sm → Prop} {po : zM → Prop} {px : String → Sm → Prop} {pxo : String → zM → Prop} {mc ms : Nat} {Z : Zc} {nn : Nat → Nat} {M : zM} {C : Sm} {g t rs : Int32} (hR : RCx e0 M0 own M Z C x nn) (hv : u_A_raise post px mc ms C g t rs) (hp : ∀ (M : zM) (Z : Zc) (C : Sm) (nn : Nat → Nat), RCx e0 M0 own M Z C x nn → post C → po M) (hpx : ∀ (E : String) (M : zM) (Z : Zc) (C : Sm) (nn : Nat → Nat), RCx e0 M0 own M Z C x nn → px E C → pxo E M) : w_A_raise e0 po pxo mc ms M x g t rs := sorry
