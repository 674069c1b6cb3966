/-! THE REFERENCE: calls that read little -/
theorem inR_nI {x : Int32} {n : Nat} (h : inR x n) : ∃ j, j < n ∧ x = nI j := h
theorem t35_1 {σ : Nat → Nat → Int32} {v : Int32} : u2 σ 35 0 v 35 1 = σ 35 1 := rfl
theorem t35_20 {σ : Nat → Nat → Int32} {v : Int32} : u2 σ 35 0 v 35 20 = σ 35 20 := rfl
section REF6
variable {X : rX} {h : rH} {σ : Nat → Nat → Int32} {t : rH}
/-- the arguments of an item are right -/
def okI (a b : Int32) : Prop := inR a 3 ∧ (a = nI 2 → b = nI 0) ∧ (¬ a = nI 2 → inR b 2001)
theorem inR_1 {b : Int32} (hb : ¬ b = nI 0) : ¬ inR b 1 := fun ⟨j, hj, e⟩ => hb (by rw [e, show j = 0 by omega])
/-- when a car is due -/
def dueR (σ : Nat → Nat → Int32) (c i : Nat) : Int32 := if σ 48 c = nI 0 then (if σ 49 c = nI 0 then dueF (σ 36) (σ 37) (σ 38) (σ 39) (σ 40) (σ 41) c i else -1) else -1
/-- the penalty by a stamp -/
def byF (off : Int32) : Int32 := if nI 0 < off then nI 100 * off else (-600 : Int32) * off
/-- what a stamp makes of the state -/
def stpR (σ : Nat → Nat → Int32) (c i m : Nat) (off : Int32) (z : Int32) : Nat → Nat → Int32 :=
  u2 (u2 (u2 (u2 (u2 σ 35 0 (nI 0)) 40 (10 * i + c) (nI m)) 46 c (σ 46 c + byF off)) 47 c (σ 47 c + (if nI 0 < off then off else nI 0))) 48 c z
end REF6
