/-! THE REFERENCE: places in the ranks, the table -/
noncomputable def b01 (p : Prop) : Nat := haveI := Classical.propDecidable p; if p then 1 else 0
theorem b01_t {p : Prop} (h : p) : b01 p = 1 := by unfold b01; exact if_pos h
theorem b01_f {p : Prop} (h : ¬ p) : b01 p = 0 := by unfold b01; exact if_neg h
/-- how many of the first j -/
noncomputable def cnF (P : Nat → Prop) : Nat → Nat
  | 0 => 0
  | j + 1 => cnF P j + b01 (P j)
theorem cnF_le (P : Nat → Prop) : ∀ j, cnF P j ≤ j
  | 0 => Nat.le_refl _
  | j + 1 => by
    have := cnF_le P j
    by_cases h : P j
    · rw [cnF, b01_t h]; omega
    · rw [cnF, b01_f h]; omega
theorem cnF_t {P : Nat → Prop} {j : Nat} (h : P j) : cnF P (j + 1) = cnF P j + 1 := by rw [cnF, b01_t h]
theorem cnF_f {P : Nat → Prop} {j : Nat} (h : ¬ P j) : cnF P (j + 1) = cnF P j := by rw [cnF, b01_f h, Nat.add_zero]
theorem upd_upd {f : Nat → Int32} {k : Nat} {x y : Int32} : upd (upd f k x) k y = upd f k y := by
  funext i
  unfold upd
  by_cases h : i = k <;> simp [h]
theorem upd_ltF' {j : Nat} {a b : Nat → Int32} {x : Int32} (h : x = a j) : upd (ltF j a b) j x = ltF (j + 1) a b := by rw [h, upd_ltF]
section REF4
variable {X : rX} {h : rH} {σ : Nat → Nat → Int32} {t : rH}
/-- who is in the ranks: all, or those that are ranked -/
def inP (z : Int32) (σ : Nat → Nat → Int32) (c : Nat) : Prop := z = nI 1 ∨ rkP σ c
/-- the place of a car in the ranks; none -/
noncomputable def rkF (z : Int32) (σ : Nat → Nat → Int32) (N c : Nat) : Int32 := haveI := Classical.propDecidable (inP z σ c); if inP z σ c then nI (cnF (fun o => o ≠ c ∧ inP z σ o ∧ ahdR σ N o c) 10) else -1
theorem rkF_t {z : Int32} {N c : Nat} (h : inP z σ c) : rkF z σ N c = nI (cnF (fun o => o ≠ c ∧ inP z σ o ∧ ahdR σ N o c) 10) := by unfold rkF; exact if_pos h
theorem rkF_f {z : Int32} {N c : Nat} (h : ¬ inP z σ c) : rkF z σ N c = -1 := by unfold rkF; exact if_neg h
/-- the world with the ranks half laid: the cars under c, and of c what x says -/
noncomputable def lyW (z : Int32) (σ : Nat → Nat → Int32) (N c : Nat) : Nat → Nat → Int32 := sA σ 55 (ltF c (rkF z σ N) (σ 55))
/-- what laysRanks makes of the world -/
noncomputable def lay1 (σ : Nat → Nat → Int32) (N : Nat) : Nat → Nat → Int32 := sA σ 56 (ltF 10 (ttR σ N) (σ 56))
noncomputable def layR (z : Int32) (σ : Nat → Nat → Int32) (N : Nat) : Nat → Nat → Int32 := lyW z (lay1 σ N) N 10
/-- are the legs ahead open -/
def opnF (kd mn : Nat → Int32) : Nat → Prop
  | 0 => True
  | j + 1 => opnF kd mn j ∧ (kd j = nI 0 → ¬ mn j = -1)
end REF4
