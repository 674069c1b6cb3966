/-! THE REFERENCE: the championship -/
theorem sub_z {x y : Nat} (hx : x < 2 ^ 30) (hy : y < 2 ^ 30) : (nI x - nI y = nI 0) = (x = y) := by
  by_cases h : x = y
  · subst h
    rw [Int32.sub_self]
    simp [nIz]
  · rw [eq_false h]
    refine eq_false fun e => h ?_
    have e2 : nI x = nI y := by
      have := congrArg (fun z => z + nI y) e
      simp only [Int32.sub_add_cancel, ← nIz, Int32.zero_add] at this
      exact this
    exact (nI_eq (by omega) (by omega)).mp e2
theorem sub_toInt {x y : Nat} (hx : x < 2 ^ 30) (hy : y < 2 ^ 30) : (nI x - nI y).toInt = (x : Int) - (y : Int) := by
  rw [Int32.toInt_sub, nI_toInt (by omega), nI_toInt (by omega)]
  exact Int.bmod_eq_of_le (by omega) (by omega)
theorem sub_l {x y : Nat} (hx : x < 2 ^ 30) (hy : y < 2 ^ 30) : (nI x - nI y < nI 0) = (x < y) := by
  by_cases h : x < y
  · rw [eq_true h]
    refine eq_true ?_
    rw [Int32.lt_iff_toInt_lt, sub_toInt hx hy, nI_toInt (by omega)]
    omega
  · rw [eq_false h]
    refine eq_false fun e => h ?_
    rw [Int32.lt_iff_toInt_lt, sub_toInt hx hy, nI_toInt (by omega)] at e
    omega
/-- points for a place -/
def ptsN (p : Nat) : Nat := [25, 18, 15, 12, 10, 8, 6, 4, 2, 1].getD p 0
theorem ptsN_le : ∀ p, ptsN p ≤ 25
  | 0 | 1 | 2 | 3 | 4 | 5 | 6 | 7 | 8 | 9 => by decide
  | n + 10 => by simp [ptsN]
def ptV (x : Int32) : Nat := if x = -1 then 0 else ptsN (cnt x)
theorem ptV_le (x : Int32) : ptV x ≤ 25 := by
  unfold ptV
  split
  · omega
  · exact ptsN_le _
/-- a place in the ranks, or none -/
def okP (x : Int32) : Prop := x = -1 ∨ ∃ p, p < 10 ∧ x = nI p
section REF5
variable {X : rX} {h : rH} {σ : Nat → Nat → Int32} {t : rH}
/-- what the championship needs of the state -/
def RP (σ : Nat → Nat → Int32) (r : Nat) : Prop := r ≤ 6 ∧ σ 35 20 = nI r ∧ ∀ k, k < r → ∀ c, c < 10 → okP (σ 54 (10 * k + c))
def smN (pl : Nat → Int32) (c : Nat) : Nat → Nat
  | 0 => 0
  | k + 1 => smN pl c k + ptV (pl (10 * k + c))
def lsN (pl : Nat → Int32) (c : Nat) : Nat → Nat
  | 0 => 100
  | k + 1 => if ptV (pl (10 * k + c)) < lsN pl c k then ptV (pl (10 * k + c)) else lsN pl c k
theorem smN_le (pl : Nat → Int32) (c : Nat) : ∀ k, smN pl c k ≤ 25 * k
  | 0 => Nat.le_refl _
  | k + 1 => by
    have := smN_le pl c k
    have := ptV_le (pl (10 * k + c))
    unfold smN
    omega
theorem lsN_le (pl : Nat → Int32) (c : Nat) : ∀ k, lsN pl c k ≤ 100
  | 0 => Nat.le_refl _
  | k + 1 => by
    have := lsN_le pl c k
    unfold lsN
    split <;> omega
theorem lsN_sm (pl : Nat → Int32) (c k : Nat) : lsN pl c (k + 1) ≤ smN pl c (k + 1) := by
  unfold lsN smN
  split <;> omega
def sumV (pl : Nat → Int32) (r c : Nat) : Nat := if r < 3 then smN pl c r else smN pl c r - lsN pl c r
theorem sumV_le (pl : Nat → Int32) {r c : Nat} (hr : r ≤ 6) : sumV pl r c ≤ 150 := by
  have := smN_le pl c r
  unfold sumV
  split <;> omega
def ofN (pl : Nat → Int32) (c a : Nat) : Nat → Nat
  | 0 => 0
  | k + 1 => ofN pl c a k + if pl (10 * k + c) = nI a then 1 else 0
theorem ofN_le (pl : Nat → Int32) (c a : Nat) : ∀ k, ofN pl c a k ≤ k
  | 0 => Nat.le_refl _
  | k + 1 => by
    have := ofN_le pl c a k
    unfold ofN
    split <;> omega
/-- what is compared last, after the first j places: the other's, the one's -/
def prF (pl : Nat → Int32) (r a b : Nat) : Nat → Nat × Nat
  | 0 => (sumV pl r b, sumV pl r a)
  | j + 1 => if (prF pl r a b j).1 = (prF pl r a b j).2 then (ofN pl b j r, ofN pl a j r) else prF pl r a b j
theorem prF_stay {pl : Nat → Int32} {r a b j : Nat} (h : ¬ (prF pl r a b j).1 = (prF pl r a b j).2) : ∀ n, prF pl r a b (j + n) = prF pl r a b j
  | 0 => rfl
  | n + 1 => by rw [← Nat.add_assoc, prF, prF_stay h n, if_neg h]
theorem prF_le {pl : Nat → Int32} {r a b : Nat} (hr : r ≤ 6) : ∀ j, (prF pl r a b j).1 ≤ 150 ∧ (prF pl r a b j).2 ≤ 150
  | 0 => ⟨sumV_le pl hr, sumV_le pl hr⟩
  | j + 1 => by
    unfold prF
    split
    · have := ofN_le pl b j r
      have := ofN_le pl a j r
      exact ⟨by dsimp only; omega, by dsimp only; omega⟩
    · exact prF_le hr j
/-- whether one is ahead of another in the table -/
def btR (pl : Nat → Int32) (r a b : Nat) : Prop := (prF pl r a b 10).1 < (prF pl r a b 10).2 ∨ ((prF pl r a b 10).1 = (prF pl r a b 10).2 ∧ a < b)
/-- how many are ahead in the table -/
noncomputable def tbN (pl : Nat → Int32) (r c : Nat) : Nat := cnF (fun o => o ≠ c ∧ btR pl r o c) 10
/-- whether an item may be added -/
def canP (σ : Nat → Nat → Int32) (N : Nat) (its : Int32) : Prop := N < 20 ∧ (N = 0 → its = nI 0) ∧ (0 < N → σ 36 (N - 1) = nI 2 → its = nI 1) ∧ σ 39 0 = -1
end REF5
