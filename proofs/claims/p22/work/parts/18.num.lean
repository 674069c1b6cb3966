/-! NUMBERS -/
theorem nI_mul (a b : Nat) : nI a * nI b = nI (a * b) := (Int32.ofNat_mul a b).symm
theorem nI_subI {a b : Nat} (h : b ≤ a) : nI a - nI b = nI (a - b) := by
  have e : nI (a - b) + nI b = nI a := by rw [nI_add]; congr 1; omega
  rw [← e, Int32.add_sub_cancel]
theorem lt_t {a b : Nat} (h : a < b) (hb : b < 2 ^ 31) : (nI a < nI b) = True := eq_true (nI_lt h hb)
theorem lt_f {a b : Nat} (h : b ≤ a) (ha : a < 2 ^ 31) : (nI a < nI b) = False := eq_false (nI_nlt h ha)
theorem eq_f {a b : Nat} (h : a ≠ b) (ha : a < 2 ^ 31) (hb : b < 2 ^ 31) : (nI a = nI b) = False := eq_false fun e => h ((nI_eq ha hb).mp e)
theorem m1_toInt : (-1 : Int32).toInt = -1 := by decide +kernel
theorem lt_m1 {a : Nat} (ha : a < 2 ^ 31) : (nI a < -1) = False := eq_false fun e => by
  rw [Int32.lt_iff_toInt_lt, nI_toInt ha, m1_toInt] at e
  omega
theorem m1_lt {a : Nat} (ha : a < 2 ^ 31) : ((-1 : Int32) < nI a) = True := eq_true (by
  rw [Int32.lt_iff_toInt_lt, nI_toInt ha, m1_toInt]
  omega)
theorem eq_m1 {a : Nat} (ha : a < 2 ^ 31) : (nI a = -1) = False := eq_false fun e => by
  have := congrArg Int32.toInt e
  rw [nI_toInt ha, m1_toInt] at this
  omega
theorem m1_eq {a : Nat} (ha : a < 2 ^ 31) : ((-1 : Int32) = nI a) = False := eq_false fun e => by
  rw [eq_comm, eq_m1 ha] at e
  exact e
/-- in the range 0 to n - 1 -/
def inR (x : Int32) (n : Nat) : Prop := ∃ j, j < n ∧ x = nI j
theorem inR_of {x : Int32} {n : Nat} (hn : n < 2 ^ 31) (h1 : ¬ x < nI 0) (h2 : ¬ nI n < x) : inR x (n + 1) := by
  obtain ⟨j, hj, e⟩ := nI_of2 (M := nI n) (n := n) (nI_toInt hn) h1 (Int32.not_lt.mp h2)
  exact ⟨j, by omega, e⟩
theorem inR_not {x : Int32} {n : Nat} (hn : n < 2 ^ 31) (h : ¬ inR x (n + 1)) : x < nI 0 ∨ (¬ x < nI 0 ∧ nI n < x) := by
  by_cases h1 : x < nI 0
  · exact Or.inl h1
  · by_cases h2 : nI n < x
    · exact Or.inr ⟨h1, h2⟩
    · exact absurd (inR_of hn h1 h2) h
/-- the count that a number stands for: -1 for none -/
def cnt (x : Int32) : Nat := x.toNatClampNeg
theorem cnt_nI {n : Nat} (h : n < 2 ^ 31) : cnt (nI n) = n := nI_clamp h
theorem cnt_m1 : cnt (-1) = 0 := by decide +kernel
theorem u2_eq (σ : Nat → Nat → Int32) (p i : Nat) (x : Int32) : u2 σ p i x p = upd (σ p) i x := if_pos rfl
theorem u2_ne {σ : Nat → Nat → Int32} {p q i : Nat} {x : Int32} (h : q ≠ p) : u2 σ p i x q = σ q := if_neg h
theorem upd_eq {f : Nat → Int32} {k : Nat} {x : Int32} : upd f k x k = x := if_pos rfl
theorem upd_ne {f : Nat → Int32} {k j : Nat} {x : Int32} (h : j ≠ k) : upd f k x j = f j := if_neg h
theorem nI_decI {a : Nat} (h : 0 < a) : nI a + (-1) = nI (a - 1) := by
  obtain ⟨b, rfl⟩ : ∃ b, a = b + 1 := ⟨a - 1, by omega⟩
  rw [← Int32.sub_eq_add_neg, nI_pred]
  rfl
/-- a number of places, -1 for a leg that is not open -/
def okM (x : Int32) : Prop := x = -1 ∨ ∃ n, n ≤ 10 ∧ x = nI n
theorem okM_lt {x : Int32} (h : okM x) (k : Nat) (hk : k < 2 ^ 31) : (nI k < x) = (k < cnt x) := by
  rcases h with rfl | ⟨n, hn, rfl⟩
  · rw [lt_m1 hk, cnt_m1]; simp
  · rw [cnt_nI (by omega)]
    by_cases h : k < n
    · rw [lt_t h (by omega)]; simp [h]
    · rw [lt_f (by omega) hk]; simp [h]
theorem okM_le {x : Int32} (h : okM x) : cnt x ≤ 10 := by
  rcases h with rfl | ⟨n, hn, rfl⟩
  · rw [cnt_m1]; omega
  · rw [cnt_nI (by omega)]; exact hn
theorem nIz : (0 : Int32) = nI 0 := rfl
theorem nI_nz {n : Nat} (h : 0 < n) (hn : n < 2 ^ 31) : ¬ nI n = 0 := fun e => by
  rw [nIz, eq_f (by omega) hn (by omega)] at e
  exact e
theorem n600 : (-600 : Int32) = -nI 600 := by decide +kernel
