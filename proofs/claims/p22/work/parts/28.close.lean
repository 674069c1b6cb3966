/-! THE REFERENCE: the rally closed, one begun -/
section REF10
variable {X : rX} {h : rH} {σ : Nat → Nat → Int32} {t : rH}
/-- the cards and stages begun anew, the first k cells -/
def bgA (σ : Nat → Nat → Int32) (k : Nat) : Nat → Nat → Int32 := fun p =>
  if p = 40 ∨ p = 42 ∨ p = 43 ∨ p = 45 then ltF k (fun _ => -1) (σ p)
  else if p = 41 ∨ p = 44 then ltF k (fun _ => nI 0) (σ p)
  else if p = 39 then (fun g => if 10 * g < k then -1 else σ 39 g) else σ p
def bgB (σ : Nat → Nat → Int32) (k : Nat) : Nat → Nat → Int32 := fun p => if p = 51 ∨ p = 52 then ltF k (fun _ => nI 0) (σ p) else σ p
def bgC (σ : Nat → Nat → Int32) (k : Nat) : Nat → Nat → Int32 := fun p => if p = 46 ∨ p = 47 ∨ p = 48 ∨ p = 49 ∨ p = 50 ∨ p = 53 then ltF k (fun _ => nI 0) (σ p) else σ p
theorem ltF_z (a b : Nat → Int32) : ltF 0 a b = b := ltF_0 a b
theorem bgA_0 : bgA σ 0 = σ := by
  funext p
  unfold bgA
  split
  · exact ltF_0 _ _
  · split
    · exact ltF_0 _ _
    · split
      · rename_i h1 h2 h3
        subst h3
        funext g
        rw [if_neg (by omega)]
      · rfl
theorem bgB_0 : bgB σ 0 = σ := by
  funext p
  unfold bgB
  split
  · exact ltF_0 _ _
  · rfl
theorem bgC_0 : bgC σ 0 = σ := by
  funext p
  unfold bgC
  split
  · exact ltF_0 _ _
  · rfl
theorem bgA_s {k : Nat} : u2 (u2 (u2 (u2 (u2 (u2 (u2 (bgA σ k) 40 k (-1)) 41 k (nI 0)) 42 k (-1)) 43 k (-1)) 44 k (nI 0)) 45 k (-1)) 39 (k / 10) (-1) = bgA σ (k + 1) := by
  funext p
  by_cases h : p = 39
  · subst h
    show upd (fun g => if 10 * g < k then -1 else σ 39 g) (k / 10) (-1) = fun g => if 10 * g < k + 1 then -1 else σ 39 g
    funext g
    unfold upd
    by_cases h1 : g = k / 10
    · rw [if_pos h1, if_pos (by omega)]
    · rw [if_neg h1]
      dsimp only
      by_cases h2 : 10 * g < k
      · rw [if_pos h2, if_pos (by omega)]
      · rw [if_neg h2, if_neg (by omega)]
  · by_cases h1 : p = 40
    · subst h1; exact upd_ltF k (fun _ => -1) (σ 40)
    · by_cases h2 : p = 41
      · subst h2; exact upd_ltF k (fun _ => nI 0) (σ 41)
      · by_cases h3 : p = 42
        · subst h3; exact upd_ltF k (fun _ => -1) (σ 42)
        · by_cases h4 : p = 43
          · subst h4; exact upd_ltF k (fun _ => -1) (σ 43)
          · by_cases h5 : p = 44
            · subst h5; exact upd_ltF k (fun _ => nI 0) (σ 44)
            · by_cases h6 : p = 45
              · subst h6; exact upd_ltF k (fun _ => -1) (σ 45)
              · rw [u2_ne h, u2_ne h6, u2_ne h5, u2_ne h4, u2_ne h3, u2_ne h2, u2_ne h1]
                unfold bgA
                simp only [h, h1, h2, h3, h4, h5, h6, or_self, if_false]
theorem bgB_s {k : Nat} : u2 (u2 (bgB σ k) 51 k (nI 0)) 52 k (nI 0) = bgB σ (k + 1) := by
  funext p
  by_cases h1 : p = 51
  · subst h1; exact upd_ltF k (fun _ => nI 0) (σ 51)
  · by_cases h2 : p = 52
    · subst h2; exact upd_ltF k (fun _ => nI 0) (σ 52)
    · rw [u2_ne h2, u2_ne h1]
      unfold bgB
      simp only [h1, h2, or_self, if_false]
theorem bgC_s {k : Nat} : u2 (u2 (u2 (u2 (u2 (u2 (bgC σ k) 46 k (nI 0)) 47 k (nI 0)) 48 k (nI 0)) 49 k (nI 0)) 50 k (nI 0)) 53 k (nI 0) = bgC σ (k + 1) := by
  funext p
  by_cases h1 : p = 46
  · subst h1; exact upd_ltF k (fun _ => nI 0) (σ 46)
  · by_cases h2 : p = 47
    · subst h2; exact upd_ltF k (fun _ => nI 0) (σ 47)
    · by_cases h3 : p = 48
      · subst h3; exact upd_ltF k (fun _ => nI 0) (σ 48)
      · by_cases h4 : p = 49
        · subst h4; exact upd_ltF k (fun _ => nI 0) (σ 49)
        · by_cases h5 : p = 50
          · subst h5; exact upd_ltF k (fun _ => nI 0) (σ 50)
          · by_cases h6 : p = 53
            · subst h6; exact upd_ltF k (fun _ => nI 0) (σ 53)
            · rw [u2_ne h6, u2_ne h5, u2_ne h4, u2_ne h3, u2_ne h2, u2_ne h1]
              unfold bgC
              simp only [h1, h2, h3, h4, h5, h6, or_self, if_false]
/-- the reference begun anew -/
def bgR (σ : Nat → Nat → Int32) : Nat → Nat → Int32 := bgC (bgB (bgA (u2 σ 35 1 (nI 0)) 200) 1000) 10
/-- the places of the rally that is over, of the first j cars -/
def plR (σ : Nat → Nat → Int32) (r j : Nat) : Nat → Nat → Int32 := sA σ 54 (fun i => if 10 * r ≤ i ∧ i < 10 * r + j then σ 55 (i - 10 * r) else σ 54 i)
theorem plR_0 {r : Nat} : plR σ r 0 = σ := by
  unfold plR
  rw [show (fun i => if 10 * r ≤ i ∧ i < 10 * r + 0 then σ 55 (i - 10 * r) else σ 54 i) = σ 54 from by
    funext i
    rw [if_neg (by omega)]]
  exact sA_self
theorem plR_s {r j : Nat} : u2 (plR σ r j) 54 (10 * r + j) (σ 55 j) = plR σ r (j + 1) := by
  unfold plR
  rw [u2_sA]
  congr 1
  funext i
  unfold upd
  by_cases h1 : i = 10 * r + j
  · subst h1
    rw [if_pos rfl, if_pos ⟨by omega, by omega⟩, Nat.add_sub_cancel_left]
  · rw [if_neg h1]
    dsimp only
    by_cases h2 : 10 * r ≤ i ∧ i < 10 * r + j
    · rw [if_pos h2, if_pos ⟨h2.1, by omega⟩]
    · rw [if_neg h2, if_neg (by omega)]
/-- the state with the rally over, ahead of the new one -/
noncomputable def ovR (σ : Nat → Nat → Int32) (N r : Nat) : Nat → Nat → Int32 := u2 (plR (layR (nI 0) (u2 σ 35 0 (nI 0)) N) r 10) 35 20 (nI (r + 1))
end REF10
