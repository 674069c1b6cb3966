/-! THE REFERENCE: what reads ranks and the table; legs opened -/
section REF8
variable {X : rX} {h : rH} {σ : Nat → Nat → Int32} {t : rH}
/-- the place of a car in the ranks of the state -/
noncomputable def rnkR (z : Int32) (σ : Nat → Nat → Int32) (N c : Nat) : Int32 := rkF z (lay1 σ N) N c
theorem layR_55 {z : Int32} {N c : Nat} (hc : c < 10) : layR z σ N 55 c = rnkR z σ N c := by
  unfold layR lyW
  rw [sA_eq, ltF_lt hc]
  rfl
theorem plcF_eq {o o' : Nat → Int32} {x : Int32} : ∀ n, (∀ k, k < n → o k = o' k) → plcF o x n = plcF o' x n
  | 0, _ => rfl
  | n + 1, h => by
    unfold plcF
    rw [h n (by omega), plcF_eq n fun k hk => h k (by omega)]
/-! legs opened -/
/-- the world with the cars of L in the order of leg i -/
def JO (σ : Nat → Nat → Int32) (i : Nat) (L : List Nat) : Nat → Nat → Int32 :=
  fun p => if p = 38 then (fun j => if 10 * i ≤ j ∧ j < 10 * i + L.length then nI (L.getD (j - 10 * i) 0) else σ 38 j) else if p = 39 then upd (σ 39) i (nI L.length) else σ p
theorem JO_39 {i : Nat} {L : List Nat} : JO σ i L 39 i = nI L.length := by
  unfold JO
  rw [if_neg (by omega), if_pos rfl, upd_eq]
theorem JO_ne {i p : Nat} {L : List Nat} (h1 : p ≠ 38) (h2 : p ≠ 39) : JO σ i L p = σ p := by
  unfold JO
  rw [if_neg h1, if_neg h2]
theorem JO_38 {i k : Nat} {L : List Nat} (hk : k < L.length) : JO σ i L 38 (10 * i + k) = nI (L.getD k 0) := by
  unfold JO
  rw [if_pos rfl, if_pos ⟨by omega, by omega⟩, Nat.add_sub_cancel_left]
theorem JO_nil {i : Nat} : u2 σ 39 i (nI 0) = JO σ i [] := by
  funext p
  unfold JO u2
  by_cases h1 : p = 38
  · subst h1
    rw [if_neg (by omega), if_pos rfl]
    funext j
    rw [if_neg (by simp)]
  · rw [if_neg h1]
    rfl
theorem JO_set {i k c : Nat} {L : List Nat} (hk : k < L.length) : u2 (JO σ i L) 38 (10 * i + k) (nI c) = JO σ i (L.set k c) := by
  funext p
  unfold u2
  by_cases h1 : p = 38
  · subst h1
    rw [if_pos rfl]
    funext j
    unfold upd
    by_cases h2 : j = 10 * i + k
    · subst h2
      rw [if_pos rfl, JO_38 (by rw [List.length_set]; exact hk)]
      congr 1
      simp [List.getD_eq_getElem?_getD, hk]
    · rw [if_neg h2]
      unfold JO
      rw [if_pos rfl, if_pos rfl, List.length_set]
      by_cases h3 : 10 * i ≤ j ∧ j < 10 * i + L.length
      · rw [if_pos h3, if_pos h3]
        congr 1
        rw [List.getD_eq_getElem?_getD, List.getD_eq_getElem?_getD, List.getElem?_set_ne (by omega)]
      · rw [if_neg h3, if_neg h3]
  · rw [if_neg h1]
    unfold JO
    rw [if_neg h1, if_neg h1, List.length_set]
theorem JO_add {i c : Nat} {L : List Nat} : u2 (u2 (JO σ i L) 38 (10 * i + L.length) (nI c)) 39 i (nI (L.length + 1)) = JO σ i (L ++ [c]) := by
  funext p
  unfold u2
  by_cases h1 : p = 39
  · subst h1
    rw [if_pos rfl]
    unfold JO
    rw [if_neg (by omega), if_neg (by omega), if_pos rfl, if_neg (by omega), if_pos rfl, upd_upd, List.length_append]
    rfl
  · rw [if_neg h1]
    by_cases h2 : p = 38
    · subst h2
      rw [if_pos rfl]
      funext j
      unfold upd
      by_cases h3 : j = 10 * i + L.length
      · subst h3
        rw [if_pos rfl, JO_38 (by rw [List.length_append]; exact Nat.lt_succ_self _)]
        congr 1
        simp [List.getD_eq_getElem?_getD]
      · rw [if_neg h3]
        unfold JO
        rw [if_pos rfl, if_pos rfl, List.length_append, List.length_singleton]
        by_cases h4 : 10 * i ≤ j ∧ j < 10 * i + L.length
        · rw [if_pos h4, if_pos ⟨h4.1, by omega⟩]
          congr 1
          rw [List.getD_eq_getElem?_getD, List.getD_eq_getElem?_getD, List.getElem?_append_left (by omega)]
        · rw [if_neg h4, if_neg (by omega)]
    · rw [if_neg h2]
      unfold JO
      rw [if_neg h2, if_neg h1, if_neg h2, if_neg h1]
/-- the cars that are in the ranks, by their numbers -/
def numL (rk : Nat → Int32) (j : Nat) : List Nat := (List.range j).filter fun c => !decide (rk c = -1)
theorem numL_t {rk : Nat → Int32} {j : Nat} (h : ¬ rk j = -1) : numL rk (j + 1) = numL rk j ++ [j] := by
  unfold numL
  rw [List.range_succ, List.filter_append]
  simp [h]
theorem numL_f {rk : Nat → Int32} {j : Nat} (h : rk j = -1) : numL rk (j + 1) = numL rk j := by
  unfold numL
  rw [List.range_succ, List.filter_append]
  simp [h]
theorem numL_le {rk : Nat → Int32} {j : Nat} : (numL rk j).length ≤ j := by
  have := List.length_filter_le (fun c => !decide (rk c = -1)) (List.range j)
  rw [List.length_range] at this
  exact this
/-- the cars by their places -/
def rkL (rk : Nat → Int32) (j : Nat) : List Nat := (List.range j).filterMap fun p => if plcF rk (nI p) 10 = -1 then none else some (cnt (plcF rk (nI p) 10))
theorem rkL_t {rk : Nat → Int32} {j : Nat} (h : ¬ plcF rk (nI j) 10 = -1) : rkL rk (j + 1) = rkL rk j ++ [cnt (plcF rk (nI j) 10)] := by
  unfold rkL
  rw [List.range_succ, List.filterMap_append]
  simp [h]
theorem rkL_f {rk : Nat → Int32} {j : Nat} (h : plcF rk (nI j) 10 = -1) : rkL rk (j + 1) = rkL rk j := by
  unfold rkL
  rw [List.range_succ, List.filterMap_append]
  simp [h]
theorem rkL_le {rk : Nat → Int32} {j : Nat} : (rkL rk j).length ≤ j := by
  have := List.length_filterMap_le (fun p => if plcF rk (nI p) 10 = -1 then none else some (cnt (plcF rk (nI p) 10))) (List.range j)
  rw [List.length_range] at this
  exact this
def rev5 (L : List Nat) : List Nat := (L.take 5).reverse ++ L.drop 5
theorem rev5_len {L : List Nat} : (rev5 L).length = L.length := by
  unfold rev5
  rw [List.length_append, List.length_reverse, List.length_take, List.length_drop]
  omega
theorem d02 : (nI 0 : Int32) / nI 2 = nI 0 := by decide +kernel
theorem d12 : (nI 1 : Int32) / nI 2 = nI 0 := by decide +kernel
theorem d22 : (nI 2 : Int32) / nI 2 = nI 1 := by decide +kernel
theorem d32 : (nI 3 : Int32) / nI 2 = nI 1 := by decide +kernel
theorem d42 : (nI 4 : Int32) / nI 2 = nI 2 := by decide +kernel
theorem d52 : (nI 5 : Int32) / nI 2 = nI 2 := by decide +kernel
theorem e20 : ¬ nI 2 = 0 := nI_nz (by omega) (by omega)
end REF8
