/-! TOTALS AND RANKS: the class's are the reference's -/
theorem add0' (x : Int32) : nI 0 + x = x := by rw [Int32.add_comm, add0]
section EQR
variable {σ : Nat → Nat → Int32} {N r n : Nat}
/-! the range of totals -/
theorem bst_M {tm : Nat → Int32} : ∀ k, (∀ c, c < k → tmM (tm c)) → tmM (bstF tm k)
  | 0, _ => Or.inl rfl
  | k + 1, h => by
    unfold bstF
    have h1 := bst_M k fun c hc => h c (by omega)
    have h2 := h k (by omega)
    split
    · exact h1
    · split
      · exact h2
      · split
        · exact h2
        · exact h1
theorem sm_B (h : INV σ N r n) {c : Nat} (hc : c < 10) : ∀ m, m ≤ N → ∃ q, q ≤ 23006000 * m ∧ smF (σ 23) (σ 24) c m = nI q
  | 0, _ => ⟨0, by omega, rfl⟩
  | m + 1, hm => by
    obtain ⟨q, hq, e⟩ := sm_B h hc m (by omega)
    have hN := h.1.1.1.1
    have hj := CH_of h m (by omega)
    unfold smF
    rw [e]
    by_cases hk : σ 36 m = nI 2
    · obtain ⟨-, e1, e2⟩ := hj.1 hk
      rw [e1 c hc, e2]
      have t1 := tmC_M h (by omega : m < N) hk hc
      have t2 := bst_M 10 fun c hc => tmC_M h (by omega : m < N) hk hc
      by_cases h1 : tmC σ m c = -1
      · rw [if_pos h1]
        by_cases h2 : bstF (tmC σ m) 10 = -1
        · rw [if_pos h2]
          exact ⟨q, by omega, rfl⟩
        · rw [if_neg h2]
          obtain ⟨b, hb, eb⟩ := t2.resolve_left h2
          rw [eb, nI_add, nI_add]
          exact ⟨q + (b + 6000), by omega, rfl⟩
      · rw [if_neg h1]
        obtain ⟨b, hb, eb⟩ := t1.resolve_left h1
        rw [eb, nI_add]
        exact ⟨q + b, by omega, rfl⟩
    · obtain ⟨e1, e2⟩ := hj.2 hk
      rw [if_pos (e1 c hc), if_pos e2]
      exact ⟨q, by omega, rfl⟩
theorem ty_B {fn : Nat → Int32} {c : Nat} : ∀ m, ∃ q, q ≤ 600 * m ∧ tyF fn c m = nI q
  | 0 => ⟨0, by omega, rfl⟩
  | m + 1 => by
    obtain ⟨q, hq, e⟩ := ty_B (fn := fn) (c := c) m
    unfold tyF
    rw [e]
    split
    · exact ⟨q, by omega, rfl⟩
    · rw [nI_add]
      exact ⟨q + 600, by omega, rfl⟩
theorem by_B {s : Nat} {x : Int32} (hs : s ≤ 2000) (hx : x = -1 ∨ ∃ d, d ≤ 34800 ∧ x = nI d) : ∃ q, q ≤ 20900000 ∧ byF (nI s - x) = nI q := by
  unfold byF
  rcases hx with rfl | ⟨d, hd, rfl⟩
  · rw [show nI s - (-1) = nI (s + 1) by rw [Int32.sub_neg]; exact nI_add s 1, if_pos (nI_lt (by omega) (by omega)), nI_mul]
    exact ⟨_, by omega, rfl⟩
  · by_cases h : d < s
    · rw [nI_subI (by omega), if_pos (nI_lt (by omega) (by omega)), nI_mul]
      exact ⟨_, by omega, rfl⟩
    · have e : nI s - nI d = -(nI (d - s)) := by
        rw [← nI_subI (by omega : s ≤ d), Int32.neg_sub]
      rw [e, if_neg, n600, Int32.neg_mul_neg, nI_mul]
      · exact ⟨_, by omega, rfl⟩
      · rw [Int32.lt_iff_toInt_lt, Int32.toInt_neg, nI_toInt (by omega), nI_toInt (by omega), bm_ (z := -((d - s : Nat) : Int)) (by omega) (by omega)]
        omega
theorem due_B (h : INV σ N r n) (hn : n ≤ 512) {i c : Nat} (hi : i < N) (hc : c < 10) : dueC σ c i = -1 ∨ ∃ d, d ≤ 34800 ∧ dueC σ c i = nI d := by
  have hN := h.1.1.1.1
  obtain ⟨m, hm, em⟩ := (h.1.1.2.2.1 i hi).2
  have hO := h.1.1.2.1.1 i (by omega)
  show dueF (σ 36) (σ 37) (σ 38) (σ 39) (σ 11) (σ 12) c i = -1 ∨ ∃ d, d ≤ 34800 ∧ dueF (σ 36) (σ 37) (σ 38) (σ 39) (σ 11) (σ 12) c i = nI d
  unfold dueF
  split
  · split
    · exact Or.inl rfl
    · rename_i hp
      have hle := okM_le hO.1
      rcases plcF_or (fun k => σ 38 (10 * i + k)) (nI c) (cnt (σ 39 i)) with e | ⟨a, ha, e⟩
      · exact absurd e hp
      · rw [e, em, nI_mul, nI_add]
        exact Or.inr ⟨_, by omega, rfl⟩
  · split
    · exact Or.inl rfl
    · rename_i hs
      have hah : ahdF (σ 36) i ≤ i := by unfold ahdF; split <;> omega
      obtain ⟨s, h1, e1⟩ := (h.1.2.1.1 (10 * ahdF (σ 36) i + c) (by omega)).resolve_left hs
      obtain ⟨d, h2, e2⟩ := h.1.2.2.1 (10 * i + c) (by omega)
      rw [e1, e2, em]
      split
      · rw [nI_add, nI_add, nI_add]
        exact Or.inr ⟨_, by omega, rfl⟩
      · rw [nI_add, nI_add, nI_add]
        exact Or.inr ⟨_, by omega, rfl⟩
theorem pf_B (h : INV σ N r n) (hn : n ≤ 512) {c : Nat} (hc : c < 10) : ∀ m, m ≤ N → ∃ q, q ≤ 20900000 * m ∧ pfF (σ 36) (σ 37) (σ 38) (σ 39) (σ 11) (σ 12) c m = nI q
  | 0, _ => ⟨0, by omega, rfl⟩
  | m + 1, hm => by
    obtain ⟨q, hq, e⟩ := pf_B h hn hc m (by omega)
    have hN := h.1.1.1.1
    unfold pfF
    rw [e]
    by_cases hs : σ 11 (10 * m + c) = -1
    · rw [if_pos hs]
      exact ⟨q, by omega, rfl⟩
    · rw [if_neg hs]
      obtain ⟨s, h1, e1⟩ := (h.1.2.1.1 (10 * m + c) (by omega)).resolve_left hs
      obtain ⟨b, hb, eb⟩ := by_B h1 (due_B h hn (by omega : m < N) hc)
      rw [e1]
      have eb' : byF (nI s - dueF (σ 36) (σ 37) (σ 38) (σ 39) (σ 11) (σ 12) c m) = nI b := eb
      rw [eb', nI_add]
      exact ⟨q + b, by omega, rfl⟩
theorem tt_B (h : INV σ N r n) (hn : n ≤ 512) {c : Nat} (hc : c < 10) : ∃ q, q < 2 ^ 30 ∧ ttC σ N c = nI q := by
  have hN := h.1.1.1.1
  obtain ⟨a, ha, ea⟩ := sm_B h hc N (Nat.le_refl _)
  obtain ⟨b, hb, eb⟩ := pf_B h hn hc N (Nat.le_refl _)
  obtain ⟨d, hd, ed⟩ := ty_B (fn := σ 27) (c := c) 100
  refine ⟨a + (b + d), by omega, ?_⟩
  show smF (σ 23) (σ 24) c N + (σ 13 c + σ 29 c) = _
  rw [ea, h.1.2.2.2.1 c hc, eb, h.2.2.1.1 c hc, ed, nI_add, nI_add]
theorem rkC_plV {z : Int32} {c : Nat} (hc : c < 10) : rkC z σ N 34 c = plV (inC z σ) (ahdC (rk1 z σ N 10 32) (σ 23) N) c 10 := by
  show sA (rk1 z σ N 10) 34 (plO (inC z σ) (ahdC (rk1 z σ N 10 32) (σ 23) N) (σ 34) 10) 34 c = _
  rw [sA_eq]
  unfold plO
  rw [if_pos hc]
theorem rk_uni (z : Int32) {p : Nat} (hp : p < 2 ^ 31) : ∀ a b, a < 10 → b < 10 → rkC z σ N 34 a = nI p → rkC z σ N 34 b = nI p → a = b :=
  plc_uni (rk := rkC z σ N 34) (ahdC_ord (inC z σ) (rk1 z σ N 10 32) (σ 23) N) (fun c hc => rkC_plV hc) hp
end EQR
