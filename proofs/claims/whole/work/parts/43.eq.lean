/-! TOTALS AND RANKS: the class's are the reference's -/
theorem add0' (x : Int32) : nI 0 + x = x := by rw [Int32.add_comm, add0]
section EQR
variable {σ : Nat → Nat → Int32} {N r n : Nat}
theorem tot_sm (h : INV σ N r n) {c : Nat} {pen : Int32} (hc : c < 10) : ∀ m, m ≤ N → totF (σ 36) (tmR σ) pen c m = smF (σ 23) (σ 24) c m + pen
  | 0, _ => by
    unfold totF smF
    rw [add0']
  | m + 1, hm => by
    have ih := tot_sm h (pen := pen) hc m (by omega)
    have hj := CH_of h m (by omega)
    unfold totF smF
    by_cases hk : σ 36 m = nI 2
    · obtain ⟨-, e1, e2⟩ := hj.1 hk
      rw [if_pos hk, ih, e1 c hc, e2]
      unfold addF
      rw [tm_eq h.2.1]
      by_cases h1 : tmC σ m c = -1
      · rw [if_pos h1, if_pos h1]
        by_cases h2 : bstF (tmC σ m) 10 = -1
        · rw [if_pos h2, if_pos h2, add0]
        · rw [if_neg h2, if_neg h2]
          ac_rfl
      · rw [if_neg h1, if_neg h1]
        ac_rfl
    · obtain ⟨e1, e2⟩ := hj.2 hk
      rw [if_neg hk, ih, if_pos (e1 c hc), if_pos e2]
theorem tt_eq (h : INV σ N r n) {c : Nat} (hc : c < 10) : ttR σ N c = ttC σ N c := by
  unfold ttR
  rw [tot_sm h hc N (Nat.le_refl _), (h.2.2.2.1.1 c hc).1]
/-! the range of totals -/
theorem bst_M {tm : Nat → Int32} : ∀ k, (∀ c, c < k → tmM (tm c)) → tmM (bstF tm k)
  | 0, _ => Or.inl rfl
  | k + 1, h => by
    unfold bstF
    have h1 := bst_M k fun c hc => h c (by omega)
    have h2 := h k (by omega)
    split
    · exact h1
    · split
      · exact h2
      · split
        · exact h2
        · exact h1
theorem sm_B (h : INV σ N r n) {c : Nat} (hc : c < 10) : ∀ m, m ≤ N → ∃ q, q ≤ 23006000 * m ∧ smF (σ 23) (σ 24) c m = nI q
  | 0, _ => ⟨0, by omega, rfl⟩
  | m + 1, hm => by
    obtain ⟨q, hq, e⟩ := sm_B h hc m (by omega)
    have hN := h.1.1.1.1
    have hj := CH_of h m (by omega)
    unfold smF
    rw [e]
    by_cases hk : σ 36 m = nI 2
    · obtain ⟨-, e1, e2⟩ := hj.1 hk
      rw [e1 c hc, e2]
      have t1 := tmC_M h (by omega : m < N) hk hc
      have t2 := bst_M 10 fun c hc => tmC_M h (by omega : m < N) hk hc
      by_cases h1 : tmC σ m c = -1
      · rw [if_pos h1]
        by_cases h2 : bstF (tmC σ m) 10 = -1
        · rw [if_pos h2]
          exact ⟨q, by omega, rfl⟩
        · rw [if_neg h2]
          obtain ⟨b, hb, eb⟩ := t2.resolve_left h2
          rw [eb, nI_add, nI_add]
          exact ⟨q + (b + 6000), by omega, rfl⟩
      · rw [if_neg h1]
        obtain ⟨b, hb, eb⟩ := t1.resolve_left h1
        rw [eb, nI_add]
        exact ⟨q + b, by omega, rfl⟩
    · obtain ⟨e1, e2⟩ := hj.2 hk
      rw [if_pos (e1 c hc), if_pos e2]
      exact ⟨q, by omega, rfl⟩
theorem ty_B {fn : Nat → Int32} {c : Nat} : ∀ m, ∃ q, q ≤ 600 * m ∧ tyF fn c m = nI q
  | 0 => ⟨0, by omega, rfl⟩
  | m + 1 => by
    obtain ⟨q, hq, e⟩ := ty_B (fn := fn) (c := c) m
    unfold tyF
    rw [e]
    split
    · exact ⟨q, by omega, rfl⟩
    · rw [nI_add]
      exact ⟨q + 600, by omega, rfl⟩
theorem by_B {s : Nat} {x : Int32} (hs : s ≤ 2000) (hx : x = -1 ∨ ∃ d, d ≤ 34800 ∧ x = nI d) : ∃ q, q ≤ 20900000 ∧ byF (nI s - x) = nI q := by
  unfold byF
  rcases hx with rfl | ⟨d, hd, rfl⟩
  · rw [show nI s - (-1) = nI (s + 1) by rw [Int32.sub_neg]; exact nI_add s 1, if_pos (nI_lt (by omega) (by omega)), nI_mul]
    exact ⟨_, by omega, rfl⟩
  · by_cases h : d < s
    · rw [nI_subI (by omega), if_pos (nI_lt (by omega) (by omega)), nI_mul]
      exact ⟨_, by omega, rfl⟩
    · have e : nI s - nI d = -(nI (d - s)) := by
        rw [← nI_subI (by omega : s ≤ d), Int32.neg_sub]
      rw [e, if_neg, n600, Int32.neg_mul_neg, nI_mul]
      · exact ⟨_, by omega, rfl⟩
      · rw [Int32.lt_iff_toInt_lt, Int32.toInt_neg, nI_toInt (by omega), nI_toInt (by omega), bm_ (z := -((d - s : Nat) : Int)) (by omega) (by omega)]
        omega
theorem due_B (h : INV σ N r n) (hn : n ≤ 512) {i c : Nat} (hi : i < N) (hc : c < 10) : dueC σ c i = -1 ∨ ∃ d, d ≤ 34800 ∧ dueC σ c i = nI d := by
  have hN := h.1.1.1.1
  obtain ⟨m, hm, em⟩ := (h.1.1.2.2.1 i hi).2
  have hO := h.1.1.2.1.1 i (by omega)
  show dueF (σ 36) (σ 37) (σ 38) (σ 39) (σ 11) (σ 12) c i = -1 ∨ ∃ d, d ≤ 34800 ∧ dueF (σ 36) (σ 37) (σ 38) (σ 39) (σ 11) (σ 12) c i = nI d
  unfold dueF
  split
  · split
    · exact Or.inl rfl
    · rename_i hp
      have hle := okM_le hO.1
      rcases plcF_or (fun k => σ 38 (10 * i + k)) (nI c) (cnt (σ 39 i)) with e | ⟨a, ha, e⟩
      · exact absurd e hp
      · rw [e, em, nI_mul, nI_add]
        exact Or.inr ⟨_, by omega, rfl⟩
  · split
    · exact Or.inl rfl
    · rename_i hs
      have hah : ahdF (σ 36) i ≤ i := by unfold ahdF; split <;> omega
      obtain ⟨s, h1, e1⟩ := (h.1.2.1.1 (10 * ahdF (σ 36) i + c) (by omega)).resolve_left hs
      obtain ⟨d, h2, e2⟩ := h.1.2.2.1 (10 * i + c) (by omega)
      rw [e1, e2, em]
      split
      · rw [nI_add, nI_add, nI_add]
        exact Or.inr ⟨_, by omega, rfl⟩
      · rw [nI_add, nI_add, nI_add]
        exact Or.inr ⟨_, by omega, rfl⟩
theorem pf_B (h : INV σ N r n) (hn : n ≤ 512) {c : Nat} (hc : c < 10) : ∀ m, m ≤ N → ∃ q, q ≤ 20900000 * m ∧ pfF (σ 36) (σ 37) (σ 38) (σ 39) (σ 11) (σ 12) c m = nI q
  | 0, _ => ⟨0, by omega, rfl⟩
  | m + 1, hm => by
    obtain ⟨q, hq, e⟩ := pf_B h hn hc m (by omega)
    have hN := h.1.1.1.1
    unfold pfF
    rw [e]
    by_cases hs : σ 11 (10 * m + c) = -1
    · rw [if_pos hs]
      exact ⟨q, by omega, rfl⟩
    · rw [if_neg hs]
      obtain ⟨s, h1, e1⟩ := (h.1.2.1.1 (10 * m + c) (by omega)).resolve_left hs
      obtain ⟨b, hb, eb⟩ := by_B h1 (due_B h hn (by omega : m < N) hc)
      rw [e1]
      have eb' : byF (nI s - dueF (σ 36) (σ 37) (σ 38) (σ 39) (σ 11) (σ 12) c m) = nI b := eb
      rw [eb', nI_add]
      exact ⟨q + b, by omega, rfl⟩
theorem tt_B (h : INV σ N r n) (hn : n ≤ 512) {c : Nat} (hc : c < 10) : ∃ q, q < 2 ^ 30 ∧ ttC σ N c = nI q := by
  have hN := h.1.1.1.1
  obtain ⟨a, ha, ea⟩ := sm_B h hc N (Nat.le_refl _)
  obtain ⟨b, hb, eb⟩ := pf_B h hn hc N (Nat.le_refl _)
  obtain ⟨d, hd, ed⟩ := ty_B (fn := σ 27) (c := c) 100
  refine ⟨a + (b + d), by omega, ?_⟩
  show smF (σ 23) (σ 24) c N + (σ 13 c + σ 29 c) = _
  rw [ea, h.1.2.2.2.1 c hc, eb, (h.2.2.2.1.1 c hc).2, ed, nI_add, nI_add]
/-! who is ahead -/
theorem far_nI {x : Int32} (hx : tmM x) : ∃ m, m < 2 ^ 30 ∧ farF x = nI m ∧ (x = -1 ∧ m = 1000000000 ∨ m ≤ 23000000 ∧ x = nI m) := by
  unfold farF
  rcases hx with rfl | ⟨m, hm, rfl⟩
  · rw [if_pos rfl]
    exact ⟨_, by omega, rfl, Or.inl ⟨rfl, rfl⟩⟩
  · rw [if_neg (by rw [eq_m1 (by omega)]; exact id)]
    exact ⟨m, by omega, rfl, Or.inr ⟨hm, rfl⟩⟩
theorem far_bet {x y : Int32} (hx : tmM x) (hy : tmM y) (h : bet x y) : farF x - farF y < nI 0 ∧ ¬ farF x - farF y = nI 0 ∧ ¬ farF y - farF x < nI 0 ∧ ¬ farF y - farF x = nI 0 := by
  obtain ⟨a, ha, ea, ka⟩ := far_nI hx
  obtain ⟨b, hb, eb, kb⟩ := far_nI hy
  have hab : a < b := by
    obtain ⟨h1, h2⟩ := h
    obtain ⟨k1, k2⟩ := ka.resolve_left fun z => h1 z.1
    rcases kb with ⟨k3, k4⟩ | ⟨k3, k4⟩
    · omega
    · rcases h2 with h2 | h2
      · rw [k4, eq_m1 (by omega)] at h2
        exact h2.elim
      · rw [k2, k4, Int32.lt_iff_toInt_lt, nI_toInt (by omega), nI_toInt (by omega)] at h2
        omega
  rw [ea, eb, sub_l ha hb, sub_z ha hb, sub_l hb ha, sub_z hb ha]
  omega
theorem off_cmp (h : INV σ N r n) {o0 : Int32} {a b : Nat} (ha : a < 10) (hb : b < 10) : ∀ m j, j + m = N → offF (σ 36) (tmR σ) o0 a b j = nI 0 → ((offF (σ 36) (tmR σ) o0 a b N < nI 0 ↔ cmpF (σ 23) a b j m = -1) ∧ (offF (σ 36) (tmR σ) o0 a b N = nI 0 ↔ cmpF (σ 23) a b j m = nI 0))
  | 0, j, hj, h0 => by
    obtain rfl : j = N := by omega
    rw [h0]
    have e : cmpF (σ 23) a b j 0 = nI 0 := rfl
    rw [e]
    refine ⟨⟨fun z => absurd z (nI_nlt (by omega) (by omega)), fun z => ?_⟩, Iff.rfl⟩
    rw [eq_m1 (by omega)] at z
    exact z.elim
  | m + 1, j, hj, h0 => by
    have hC := CH_of h j (by omega)
    by_cases hk : σ 36 j = nI 2
    · obtain ⟨-, e1, -⟩ := hC.1 hk
      have ta := tmC_M h (by omega : j < N) hk ha
      have tb := tmC_M h (by omega : j < N) hk hb
      have e2 : offF (σ 36) (tmR σ) o0 a b (j + 1) = farF (tmC σ j a) - farF (tmC σ j b) := by
        rw [offF, if_pos h0, if_pos hk, tm_eq h.2.1]
      have st : ¬ offF (σ 36) (tmR σ) o0 a b (j + 1) = nI 0 → offF (σ 36) (tmR σ) o0 a b N = farF (tmC σ j a) - farF (tmC σ j b) := fun z => by
        have := offF_stay z m
        rw [show j + 1 + m = N by omega] at this
        rw [this, e2]
      rcases cmp_cases (σ 23) a b j with g | g | g
      · rw [cmp_t g]
        refine off_cmp h ha hb m (j + 1) (by omega) ?_
        rw [e1 a ha, e1 b hb] at g
        rw [e2, g, Int32.sub_self]
        rfl
      · rw [cmp_b g]
        rw [e1 a ha, e1 b hb] at g
        obtain ⟨f1, f2, -, -⟩ := far_bet ta tb g
        rw [st (by rw [e2]; exact f2)]
        refine ⟨⟨fun _ => rfl, fun _ => f1⟩, ⟨fun z => absurd z f2, fun z => absurd z m1_0⟩⟩
      · rw [cmp_w g]
        rw [e1 a ha, e1 b hb] at g
        obtain ⟨-, -, f3, f4⟩ := far_bet tb ta g
        rw [st (by rw [e2]; exact f4)]
        refine ⟨⟨fun z => absurd z f3, fun z => absurd z.symm m1_1⟩, ⟨fun z => absurd z f4, fun z => absurd z n1_0⟩⟩
    · obtain ⟨e1, -⟩ := hC.2 hk
      rw [cmp_t (by rw [e1 a ha, e1 b hb])]
      refine off_cmp h ha hb m (j + 1) (by omega) ?_
      rw [offF, if_pos h0, if_neg hk, h0]
theorem ahd_iff (h : INV σ N r n) (hn : n ≤ 512) {z : Int32} {a b : Nat} (ha : a < 10) (hb : b < 10) : ahdR (lay1 σ N) N a b ↔ ahdC (rk1 z σ N 10 32) (σ 23) N a b := by
  have t1 : ∀ c, c < 10 → lay1 σ N 56 c = ttC σ N c := fun c hc => by
    unfold lay1
    rw [sA_eq, ltF_lt hc, tt_eq h hc]
  have t2 : ∀ c, c < 10 → rk1 z σ N 10 32 c = ttC σ N c := fun c hc => by
    show ltF 10 (ttC σ N) (σ 32) c = _
    rw [ltF_lt hc]
  obtain ⟨u, hu, eu⟩ := tt_B h hn ha
  obtain ⟨v, hv, ev⟩ := tt_B h hn hb
  show (offF (σ 36) (tmR σ) (lay1 σ N 56 a - lay1 σ N 56 b) a b N < nI 0 ∨ (offF (σ 36) (tmR σ) (lay1 σ N 56 a - lay1 σ N 56 b) a b N = nI 0 ∧ a < b)) ↔ _
  unfold ahdC
  rw [t1 a ha, t1 b hb, t2 a ha, t2 b hb, eu, ev]
  have hz : offF (σ 36) (tmR σ) (nI u - nI v) a b 0 = nI u - nI v := rfl
  by_cases huv : u = v
  · subst huv
    have o := off_cmp h (o0 := nI u - nI u) ha hb N 0 (by omega) (by rw [hz, Int32.sub_self]; rfl)
    rw [o.1, o.2]
    constructor
    · exact fun q => Or.inr ⟨rfl, q⟩
    · rintro (q | ⟨-, q⟩)
      · exact absurd q (nI_nlt (by omega) (by omega))
      · exact q
  · have hs := offF_stay (kd := σ 36) (tm := tmR σ) (o0 := nI u - nI v) (a := a) (b := b) (i := 0) (by rw [hz, sub_z hu hv]; exact huv) N
    rw [Nat.zero_add, hz] at hs
    rw [hs, sub_l hu hv, sub_z hu hv]
    have e1 : (nI u < nI v) = (u < v) := by
      by_cases q : u < v
      · rw [lt_t q (by omega)]; simp [q]
      · rw [lt_f (by omega) (by omega)]; simp [q]
    have e2 : (nI u = nI v) = (u = v) := by
      rw [eq_f huv (by omega) (by omega)]; simp [huv]
    rw [e1, e2]
    constructor
    · rintro (q | ⟨q, -⟩)
      · exact Or.inl q
      · exact absurd q huv
    · rintro (q | ⟨q, -⟩)
      · exact Or.inl q
      · exact absurd q huv
theorem out_iff (h : GL σ) {c : Nat} (hc : c < 10) : σ 48 c = nI 0 ↔ ¬ nI 30 < σ 14 c := by
  obtain ⟨⟨a, b⟩, -⟩ := h c hc
  by_cases q : nI 30 < σ 14 c
  · rw [a q]
    exact ⟨fun z => absurd z n1_0, fun z => absurd q z⟩
  · exact ⟨fun _ => q, fun _ => b q⟩
theorem in_iff (h : INV σ N r n) {z : Int32} {c : Nat} (hc : c < 10) : inP z (lay1 σ N) c ↔ inC z σ c := by
  show (z = nI 1 ∨ (¬ σ 40 c = -1 ∧ σ 48 c = nI 0 ∧ σ 49 c = nI 0)) ↔ (z = nI 1 ∨ (¬ σ 11 c = -1 ∧ (σ 15 c = nI 0 ∧ ¬ nI 30 < σ 14 c)))
  obtain ⟨e1, -, -, -, -, -, -, e8, -⟩ := h.2.1
  rw [out_iff h.2.2.1 hc, ← e1, ← e8]
  constructor
  · rintro (q | ⟨a, b, d⟩)
    · exact Or.inl q
    · exact Or.inr ⟨a, d, b⟩
  · rintro (q | ⟨a, b, d⟩)
    · exact Or.inl q
    · exact Or.inr ⟨a, d, b⟩
theorem rkC_plV {z : Int32} {c : Nat} (hc : c < 10) : rkC z σ N 34 c = plV (inC z σ) (ahdC (rk1 z σ N 10 32) (σ 23) N) c 10 := by
  show sA (rk1 z σ N 10) 34 (plO (inC z σ) (ahdC (rk1 z σ N 10 32) (σ 23) N) (σ 34) 10) 34 c = _
  rw [sA_eq]
  unfold plO
  rw [if_pos hc]
/-- the ranks are the same -/
theorem rk_eq (h : INV σ N r n) (hn : n ≤ 512) {z : Int32} {c : Nat} (hc : c < 10) : rkC z σ N 34 c = rnkR z σ N c := by
  rw [rkC_plV hc]
  unfold rnkR
  rw [rkF_plV]
  exact (plV_congr (in_iff h hc) (fun o ho => in_iff h ho) fun o ho _ => ahd_iff h hn ho hc).symm
theorem rk_uni (z : Int32) {p : Nat} (hp : p < 2 ^ 31) : ∀ a b, a < 10 → b < 10 → rkC z σ N 34 a = nI p → rkC z σ N 34 b = nI p → a = b :=
  plc_uni (rk := rkC z σ N 34) (ahdC_ord (inC z σ) (rk1 z σ N 10 32) (σ 23) N) (fun c hc => rkC_plV hc) hp
end EQR
