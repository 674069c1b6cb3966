/-! THE CLASS: tyres, ranks -/
section CMP5
variable {X : rX} {h : rH} {σ : Nat → Nat → Int32} {t : rH} {N : Nat}
/-- what is kept of the times is what they are -/
def CH (σ : Nat → Nat → Int32) (N : Nat) : Prop := ∀ j, j < N → (σ 36 j = nI 2 → OW σ j ∧ (∀ c, c < 10 → σ 23 (10 * j + c) = tmC σ j c) ∧ σ 24 j = bstF (tmC σ j) 10) ∧ (¬ σ 36 j = nI 2 → (∀ c, c < 10 → σ 23 (10 * j + c) = -1) ∧ σ 24 j = -1)
theorem rcW_self {j : Nat} (hC : CH σ N) (hj : j < N) (hk : σ 36 j = nI 2) : rcW σ j = σ := by
  obtain ⟨h1, h2, h3⟩ := (hC j hj).1 hk
  unfold rcW
  rw [blkN_self 10 h1, sA_self, blkN_self 10 h2, sA_self, u2_self h3]
theorem l_reckonAll (hA : IA σ N) (hB : IB σ) (hS : ∀ j, j < N → σ 36 j = nI 2 → SG σ N j) (hC : CH σ N) : ∀ n j, j + n = N → exM X 66 2 [some (.ref 17), some (.int (nI j))] [] (WW σ t) 0 0 = ansV (WW σ t) := by
  have hN := hA.1
  have i0 := k_size (X := X) (t := t) hA
  intro n
  induction n with
  | zero =>
    intro j hj
    have e : j = N := by omega
    subst e
    simp (disch := omega) only [s66_0, s66_1, s66_2, s66_3, s66_4, s66_7, s66_10, s66_13, s66_14, s66_17, s66_18, s66_21, s66_22, s66_25, s66_26, s66_27, s66_30, s66_33, s66_36, c10, c100, c6, eq_self, bnd_l, bnd_r, Option.toList_some, Option.toList_none, List.cons_append, List.nil_append, Nat.add_zero, Nat.zero_add, ↓reduceIte, nI_add, nI_mul, nI_subI, lt_t, lt_f, eq_f, lt_m1, m1_lt, eq_m1, m1_eq, i0]
  | succ n ih =>
    intro j hj
    rw [s66_2]
    have i1 := ih (j + 1) (by omega)
    have ik := k_kindOf (X := X) (t := t) hA (by omega : j < N)
    by_cases hk : σ 36 j = nI 2
    · have ir := k_reckon (X := X) (t := t) hA hB (hS j (by omega) hk)
      rw [rcW_self hC (by omega) hk] at ir
      simp (disch := omega) only [s66_3, s66_4, s66_7, s66_10, s66_13, s66_14, s66_17, s66_18, s66_21, s66_22, s66_25, s66_26, s66_27, s66_30, s66_33, c10, c100, c6, eq_self, bnd_l, bnd_r, Option.toList_some, Option.toList_none, List.cons_append, List.nil_append, Nat.add_zero, Nat.zero_add, ↓reduceIte, nI_add, nI_mul, nI_subI, lt_t, lt_f, eq_f, lt_m1, m1_lt, eq_m1, m1_eq, i0, ik, hk, ir]
      exact i1
    · simp (disch := omega) only [s66_3, s66_4, s66_7, s66_10, s66_13, s66_14, s66_17, s66_18, s66_21, s66_22, s66_25, s66_26, s66_27, s66_30, s66_33, c10, c100, c6, eq_self, bnd_l, bnd_r, Option.toList_some, Option.toList_none, List.cons_append, List.nil_append, Nat.add_zero, Nat.zero_add, ↓reduceIte, nI_add, nI_mul, nI_subI, lt_t, lt_f, eq_f, lt_m1, m1_lt, eq_m1, m1_eq, i0, ik, hk]
      exact i1
theorem k_reckonAll (hA : IA σ N) (hB : IB σ) (hS : ∀ j, j < N → σ 36 j = nI 2 → SG σ N j) (hC : CH σ N) : exC X 66 [.ref 17] (WW σ t) = ansV (WW σ t) := by
  rw [ent_66]
  have hL := l_reckonAll (X := X) (t := t) hA hB hS hC N 0 (by omega)
  simp (disch := omega) only [s66_0, s66_1, c10, c100, c6, eq_self, bnd_l, bnd_r, Option.toList_some, Option.toList_none, List.cons_append, List.nil_append, Nat.add_zero, Nat.zero_add, ↓reduceIte, nI_add, nI_mul, nI_subI, lt_t, lt_f, eq_f, lt_m1, m1_lt, eq_m1, m1_eq]
  exact hL
/-! tyres -/
theorem k_takes7 {c k : Nat} (hc : c < 10) (hk : k < 100) : (σ 26 (100 * c + k) = nI 0 ∧ σ 28 c < nI 6 → exC X 74 [.ref 25, .int (nI c), .int (nI k)] (WW σ t) = ans (nI 1) (WW σ t)) ∧ (¬ (σ 26 (100 * c + k) = nI 0 ∧ σ 28 c < nI 6) → exC X 74 [.ref 25, .int (nI c), .int (nI k)] (WW σ t) = ans (nI 0) (WW σ t)) := by
  rw [ent_74]
  constructor
  · rintro ⟨h1, h2⟩
    simp (disch := omega) only [s74_0, s74_1, s74_4, s74_5, s74_6, s74_8, s74_11, s74_12, s74_15, s74_16, s74_18, s74_19, s74_20, s74_21, s74_22, s74_25, s74_26, s74_29, s74_30z0, s74_30z1, c10, c100, c6, eq_self, bnd_l, bnd_r, Option.toList_some, Option.toList_none, List.cons_append, List.nil_append, Nat.add_zero, Nat.zero_add, ↓reduceIte, nI_add, nI_mul, nI_subI, lt_t, lt_f, eq_f, lt_m1, m1_lt, eq_m1, m1_eq, h1, h2]
  · intro hn
    by_cases h2 : σ 28 c < nI 6
    · have h1 : ¬ σ 26 (100 * c + k) = nI 0 := fun q => hn ⟨q, h2⟩
      simp (disch := omega) only [s74_0, s74_1, s74_4, s74_5, s74_6, s74_8, s74_11, s74_12, s74_15, s74_16, s74_18, s74_19, s74_20, s74_21, s74_22, s74_25, s74_26, s74_29, s74_30z0, s74_30z1, c10, c100, c6, eq_self, bnd_l, bnd_r, Option.toList_some, Option.toList_none, List.cons_append, List.nil_append, Nat.add_zero, Nat.zero_add, ↓reduceIte, nI_add, nI_mul, nI_subI, lt_t, lt_f, eq_f, lt_m1, m1_lt, eq_m1, m1_eq, h1, h2]
    · simp (disch := omega) only [s74_0, s74_1, s74_4, s74_5, s74_6, s74_8, s74_11, s74_12, s74_15, s74_16, s74_18, s74_19, s74_20, s74_21, s74_22, s74_25, s74_26, s74_29, s74_30z0, s74_30z1, c10, c100, c6, eq_self, bnd_l, bnd_r, Option.toList_some, Option.toList_none, List.cons_append, List.nil_append, Nat.add_zero, Nat.zero_add, ↓reduceIte, nI_add, nI_mul, nI_subI, lt_t, lt_f, eq_f, lt_m1, m1_lt, eq_m1, m1_eq, h2]
theorem k_add7 {c k : Nat} (hc : c < 10) (hk : k < 100) : exC X 75 [.ref 25, .int (nI c), .int (nI k)] (WW σ t) = ans (σ 28 c + nI 1) (WW (u2 (u2 σ 26 (100 * c + k) (nI 1)) 28 c (σ 28 c + nI 1)) t) := by
  rw [ent_75]
  simp (disch := omega) only [s75_0, s75_1, s75_4, s75_5, s75_7, s75_8, s75_9, s75_10, s75_11 nar0, s75_11 nar1, s75_12, s75_13, s75_16, s75_17, s75_18, s75_19, s75_20, s75_21, s75_22, s75_23, s75_26, s75_27, s75_28, c10, c100, c6, eq_self, bnd_l, bnd_r, Option.toList_some, Option.toList_none, List.cons_append, List.nil_append, Nat.add_zero, Nat.zero_add, ↓reduceIte, nI_add, nI_mul, nI_subI, lt_t, lt_f, eq_f, lt_m1, m1_lt, eq_m1, m1_eq, u2_ne, u2_eq, upd_eq]
theorem k_check {c k : Nat} (hc : c < 10) (hk : k < 100) : (σ 26 (100 * c + k) = nI 0 ∧ σ 27 (100 * c + k) = nI 0 → exC X 76 [.ref 25, .int (nI c), .int (nI k)] (WW σ t) = ans (nI 600) (WW (u2 (u2 σ 27 (100 * c + k) (nI 1)) 29 c (σ 29 c + nI 600)) t)) ∧ (¬ (σ 26 (100 * c + k) = nI 0 ∧ σ 27 (100 * c + k) = nI 0) → exC X 76 [.ref 25, .int (nI c), .int (nI k)] (WW σ t) = ans (nI 0) (WW σ t)) := by
  rw [ent_76]
  constructor
  · rintro ⟨h1, h2⟩
    simp (disch := omega) only [s76_0, s76_1, s76_3, s76_4, s76_5, s76_6, s76_7, s76_8, s76_11, s76_12, s76_13, s76_16, s76_17, s76_20, s76_21, s76_22, s76_25, s76_26, s76_27, s76_28, s76_31, s76_32, s76_33 nar0, s76_33 nar1, s76_34, s76_35, s76_38, s76_39, s76_40, s76_41, s76_44, s76_45, s76_46, s76_49, c10, c100, c6, eq_self, bnd_l, bnd_r, Option.toList_some, Option.toList_none, List.cons_append, List.nil_append, Nat.add_zero, Nat.zero_add, ↓reduceIte, nI_add, nI_mul, nI_subI, lt_t, lt_f, eq_f, lt_m1, m1_lt, eq_m1, m1_eq, h1, h2, u2_ne]
  · intro hn
    by_cases h1 : σ 26 (100 * c + k) = nI 0
    · have h2 : ¬ σ 27 (100 * c + k) = nI 0 := fun q => hn ⟨h1, q⟩
      simp (disch := omega) only [s76_0, s76_1, s76_3, s76_4, s76_5, s76_6, s76_7, s76_8, s76_11, s76_12, s76_13, s76_16, s76_17, s76_20, s76_21, s76_22, s76_25, s76_26, s76_27, s76_28, s76_31, s76_32, s76_33 nar0, s76_33 nar1, s76_34, s76_35, s76_38, s76_39, s76_40, s76_41, s76_44, s76_45, s76_46, s76_49, c10, c100, c6, eq_self, bnd_l, bnd_r, Option.toList_some, Option.toList_none, List.cons_append, List.nil_append, Nat.add_zero, Nat.zero_add, ↓reduceIte, nI_add, nI_mul, nI_subI, lt_t, lt_f, eq_f, lt_m1, m1_lt, eq_m1, m1_eq, h1, h2]
    · simp (disch := omega) only [s76_0, s76_1, s76_3, s76_4, s76_5, s76_6, s76_7, s76_8, s76_11, s76_12, s76_13, s76_16, s76_17, s76_20, s76_21, s76_22, s76_25, s76_26, s76_27, s76_28, s76_31, s76_32, s76_33 nar0, s76_33 nar1, s76_34, s76_35, s76_38, s76_39, s76_40, s76_41, s76_44, s76_45, s76_46, s76_49, c10, c100, c6, eq_self, bnd_l, bnd_r, Option.toList_some, Option.toList_none, List.cons_append, List.nil_append, Nat.add_zero, Nat.zero_add, ↓reduceIte, nI_add, nI_mul, nI_subI, lt_t, lt_f, eq_f, lt_m1, m1_lt, eq_m1, m1_eq, h1]
theorem k_penOf7 {c : Nat} (hc : c < 10) : exC X 77 [.ref 25, .int (nI c)] (WW σ t) = ans (σ 29 c) (WW σ t) := by
  rw [ent_77]
  simp (disch := omega) only [s77_0, s77_1, s77_4, s77_5, s77_6, c10, c100, c6, eq_self, bnd_l, bnd_r, Option.toList_some, Option.toList_none, List.cons_append, List.nil_append, Nat.add_zero, Nat.zero_add, ↓reduceIte, nI_add, nI_mul, nI_subI, lt_t, lt_f, eq_f, lt_m1, m1_lt, eq_m1, m1_eq]
/-- the penalties from the tyres, of the first j codes -/
def tyF (fn : Nat → Int32) (c : Nat) : Nat → Int32
  | 0 => nI 0
  | j + 1 => if fn (100 * c + j) = nI 0 then tyF fn c j else tyF fn c j + nI 600
theorem l_fromTyres {c : Nat} (hc : c < 10) {Q : Option rR} (hQ : ans (tyF (σ 27) c 100) (WW σ t) = Q) : ∀ n j, j + n = 100 → exM X 78 4 [some (.ref 25), some (.int (nI c)), some (.int (tyF (σ 27) c j)), some (.int (nI j))] [] (WW σ t) 0 0 = Q := by
  intro n
  induction n with
  | zero =>
    intro j hj
    have e : j = 100 := by omega
    subst e
    simp (disch := omega) only [s78_4, s78_5, s78_7, s78_36, s78_37, c10, c100, c6, eq_self, bnd_l, bnd_r, Option.toList_some, Option.toList_none, List.cons_append, List.nil_append, Nat.add_zero, Nat.zero_add, ↓reduceIte, nI_add, nI_mul, nI_subI, lt_t, lt_f, eq_f, lt_m1, m1_lt, eq_m1, m1_eq]
    exact hQ
  | succ n ih =>
    intro j hj
    rw [s78_4]
    have i1 := ih (j + 1) (by omega)
    by_cases h1 : σ 27 (100 * c + j) = nI 0
    · rw [tyF, if_pos h1] at i1
      simp (disch := omega) only [s78_5, s78_7, s78_10, s78_11, s78_14, s78_15, s78_17, s78_18, s78_19, s78_20, s78_21, s78_24, s78_30, s78_33, c10, c100, c6, eq_self, bnd_l, bnd_r, Option.toList_some, Option.toList_none, List.cons_append, List.nil_append, Nat.add_zero, Nat.zero_add, ↓reduceIte, nI_add, nI_mul, nI_subI, lt_t, lt_f, eq_f, lt_m1, m1_lt, eq_m1, m1_eq, h1]
      exact i1
    · rw [tyF, if_neg h1] at i1
      simp (disch := omega) only [s78_5, s78_7, s78_10, s78_11, s78_14, s78_15, s78_17, s78_18, s78_19, s78_20, s78_21, s78_24, s78_30, s78_33, c10, c100, c6, eq_self, bnd_l, bnd_r, Option.toList_some, Option.toList_none, List.cons_append, List.nil_append, Nat.add_zero, Nat.zero_add, ↓reduceIte, nI_add, nI_mul, nI_subI, lt_t, lt_f, eq_f, lt_m1, m1_lt, eq_m1, m1_eq, h1]
      exact i1
theorem k_fromTyres {c : Nat} (hc : c < 10) : exC X 78 [.ref 25, .int (nI c)] (WW σ t) = ans (tyF (σ 27) c 100) (WW σ t) := by
  rw [ent_78]
  have hL := l_fromTyres (X := X) (σ := σ) (t := t) hc rfl 100 0 (by omega)
  rw [tyF] at hL
  simp (disch := omega) only [s78_0, s78_1, s78_2, s78_3, c10, c100, c6, eq_self, bnd_l, bnd_r, Option.toList_some, Option.toList_none, List.cons_append, List.nil_append, Nat.add_zero, Nat.zero_add, ↓reduceIte, nI_add, nI_mul, nI_subI, lt_t, lt_f, eq_f, lt_m1, m1_lt, eq_m1, m1_eq]
  exact hL
/-! ranks -/
theorem k_penOf4 {c : Nat} (hc : c < 10) : exC X 44 [.ref 31, .int (nI c)] (WW σ t) = ans (σ 13 c + σ 29 c) (WW σ t) := by
  rw [ent_44]
  have i1 := k_penOf (X := X) (σ := σ) (t := t) hc
  have i2 := k_penOf7 (X := X) (σ := σ) (t := t) hc
  simp (disch := omega) only [s44_0, s44_1, s44_4, s44_5, s44_8, s44_9, s44_12, s44_13, s44_16, s44_17, c10, c100, c6, eq_self, bnd_l, bnd_r, Option.toList_some, Option.toList_none, List.cons_append, List.nil_append, Nat.add_zero, Nat.zero_add, ↓reduceIte, nI_add, nI_mul, nI_subI, lt_t, lt_f, eq_f, lt_m1, m1_lt, eq_m1, m1_eq, i1, i2]
/-- a car's total, by the class's rows -/
abbrev ttC (σ : Nat → Nat → Int32) (N c : Nat) : Int32 := smF (σ 23) (σ 24) c N + (σ 13 c + σ 29 c)
theorem k_totalOf {c : Nat} (hA : IA σ N) (hc : c < 10) : exC X 45 [.ref 31, .int (nI c)] (WW σ t) = ans (ttC σ N c) (WW σ t) := by
  rw [ent_45]
  have i1 := k_penOf4 (X := X) (σ := σ) (t := t) hc
  have i2 := k_sumOf (X := X) (t := t) hA hc
  simp (disch := omega) only [s45_0, s45_1, s45_4, s45_5, s45_8, s45_9, s45_10, s45_13, s45_14, c10, c100, c6, eq_self, bnd_l, bnd_r, Option.toList_some, Option.toList_none, List.cons_append, List.nil_append, Nat.add_zero, Nat.zero_add, ↓reduceIte, nI_add, nI_mul, nI_subI, lt_t, lt_f, eq_f, lt_m1, m1_lt, eq_m1, m1_eq, i1, i2]
theorem k_totalCard {c : Nat} (hA : IA σ N) (hB : IB σ) (hc : c < 10) : exC X 46 [.ref 31, .int (nI c)] (WW σ t) = ans (smF (σ 23) (σ 24) c N + pfF (σ 36) (σ 37) (σ 38) (σ 39) (σ 11) (σ 12) c N + tyF (σ 27) c 100) (WW σ t) := by
  rw [ent_46]
  have i1 := k_fromTyres (X := X) (σ := σ) (t := t) hc
  have i2 := k_sumOf (X := X) (t := t) hA hc
  have i3 := k_fromCard (X := X) (t := t) hA hB hc
  simp (disch := omega) only [s46_0, s46_1, s46_4, s46_5, s46_8, s46_9, s46_12, s46_13, s46_16, s46_17, s46_18, s46_21, s46_22, s46_25, s46_26, c10, c100, c6, eq_self, bnd_l, bnd_r, Option.toList_some, Option.toList_none, List.cons_append, List.nil_append, Nat.add_zero, Nat.zero_add, ↓reduceIte, nI_add, nI_mul, nI_subI, lt_t, lt_f, eq_f, lt_m1, m1_lt, eq_m1, m1_eq, i1, i2, i3]
theorem k_placeOf4 {c : Nat} (hc : c < 10) : exC X 48 [.ref 31, .int (nI c)] (WW σ t) = ans (σ 34 c) (WW σ t) := by
  rw [ent_48]
  simp (disch := omega) only [s48_0, s48_1, s48_4, s48_5, s48_6, c10, c100, c6, eq_self, bnd_l, bnd_r, Option.toList_some, Option.toList_none, List.cons_append, List.nil_append, Nat.add_zero, Nat.zero_add, ↓reduceIte, nI_add, nI_mul, nI_subI, lt_t, lt_f, eq_f, lt_m1, m1_lt, eq_m1, m1_eq]
theorem l_carAt4 {x : Int32} (hu : ∀ a b, a < 10 → b < 10 → σ 34 a = x → σ 34 b = x → a = b) {Q : Option rR} (hQ : ans (plcF (σ 34) x 10) (WW σ t) = Q) : ∀ n j, j + n = 10 → (∀ k, k < j → ¬ σ 34 k = x) → exM X 49 2 [some (.ref 31), some (.int x), some (.int (nI j))] [] (WW σ t) 0 0 = Q := by
  intro n
  induction n with
  | zero =>
    intro j hj hf
    have e : j = 10 := by omega
    subst e
    rw [plcF_none _ hf] at hQ
    simp (disch := omega) only [s49_2, s49_3, s49_5, s49_8, s49_9, s49_12, s49_13, s49_14, s49_15, s49_18, s49_19, s49_20, s49_23, s49_26, s49_27, c10, c100, c6, eq_self, bnd_l, bnd_r, Option.toList_some, Option.toList_none, List.cons_append, List.nil_append, Nat.add_zero, Nat.zero_add, ↓reduceIte, nI_add, nI_mul, nI_subI, lt_t, lt_f, eq_f, lt_m1, m1_lt, eq_m1, m1_eq]
    exact hQ
  | succ n ih =>
    intro j hj hf
    rw [s49_2]
    by_cases hk : σ 34 j = x
    · rw [plcF_at hk 10 (by omega) (fun k hk1 hk2 => hu k j hk1 (by omega) hk2 hk)] at hQ
      simp (disch := omega) only [s49_3, s49_5, s49_8, s49_9, s49_12, s49_13, s49_14, s49_15, s49_18, s49_19, s49_20, s49_23, s49_26, s49_27, c10, c100, c6, eq_self, bnd_l, bnd_r, Option.toList_some, Option.toList_none, List.cons_append, List.nil_append, Nat.add_zero, Nat.zero_add, ↓reduceIte, nI_add, nI_mul, nI_subI, lt_t, lt_f, eq_f, lt_m1, m1_lt, eq_m1, m1_eq, hk]
      exact hQ
    · have i1 := ih (j + 1) (by omega) (fun k h1 => by
        by_cases e : k = j
        · subst e; exact hk
        · exact hf k (by omega))
      simp (disch := omega) only [s49_3, s49_5, s49_8, s49_9, s49_12, s49_13, s49_14, s49_15, s49_18, s49_19, s49_20, s49_23, s49_26, s49_27, c10, c100, c6, eq_self, bnd_l, bnd_r, Option.toList_some, Option.toList_none, List.cons_append, List.nil_append, Nat.add_zero, Nat.zero_add, ↓reduceIte, nI_add, nI_mul, nI_subI, lt_t, lt_f, eq_f, lt_m1, m1_lt, eq_m1, m1_eq, hk]
      exact i1
theorem k_carAt4 {x : Int32} (hu : ∀ a b, a < 10 → b < 10 → σ 34 a = x → σ 34 b = x → a = b) : exC X 49 [.ref 31, .int x] (WW σ t) = ans (plcF (σ 34) x 10) (WW σ t) := by
  rw [ent_49]
  have hL := l_carAt4 (X := X) (t := t) hu rfl 10 0 (by omega) (fun k h => by omega)
  simp (disch := omega) only [s49_0, s49_1, c10, c100, c6, eq_self, bnd_l, bnd_r, Option.toList_some, Option.toList_none, List.cons_append, List.nil_append, Nat.add_zero, Nat.zero_add, ↓reduceIte, nI_add, nI_mul, nI_subI, lt_t, lt_f, eq_f, lt_m1, m1_lt, eq_m1, m1_eq]
  exact hL
theorem k_isAhead {a b : Nat} (hA : IA σ N) (ha : a < 10) (hb : b < 10) : (ahdC (σ 32) (σ 23) N a b → exC X 50 [.ref 31, .int (nI a), .int (nI b)] (WW σ t) = ans (nI 1) (WW σ t)) ∧ (¬ ahdC (σ 32) (σ 23) N a b → exC X 50 [.ref 31, .int (nI a), .int (nI b)] (WW σ t) = ans (nI 0) (WW σ t)) := by
  have i1 := k_compare (X := X) (t := t) hA ha hb
  rw [ent_50]
  constructor
  · rintro (h1 | ⟨h1, h2⟩)
    · have h3 : ¬ σ 32 a = σ 32 b := fun q => by rw [q] at h1; exact Int32.lt_irrefl h1
      simp (disch := omega) only [s50_0, s50_1, s50_4, s50_5, s50_6, s50_7, s50_10, s50_11, s50_12, s50_15, s50_16, s50_19, s50_20, s50_21, s50_22, s50_25, s50_26, s50_27, s50_30, s50_31, s50_34, s50_35z0, s50_35z1, s50_36, s50_37, s50_40, s50_41, s50_42, s50_45, s50_46, s50_47, s50_50, s50_51, s50_54, s50_55, s50_58, s50_59, s50_62, s50_63, s50_64, s50_67, s50_68, s50_71, s50_72z0, s50_72z1, c10, c100, c6, eq_self, bnd_l, bnd_r, Option.toList_some, Option.toList_none, List.cons_append, List.nil_append, Nat.add_zero, Nat.zero_add, ↓reduceIte, nI_add, nI_mul, nI_subI, lt_t, lt_f, eq_f, lt_m1, m1_lt, eq_m1, m1_eq, h1, h3]
    · rcases h2 with h2 | ⟨h2, h3⟩
      · simp (disch := omega) only [s50_0, s50_1, s50_4, s50_5, s50_6, s50_7, s50_10, s50_11, s50_12, s50_15, s50_16, s50_19, s50_20, s50_21, s50_22, s50_25, s50_26, s50_27, s50_30, s50_31, s50_34, s50_35z0, s50_35z1, s50_36, s50_37, s50_40, s50_41, s50_42, s50_45, s50_46, s50_47, s50_50, s50_51, s50_54, s50_55, s50_58, s50_59, s50_62, s50_63, s50_64, s50_67, s50_68, s50_71, s50_72z0, s50_72z1, c10, c100, c6, eq_self, bnd_l, bnd_r, Option.toList_some, Option.toList_none, List.cons_append, List.nil_append, Nat.add_zero, Nat.zero_add, ↓reduceIte, nI_add, nI_mul, nI_subI, lt_t, lt_f, eq_f, lt_m1, m1_lt, eq_m1, m1_eq, h1, h2, i1]
      · simp (disch := omega) only [s50_0, s50_1, s50_4, s50_5, s50_6, s50_7, s50_10, s50_11, s50_12, s50_15, s50_16, s50_19, s50_20, s50_21, s50_22, s50_25, s50_26, s50_27, s50_30, s50_31, s50_34, s50_35z0, s50_35z1, s50_36, s50_37, s50_40, s50_41, s50_42, s50_45, s50_46, s50_47, s50_50, s50_51, s50_54, s50_55, s50_58, s50_59, s50_62, s50_63, s50_64, s50_67, s50_68, s50_71, s50_72z0, s50_72z1, c10, c100, c6, eq_self, bnd_l, bnd_r, Option.toList_some, Option.toList_none, List.cons_append, List.nil_append, Nat.add_zero, Nat.zero_add, ↓reduceIte, nI_add, nI_mul, nI_subI, lt_t, lt_f, eq_f, lt_m1, m1_lt, eq_m1, m1_eq, h1, h2, i1]
  · intro hn
    by_cases h1 : σ 32 a = σ 32 b
    · rcases cmp_val (tm := σ 23) (a := a) (b := b) N 0 with g | g | g
      · exact absurd (Or.inr ⟨h1, Or.inl g⟩) hn
      · have h2 : ¬ a < b := fun q => hn (Or.inr ⟨h1, Or.inr ⟨g, q⟩⟩)
        simp (disch := omega) only [s50_0, s50_1, s50_4, s50_5, s50_6, s50_7, s50_10, s50_11, s50_12, s50_15, s50_16, s50_19, s50_20, s50_21, s50_22, s50_25, s50_26, s50_27, s50_30, s50_31, s50_34, s50_35z0, s50_35z1, s50_36, s50_37, s50_40, s50_41, s50_42, s50_45, s50_46, s50_47, s50_50, s50_51, s50_54, s50_55, s50_58, s50_59, s50_62, s50_63, s50_64, s50_67, s50_68, s50_71, s50_72z0, s50_72z1, c10, c100, c6, eq_self, bnd_l, bnd_r, Option.toList_some, Option.toList_none, List.cons_append, List.nil_append, Nat.add_zero, Nat.zero_add, ↓reduceIte, nI_add, nI_mul, nI_subI, lt_t, lt_f, eq_f, lt_m1, m1_lt, eq_m1, m1_eq, h1, g, i1]
      · simp (disch := omega) only [s50_0, s50_1, s50_4, s50_5, s50_6, s50_7, s50_10, s50_11, s50_12, s50_15, s50_16, s50_19, s50_20, s50_21, s50_22, s50_25, s50_26, s50_27, s50_30, s50_31, s50_34, s50_35z0, s50_35z1, s50_36, s50_37, s50_40, s50_41, s50_42, s50_45, s50_46, s50_47, s50_50, s50_51, s50_54, s50_55, s50_58, s50_59, s50_62, s50_63, s50_64, s50_67, s50_68, s50_71, s50_72z0, s50_72z1, c10, c100, c6, eq_self, bnd_l, bnd_r, Option.toList_some, Option.toList_none, List.cons_append, List.nil_append, Nat.add_zero, Nat.zero_add, ↓reduceIte, nI_add, nI_mul, nI_subI, lt_t, lt_f, eq_f, lt_m1, m1_lt, eq_m1, m1_eq, h1, g, i1]
    · have h2 : ¬ σ 32 a < σ 32 b := fun q => hn (Or.inl q)
      simp (disch := omega) only [s50_0, s50_1, s50_4, s50_5, s50_6, s50_7, s50_10, s50_11, s50_12, s50_15, s50_16, s50_19, s50_20, s50_21, s50_22, s50_25, s50_26, s50_27, s50_30, s50_31, s50_34, s50_35z0, s50_35z1, s50_36, s50_37, s50_40, s50_41, s50_42, s50_45, s50_46, s50_47, s50_50, s50_51, s50_54, s50_55, s50_58, s50_59, s50_62, s50_63, s50_64, s50_67, s50_68, s50_71, s50_72z0, s50_72z1, c10, c100, c6, eq_self, bnd_l, bnd_r, Option.toList_some, Option.toList_none, List.cons_append, List.nil_append, Nat.add_zero, Nat.zero_add, ↓reduceIte, nI_add, nI_mul, nI_subI, lt_t, lt_f, eq_f, lt_m1, m1_lt, eq_m1, m1_eq, h1, h2]
/-- who is in the ranks, by the class's rows -/
def inC (z : Int32) (σ : Nat → Nat → Int32) (c : Nat) : Prop := z = nI 1 ∨ (¬ σ 11 c = -1 ∧ runP σ c)
/-- the first loop -/
noncomputable def rk1 (z : Int32) (σ : Nat → Nat → Int32) (N j : Nat) : Nat → Nat → Int32 := fun p => if p = 33 then ltF j (fun c => nI (b01 (inC z σ c))) (σ 33) else if p = 32 then ltF j (ttC σ N) (σ 32) else σ p
theorem rk1_0 {z : Int32} : rk1 z σ N 0 = σ := by
  funext p
  unfold rk1
  split
  · rename_i h; subst h; exact ltF_0 _ _
  · split
    · rename_i h; subst h; exact ltF_0 _ _
    · rfl
theorem rk1_s {z : Int32} {j : Nat} {x : Int32} (hx : x = nI (b01 (inC z σ j))) : u2 (u2 (rk1 z σ N j) 33 j x) 32 j (ttC σ N j) = rk1 z σ N (j + 1) := by
  subst hx
  funext p
  by_cases h1 : p = 32
  · subst h1; exact upd_ltF j (ttC σ N) (σ 32)
  · rw [u2_ne h1]
    by_cases h2 : p = 33
    · subst h2; exact upd_ltF j (fun c => nI (b01 (inC z σ c))) (σ 33)
    · rw [u2_ne h2]
      unfold rk1
      rw [if_neg h2, if_neg h2, if_neg h1, if_neg h1]
theorem l_reckon1 {z : Int32} {o3 : Option Value} (hz : z = nI 0 ∨ z = nI 1) (hA : IA σ N) (hs : N = 0 → ∀ c, c < 10 → σ 11 c = -1) {Q : Option rR} (hQ : exM X 47 62 [some (.ref 31), some (.int z), some (.int (nI 10)), o3] [] (WW (rk1 z σ N 10) t) 0 0 = Q) : ∀ n j, j + n = 10 → exM X 47 2 [some (.ref 31), some (.int z), some (.int (nI j)), o3] [] (WW (rk1 z σ N j) t) 0 0 = Q := by
  intro n
  induction n with
  | zero =>
    intro j hj
    have e : j = 10 := by omega
    subst e
    simp (disch := omega) only [s47_2, s47_3, s47_5, c10, c100, c6, eq_self, bnd_l, bnd_r, Option.toList_some, Option.toList_none, List.cons_append, List.nil_append, Nat.add_zero, Nat.zero_add, ↓reduceIte, nI_add, nI_mul, nI_subI, lt_t, lt_f, eq_f, lt_m1, m1_lt, eq_m1, m1_eq]
    exact hQ
  | succ n ih =>
    intro j hj
    rw [s47_2]
    have i1 := ih (j + 1) (by omega)
    have hj10 : j < 10 := by omega
    have it0 : exC X 45 [.ref 31, .int (nI j)] (WW (u2 (rk1 z σ N j) 33 j (nI 0)) t) = ans (ttC σ N j) (WW (u2 (rk1 z σ N j) 33 j (nI 0)) t) := k_totalOf (σ := u2 (rk1 z σ N j) 33 j (nI 0)) (N := N) hA hj10
    have it1 : exC X 45 [.ref 31, .int (nI j)] (WW (u2 (rk1 z σ N j) 33 j (nI 1)) t) = ans (ttC σ N j) (WW (u2 (rk1 z σ N j) 33 j (nI 1)) t) := k_totalOf (σ := u2 (rk1 z σ N j) 33 j (nI 1)) (N := N) hA hj10
    rcases hz with rfl | rfl
    · have ist := k_started (X := X) (σ := rk1 (nI 0) σ N j) (t := t) (N := N) (c := j) hA hj10 (fun q => hs q j hj10)
      have irn := k_isRunning (X := X) (σ := rk1 (nI 0) σ N j) (t := t) hj10
      by_cases h1 : σ 11 j = -1
      · have i2 := ist.1 h1
        simp (disch := omega) only [s47_3, s47_5, s47_8, s47_9, s47_12, s47_13, s47_14, s47_17, s47_18, s47_21, s47_22, s47_25, s47_28, s47_29, s47_32, s47_33, s47_36, s47_39, s47_40, s47_43, s47_44 nar0, s47_44 nar1, s47_45, s47_46, s47_49, s47_50, s47_51, s47_52, s47_55, s47_56, s47_59, c10, c100, c6, eq_self, bnd_l, bnd_r, Option.toList_some, Option.toList_none, List.cons_append, List.nil_append, Nat.add_zero, Nat.zero_add, ↓reduceIte, nI_add, nI_mul, nI_subI, lt_t, lt_f, eq_f, lt_m1, m1_lt, eq_m1, m1_eq, i2, it0]
        rw [rk1_s (by rw [b01_f (fun q : inC (nI 0) σ j => q.elim (fun q => n1_0 q.symm) (fun q => q.1 h1))])]
        exact i1
      · have i2 := ist.2 h1
        by_cases h2 : runP σ j
        · have i3 := irn.1 h2
          simp (disch := omega) only [s47_3, s47_5, s47_8, s47_9, s47_12, s47_13, s47_14, s47_17, s47_18, s47_21, s47_22, s47_25, s47_28, s47_29, s47_32, s47_33, s47_36, s47_39, s47_40, s47_43, s47_44 nar0, s47_44 nar1, s47_45, s47_46, s47_49, s47_50, s47_51, s47_52, s47_55, s47_56, s47_59, c10, c100, c6, eq_self, bnd_l, bnd_r, Option.toList_some, Option.toList_none, List.cons_append, List.nil_append, Nat.add_zero, Nat.zero_add, ↓reduceIte, nI_add, nI_mul, nI_subI, lt_t, lt_f, eq_f, lt_m1, m1_lt, eq_m1, m1_eq, i2, i3, it1]
          rw [rk1_s (by rw [b01_t (show inC (nI 0) σ j from Or.inr ⟨h1, h2⟩)])]
          exact i1
        · have i3 := irn.2 h2
          simp (disch := omega) only [s47_3, s47_5, s47_8, s47_9, s47_12, s47_13, s47_14, s47_17, s47_18, s47_21, s47_22, s47_25, s47_28, s47_29, s47_32, s47_33, s47_36, s47_39, s47_40, s47_43, s47_44 nar0, s47_44 nar1, s47_45, s47_46, s47_49, s47_50, s47_51, s47_52, s47_55, s47_56, s47_59, c10, c100, c6, eq_self, bnd_l, bnd_r, Option.toList_some, Option.toList_none, List.cons_append, List.nil_append, Nat.add_zero, Nat.zero_add, ↓reduceIte, nI_add, nI_mul, nI_subI, lt_t, lt_f, eq_f, lt_m1, m1_lt, eq_m1, m1_eq, i2, i3, it0]
          rw [rk1_s (by rw [b01_f (fun q : inC (nI 0) σ j => q.elim (fun q => n1_0 q.symm) (fun q => h2 q.2))])]
          exact i1
    · simp (disch := omega) only [s47_3, s47_5, s47_8, s47_9, s47_12, s47_13, s47_14, s47_17, s47_18, s47_21, s47_22, s47_25, s47_28, s47_29, s47_32, s47_33, s47_36, s47_39, s47_40, s47_43, s47_44 nar0, s47_44 nar1, s47_45, s47_46, s47_49, s47_50, s47_51, s47_52, s47_55, s47_56, s47_59, c10, c100, c6, eq_self, bnd_l, bnd_r, Option.toList_some, Option.toList_none, List.cons_append, List.nil_append, Nat.add_zero, Nat.zero_add, ↓reduceIte, nI_add, nI_mul, nI_subI, lt_t, lt_f, eq_f, lt_m1, m1_lt, eq_m1, m1_eq, it1]
      rw [rk1_s (by rw [b01_t (show inC (nI 1) σ j from Or.inl rfl)])]
      exact i1
/-- the places while they are counted: the cars under m, against those under m (under j: also m), and m against those under j -/
noncomputable def plM (P : Nat → Prop) (A : Nat → Nat → Prop) (f : Nat → Int32) (m j : Nat) : Nat → Int32 := fun c => if c < m then plV P A c (if c < j then m + 1 else m) else if c = m then plV P A m j else f c
noncomputable def plO (P : Nat → Prop) (A : Nat → Nat → Prop) (f : Nat → Int32) (m : Nat) : Nat → Int32 := fun c => if c < m then plV P A c m else f c
section PLM
variable {P : Nat → Prop} {A : Nat → Nat → Prop} {f : Nat → Int32} {m j : Nat}
theorem plO_0 : plO P A f 0 = f := by
  funext c
  unfold plO
  rw [if_neg (by omega)]
theorem plM_0 {x : Int32} (hx : x = plV P A m 0) : upd (plO P A f m) m x = plM P A f m 0 := by
  subst hx
  funext c
  unfold upd plM plO
  by_cases h : c = m
  · subst h
    rw [if_pos rfl, if_neg (by omega), if_pos rfl]
  · rw [if_neg h]
    by_cases h2 : c < m
    · rw [if_pos h2, if_pos h2, if_neg (by omega)]
    · rw [if_neg h2, if_neg h2, if_neg h]
theorem plV_s {c n : Nat} (h : ¬ (n ≠ c ∧ P n ∧ A n c)) : plV P A c (n + 1) = plV P A c n := by
  by_cases hp : P c
  · rw [plV_t hp, plV_t hp, cnF_f h]
  · rw [plV_f hp, plV_f hp]
theorem plV_u {c n : Nat} (hp : P c) (h : n ≠ c ∧ P n ∧ A n c) : plV P A c (n + 1) = plV P A c n + nI 1 := by
  rw [plV_t hp, plV_t hp, nI_add]
  exact congrArg nI (cnF_t h)
theorem plM_m : plM P A f m m = plO P A f (m + 1) := by
  funext c
  unfold plM plO
  by_cases h2 : c < m
  · rw [if_pos h2, if_pos h2, if_pos (by omega)]
  · rw [if_neg h2]
    by_cases h : c = m
    · subst h
      rw [if_pos rfl, if_pos (by omega), plV_s (fun q => q.1 rfl)]
    · rw [if_neg h, if_neg (by omega)]
theorem plM_at : plM P A f m j m = plV P A m j := by
  unfold plM
  rw [if_neg (by omega), if_pos rfl]
theorem plM_j (hj : j < m) : plM P A f m j j = plV P A j m := by
  unfold plM
  rw [if_pos hj, if_neg (by omega)]
/-- neither gains -/
theorem plM_n (hj : j < m) (h1 : ¬ (P m ∧ P j)) : plM P A f m j = plM P A f m (j + 1) := by
  funext c
  unfold plM
  by_cases h2 : c < m
  · rw [if_pos h2, if_pos h2]
    by_cases h3 : c < j
    · rw [if_pos h3, if_pos (by omega)]
    · rw [if_neg h3]
      by_cases h4 : c = j
      · subst h4
        rw [if_pos (by omega)]
        by_cases hp : P c
        · exact (plV_s (fun q => h1 ⟨q.2.1, hp⟩)).symm
        · rw [plV_f hp, plV_f hp]
      · rw [if_neg (by omega)]
  · rw [if_neg h2, if_neg h2]
    by_cases h : c = m
    · subst h
      rw [if_pos rfl, if_pos rfl]
      by_cases hp : P c
      · exact (plV_s (fun q => h1 ⟨hp, q.2.1⟩)).symm
      · rw [plV_f hp, plV_f hp]
    · rw [if_neg h, if_neg h]
/-- the later one gains: the other is ahead -/
theorem plM_u (hj : j < m) (hpm : P m) (hpj : P j) (ha : A j m) (hb : ¬ A m j) : upd (plM P A f m j) m (plM P A f m j m + nI 1) = plM P A f m (j + 1) := by
  funext c
  unfold upd
  by_cases h : c = m
  · subst h
    rw [if_pos rfl, plM_at, plM_at, plV_u hpm ⟨by omega, hpj, ha⟩]
  · rw [if_neg h]
    unfold plM
    by_cases h2 : c < m
    · rw [if_pos h2, if_pos h2]
      by_cases h3 : c < j
      · rw [if_pos h3, if_pos (by omega)]
      · rw [if_neg h3]
        by_cases h4 : c = j
        · subst h4
          rw [if_pos (by omega)]
          exact (plV_s (fun q => hb q.2.2)).symm
        · rw [if_neg (by omega)]
    · rw [if_neg h2, if_neg h2, if_neg h, if_neg h]
/-- the earlier one gains -/
theorem plM_v (hj : j < m) (hpm : P m) (hpj : P j) (ha : ¬ A j m) (hb : A m j) : upd (plM P A f m j) j (plM P A f m j j + nI 1) = plM P A f m (j + 1) := by
  funext c
  unfold upd
  by_cases h : c = j
  · subst h
    rw [if_pos rfl, plM_j hj]
    unfold plM
    rw [if_pos hj, if_pos (by omega), plV_u hpj ⟨by omega, hpm, hb⟩]
  · rw [if_neg h]
    unfold plM
    by_cases h2 : c < m
    · rw [if_pos h2, if_pos h2]
      by_cases h3 : c < j
      · rw [if_pos h3, if_pos (by omega)]
      · rw [if_neg h3, if_neg (by omega)]
    · rw [if_neg h2, if_neg h2]
      by_cases h4 : c = m
      · subst h4
        rw [if_pos rfl, if_pos rfl]
        exact (plV_s (fun q => ha q.2.2)).symm
      · rw [if_neg h4, if_neg h4]
end PLM
theorem b01_or (p : Prop) : b01 p = 0 ∨ b01 p = 1 := by
  by_cases h : p
  · exact Or.inr (b01_t h)
  · exact Or.inl (b01_f h)
theorem l_reckon3 {z : Value} {P : Nat → Prop} {m : Nat} (hA : IA σ N) (hm : m < 10) (hP : ∀ c, c < 10 → σ 33 c = nI (b01 (P c))) {f : Nat → Int32} {Q : Option rR} (hQ : exM X 47 144 [some (.ref 31), some z, some (.int (nI m)), some (.int (nI m))] [] (WW (sA σ 34 (plO P (ahdC (σ 32) (σ 23) N) f (m + 1))) t) 0 0 = Q) :
    ∀ n j, j + n = m → exM X 47 92 [some (.ref 31), some z, some (.int (nI m)), some (.int (nI j))] [] (WW (sA σ 34 (plM P (ahdC (σ 32) (σ 23) N) f m j)) t) 0 0 = Q := by
  have hO := ahdC_ord P (σ 32) (σ 23) N
  intro n
  induction n with
  | zero =>
    intro j hj
    have e : j = m := by omega
    subst e
    rw [← plM_m] at hQ
    simp (disch := omega) only [s47_92, s47_93, s47_94, c10, c100, c6, eq_self, bnd_l, bnd_r, Option.toList_some, Option.toList_none, List.cons_append, List.nil_append, Nat.add_zero, Nat.zero_add, ↓reduceIte, nI_add, nI_mul, nI_subI, lt_t, lt_f, eq_f, lt_m1, m1_lt, eq_m1, m1_eq]
    exact hQ
  | succ n ih =>
    intro j hj
    rw [s47_92]
    have i1 := ih (j + 1) (by omega)
    have e1 := hP m hm
    have e2 := hP j (by omega)
    have ia := k_isAhead (X := X) (σ := sA σ 34 (plM P (ahdC (σ 32) (σ 23) N) f m j)) (t := t) (N := N) (a := j) (b := m) hA (by omega) hm
    have hab := hO.1 j m (by omega) hm (by omega)
    have hj2 : j < m := by omega
    by_cases hpm : P m
    · rw [b01_t hpm] at e1
      by_cases hpj : P j
      · rw [b01_t hpj] at e2
        by_cases ha : ahdC (σ 32) (σ 23) N j m
        · have i2 := ia.1 ha
          rw [← plM_u hj2 hpm hpj ha (hab.mp ha)] at i1
          generalize plM P (ahdC (σ 32) (σ 23) N) f m j = g at *
          simp (disch := omega) only [s47_93, s47_94, s47_97, s47_98, s47_101, s47_102, s47_103, s47_106, s47_107, s47_110, s47_111, s47_112, s47_115, s47_116, s47_119, s47_120, s47_121, s47_122, s47_125, s47_128, s47_129, s47_132, s47_133, s47_134, s47_135, s47_136, s47_137, s47_138, s47_141, c10, c100, c6, eq_self, bnd_l, bnd_r, Option.toList_some, Option.toList_none, List.cons_append, List.nil_append, Nat.add_zero, Nat.zero_add, ↓reduceIte, nI_add, nI_mul, nI_subI, lt_t, lt_f, eq_f, lt_m1, m1_lt, eq_m1, m1_eq, sA_ne, sA_eq, e1, e2, i2, u2_sA]
          exact i1
        · have i2 := ia.2 ha
          have hb : ahdC (σ 32) (σ 23) N m j := (hO.1 m j hm (by omega) (by omega)).mpr ha
          rw [← plM_v hj2 hpm hpj ha hb] at i1
          generalize plM P (ahdC (σ 32) (σ 23) N) f m j = g at *
          simp (disch := omega) only [s47_93, s47_94, s47_97, s47_98, s47_101, s47_102, s47_103, s47_106, s47_107, s47_110, s47_111, s47_112, s47_115, s47_116, s47_119, s47_120, s47_121, s47_122, s47_125, s47_128, s47_129, s47_132, s47_133, s47_134, s47_135, s47_136, s47_137, s47_138, s47_141, c10, c100, c6, eq_self, bnd_l, bnd_r, Option.toList_some, Option.toList_none, List.cons_append, List.nil_append, Nat.add_zero, Nat.zero_add, ↓reduceIte, nI_add, nI_mul, nI_subI, lt_t, lt_f, eq_f, lt_m1, m1_lt, eq_m1, m1_eq, sA_ne, sA_eq, e1, e2, i2, u2_sA]
          exact i1
      · rw [b01_f hpj] at e2
        rw [← plM_n hj2 (fun q => hpj q.2)] at i1
        generalize plM P (ahdC (σ 32) (σ 23) N) f m j = g at *
        simp (disch := omega) only [s47_93, s47_94, s47_97, s47_98, s47_101, s47_102, s47_103, s47_106, s47_107, s47_110, s47_111, s47_112, s47_115, s47_116, s47_119, s47_120, s47_121, s47_122, s47_125, s47_128, s47_129, s47_132, s47_133, s47_134, s47_135, s47_136, s47_137, s47_138, s47_141, c10, c100, c6, eq_self, bnd_l, bnd_r, Option.toList_some, Option.toList_none, List.cons_append, List.nil_append, Nat.add_zero, Nat.zero_add, ↓reduceIte, nI_add, nI_mul, nI_subI, lt_t, lt_f, eq_f, lt_m1, m1_lt, eq_m1, m1_eq, sA_ne, sA_eq, e1, e2]
        exact i1
    · rw [b01_f hpm] at e1
      rw [← plM_n hj2 (fun q => hpm q.1)] at i1
      generalize plM P (ahdC (σ 32) (σ 23) N) f m j = g at *
      simp (disch := omega) only [s47_93, s47_94, s47_97, s47_98, s47_101, s47_102, s47_103, s47_106, s47_107, s47_110, s47_111, s47_112, s47_115, s47_116, s47_119, s47_120, s47_121, s47_122, s47_125, s47_128, s47_129, s47_132, s47_133, s47_134, s47_135, s47_136, s47_137, s47_138, s47_141, c10, c100, c6, eq_self, bnd_l, bnd_r, Option.toList_some, Option.toList_none, List.cons_append, List.nil_append, Nat.add_zero, Nat.zero_add, ↓reduceIte, nI_add, nI_mul, nI_subI, lt_t, lt_f, eq_f, lt_m1, m1_lt, eq_m1, m1_eq, sA_ne, sA_eq, e1]
      exact i1
theorem l_reckon2 {z : Value} {P : Nat → Prop} (hA : IA σ N) (hP : ∀ c, c < 10 → σ 33 c = nI (b01 (P c))) {Q : Option rR} (hQ : ansV (WW (sA σ 34 (plO P (ahdC (σ 32) (σ 23) N) (σ 34) 10)) t) = Q) :
    ∀ n m, m + n = 10 → ∀ o3, exM X 47 64 [some (.ref 31), some z, some (.int (nI m)), o3] [] (WW (sA σ 34 (plO P (ahdC (σ 32) (σ 23) N) (σ 34) m)) t) 0 0 = Q := by
  intro n
  induction n with
  | zero =>
    intro m hm o3
    have e : m = 10 := by omega
    subst e
    simp (disch := omega) only [s47_64, s47_65, s47_67, s47_150, c10, c100, c6, eq_self, bnd_l, bnd_r, Option.toList_some, Option.toList_none, List.cons_append, List.nil_append, Nat.add_zero, Nat.zero_add, ↓reduceIte, nI_add, nI_mul, nI_subI, lt_t, lt_f, eq_f, lt_m1, m1_lt, eq_m1, m1_eq]
    exact hQ
  | succ n ih =>
    intro m hm o3
    rw [s47_64]
    have i1 := ih (m + 1) (by omega)
    have e1 := hP m (by omega)
    have hL := l_reckon3 (X := X) (t := t) (z := z) (P := P) (m := m) (f := σ 34) (Q := Q) hA (by omega) hP (by
      simp (disch := omega) only [s47_144, s47_147, c10, c100, c6, eq_self, bnd_l, bnd_r, Option.toList_some, Option.toList_none, List.cons_append, List.nil_append, Nat.add_zero, Nat.zero_add, ↓reduceIte, nI_add, nI_mul, nI_subI, lt_t, lt_f, eq_f, lt_m1, m1_lt, eq_m1, m1_eq]
      exact i1 _) m 0 (by omega)
    by_cases hpm : P m
    · rw [b01_t hpm] at e1
      rw [← plM_0 (x := nI 0) (by rw [plV_t hpm]; rfl)] at hL
      simp (disch := omega) only [s47_65, s47_67, s47_70, s47_71, s47_74, s47_75, s47_76, s47_79, s47_80, s47_81, s47_84, s47_85, s47_88, s47_89, s47_90, s47_91, c10, c100, c6, eq_self, bnd_l, bnd_r, Option.toList_some, Option.toList_none, List.cons_append, List.nil_append, Nat.add_zero, Nat.zero_add, ↓reduceIte, nI_add, nI_mul, nI_subI, lt_t, lt_f, eq_f, lt_m1, m1_lt, eq_m1, m1_eq, sA_ne, e1, u2_sA]
      exact hL
    · rw [b01_f hpm] at e1
      rw [← plM_0 (x := -1) (by rw [plV_f hpm])] at hL
      simp (disch := omega) only [s47_65, s47_67, s47_70, s47_71, s47_74, s47_75, s47_76, s47_79, s47_80, s47_81, s47_84, s47_85, s47_88, s47_89, s47_90, s47_91, c10, c100, c6, eq_self, bnd_l, bnd_r, Option.toList_some, Option.toList_none, List.cons_append, List.nil_append, Nat.add_zero, Nat.zero_add, ↓reduceIte, nI_add, nI_mul, nI_subI, lt_t, lt_f, eq_f, lt_m1, m1_lt, eq_m1, m1_eq, sA_ne, e1, u2_sA]
      exact hL
/-- the class with the ranks reckoned -/
noncomputable def rkC (z : Int32) (σ : Nat → Nat → Int32) (N : Nat) : Nat → Nat → Int32 := sA (rk1 z σ N 10) 34 (plO (inC z σ) (ahdC (rk1 z σ N 10 32) (σ 23) N) (σ 34) 10)
theorem k_reckon4 {z : Int32} (hz : z = nI 0 ∨ z = nI 1) (hA : IA σ N) (hs : N = 0 → ∀ c, c < 10 → σ 11 c = -1) : exC X 47 [.ref 31, .int z] (WW σ t) = ansV (WW (rkC z σ N) t) := by
  rw [ent_47]
  have h2 := l_reckon2 (X := X) (σ := rk1 z σ N 10) (t := t) (z := .int z) (P := inC z σ) (N := N) (Q := ansV (WW (rkC z σ N) t)) hA (fun c hc => by
    show ltF 10 (fun c => nI (b01 (inC z σ c))) (σ 33) c = _
    rw [ltF_lt hc]) rfl 10 0 (by omega) none
  rw [plO_0, sA_self] at h2
  have h1 := l_reckon1 (X := X) (t := t) (o3 := none) hz hA hs (Q := ansV (WW (rkC z σ N) t)) (by
    simp (disch := omega) only [s47_62, s47_63, c10, c100, c6, eq_self, bnd_l, bnd_r, Option.toList_some, Option.toList_none, List.cons_append, List.nil_append, Nat.add_zero, Nat.zero_add, ↓reduceIte, nI_add, nI_mul, nI_subI, lt_t, lt_f, eq_f, lt_m1, m1_lt, eq_m1, m1_eq]
    exact h2) 10 0 (by omega)
  rw [rk1_0] at h1
  simp (disch := omega) only [s47_0, s47_1, c10, c100, c6, eq_self, bnd_l, bnd_r, Option.toList_some, Option.toList_none, List.cons_append, List.nil_append, Nat.add_zero, Nat.zero_add, ↓reduceIte, nI_add, nI_mul, nI_subI, lt_t, lt_f, eq_f, lt_m1, m1_lt, eq_m1, m1_eq]
  exact h1
end CMP5
