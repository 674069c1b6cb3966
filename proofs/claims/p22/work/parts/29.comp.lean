/-! THE CLASS: items, orders -/
theorem c10 (i : Nat) : i * 10 = 10 * i := Nat.mul_comm _ _
theorem c100 (i : Nat) : i * 100 = 100 * i := Nat.mul_comm _ _
theorem c6 (i : Nat) : i * 6 = 6 * i := Nat.mul_comm _ _
theorem inR_lt {x : Int32} {n : Nat} (hn : n < 2 ^ 31) (h : ¬ inR x n) : x < nI 0 ∨ (¬ x < nI 0 ∧ ¬ x < nI n) := by
  by_cases h1 : x < nI 0
  · exact Or.inl h1
  · by_cases h2 : x < nI n
    · refine absurd ?_ h
      have h3 : ¬ x.toInt < 0 := by
        intro z
        apply h1
        rw [Int32.lt_iff_toInt_lt, nI_toInt (by omega)]
        exact z
      rw [Int32.lt_iff_toInt_lt, nI_toInt hn] at h2
      refine ⟨x.toInt.toNat, by omega, ?_⟩
      refine Int32.toInt_inj.mp ?_
      rw [nI_toInt (by omega)]
      omega
    · exact Or.inr ⟨h1, h2⟩
section CMP1
variable {X : rX} {h : rH} {σ : Nat → Nat → Int32} {t : rH} {N : Nat}
/-- the class's items are the reference's -/
def IA (σ : Nat → Nat → Int32) (N : Nat) : Prop := N ≤ 20 ∧ σ 3 3 = nI N ∧ (∀ i, i < N → σ 4 i = σ 36 i ∧ σ 5 i = σ 37 i ∧ σ 6 i = nI (legF (σ 36) i)) ∧ (0 < N → σ 36 0 = nI 0) ∧ ∀ i, i < N → σ 36 i = nI 0 ∨ σ 36 i = nI 1 ∨ σ 36 i = nI 2
theorem k_has {i : Nat} (hA : IA σ N) (hi : i < N) : exC X 19 [.ref 3, .int (nI i)] (WW σ t) = ans (nI 1) (WW σ t) := by
  obtain ⟨hN, h3, hI, h0, hK⟩ := hA
  rw [ent_19]
  simp (disch := omega) only [s19_0, s19_1, s19_4, s19_5, s19_6, s19_9, s19_12, s19_13, s19_16, s19_17z0, s19_17z1, c10, c100, c6, eq_self, bnd_l, bnd_r, Option.toList_some, Option.toList_none, List.cons_append, List.nil_append, Nat.add_zero, Nat.zero_add, ↓reduceIte, nI_add, nI_mul, nI_subI, lt_t, lt_f, eq_f, lt_m1, m1_lt, eq_m1, m1_eq, h3]
theorem k_hasNo {v : Int32} (hA : IA σ N) (hv : ¬ inR v N) : exC X 19 [.ref 3, .int v] (WW σ t) = ans (nI 0) (WW σ t) := by
  obtain ⟨hN, h3, hI, h0, hK⟩ := hA
  rw [ent_19]
  rcases inR_lt (by omega) hv with h1 | ⟨h1, h2⟩
  · simp (disch := omega) only [s19_0, s19_1, s19_4, s19_5, s19_6, s19_9, s19_12, s19_13, s19_16, s19_17z0, s19_17z1, c10, c100, c6, eq_self, bnd_l, bnd_r, Option.toList_some, Option.toList_none, List.cons_append, List.nil_append, Nat.add_zero, Nat.zero_add, ↓reduceIte, nI_add, nI_mul, nI_subI, lt_t, lt_f, eq_f, lt_m1, m1_lt, eq_m1, m1_eq, h3, h1]
  · simp (disch := omega) only [s19_0, s19_1, s19_4, s19_5, s19_6, s19_9, s19_12, s19_13, s19_16, s19_17z0, s19_17z1, c10, c100, c6, eq_self, bnd_l, bnd_r, Option.toList_some, Option.toList_none, List.cons_append, List.nil_append, Nat.add_zero, Nat.zero_add, ↓reduceIte, nI_add, nI_mul, nI_subI, lt_t, lt_f, eq_f, lt_m1, m1_lt, eq_m1, m1_eq, h3, h1, h2]
theorem k_size (hA : IA σ N) : exC X 20 [.ref 3] (WW σ t) = ans (nI N) (WW σ t) := by
  obtain ⟨hN, h3, hI, h0, hK⟩ := hA
  rw [ent_20]
  simp (disch := omega) only [s20_0, s20_1, s20_4, c10, c100, c6, eq_self, bnd_l, bnd_r, Option.toList_some, Option.toList_none, List.cons_append, List.nil_append, Nat.add_zero, Nat.zero_add, ↓reduceIte, nI_add, nI_mul, nI_subI, lt_t, lt_f, eq_f, lt_m1, m1_lt, eq_m1, m1_eq, h3]
theorem k_kindOf {i : Nat} (hA : IA σ N) (hi : i < N) : exC X 21 [.ref 3, .int (nI i)] (WW σ t) = ans (σ 36 i) (WW σ t) := by
  have i1 := k_has (X := X) (t := t) hA hi
  obtain ⟨hN, h3, hI, h0, hK⟩ := hA
  rw [ent_21]
  simp (disch := omega) only [s21_0, s21_1, s21_2, s21_5, s21_8, s21_9, s21_12, s21_13, s21_14, s21_17, s21_18, c10, c100, c6, eq_self, bnd_l, bnd_r, Option.toList_some, Option.toList_none, List.cons_append, List.nil_append, Nat.add_zero, Nat.zero_add, ↓reduceIte, nI_add, nI_mul, nI_subI, lt_t, lt_f, eq_f, lt_m1, m1_lt, eq_m1, m1_eq, i1, (hI i hi).1]
theorem k_minutesOf {i : Nat} (hA : IA σ N) (hi : i < N) : exC X 22 [.ref 3, .int (nI i)] (WW σ t) = ans (σ 37 i) (WW σ t) := by
  have i1 := k_has (X := X) (t := t) hA hi
  obtain ⟨hN, h3, hI, h0, hK⟩ := hA
  rw [ent_22]
  simp (disch := omega) only [s22_0, s22_1, s22_2, s22_5, s22_8, s22_9, s22_12, s22_13, s22_14, s22_17, s22_18, c10, c100, c6, eq_self, bnd_l, bnd_r, Option.toList_some, Option.toList_none, List.cons_append, List.nil_append, Nat.add_zero, Nat.zero_add, ↓reduceIte, nI_add, nI_mul, nI_subI, lt_t, lt_f, eq_f, lt_m1, m1_lt, eq_m1, m1_eq, i1, (hI i hi).2.1]
theorem k_legOf {i : Nat} (hA : IA σ N) (hi : i < N) : exC X 27 [.ref 3, .int (nI i)] (WW σ t) = ans (nI (legF (σ 36) i)) (WW σ t) := by
  have i1 := k_has (X := X) (t := t) hA hi
  obtain ⟨hN, h3, hI, h0, hK⟩ := hA
  rw [ent_27]
  simp (disch := omega) only [s27_0, s27_1, s27_2, s27_5, s27_8, s27_9, s27_12, s27_13, s27_14, s27_17, s27_18, c10, c100, c6, eq_self, bnd_l, bnd_r, Option.toList_some, Option.toList_none, List.cons_append, List.nil_append, Nat.add_zero, Nat.zero_add, ↓reduceIte, nI_add, nI_mul, nI_subI, lt_t, lt_f, eq_f, lt_m1, m1_lt, eq_m1, m1_eq, i1, (hI i hi).2.2]
/-- whether an item is behind a stage -/
theorem k_behind {i : Nat} (hA : IA σ N) (hi : i < N) (h1 : 1 ≤ i) : (σ 36 (i - 1) = nI 2 → exC X 25 [.ref 3, .int (nI i)] (WW σ t) = ans (nI 1) (WW σ t)) ∧ (¬ σ 36 (i - 1) = nI 2 → exC X 25 [.ref 3, .int (nI i)] (WW σ t) = ans (nI 0) (WW σ t)) := by
  obtain ⟨hN, h3, hI, h0, hK⟩ := hA
  have h4 := (hI (i - 1) (by omega)).1
  rw [ent_25]
  constructor
  · intro hk
    simp (disch := omega) only [s25_0, s25_1, s25_4, s25_5, s25_6, s25_9, s25_12, s25_13, s25_16, s25_17, s25_18, s25_19, s25_20, s25_21, s25_24, s25_25, s25_28, s25_29z0, s25_29z1, c10, c100, c6, eq_self, bnd_l, bnd_r, Option.toList_some, Option.toList_none, List.cons_append, List.nil_append, Nat.add_zero, Nat.zero_add, ↓reduceIte, nI_add, nI_mul, nI_subI, lt_t, lt_f, eq_f, lt_m1, m1_lt, eq_m1, m1_eq, h3, h4, hk]
  · intro hk
    simp (disch := omega) only [s25_0, s25_1, s25_4, s25_5, s25_6, s25_9, s25_12, s25_13, s25_16, s25_17, s25_18, s25_19, s25_20, s25_21, s25_24, s25_25, s25_28, s25_29z0, s25_29z1, c10, c100, c6, eq_self, bnd_l, bnd_r, Option.toList_some, Option.toList_none, List.cons_append, List.nil_append, Nat.add_zero, Nat.zero_add, ↓reduceIte, nI_add, nI_mul, nI_subI, lt_t, lt_f, eq_f, lt_m1, m1_lt, eq_m1, m1_eq, h3, h4, hk]
theorem k_ahead {i : Nat} (hA : IA σ N) (hi : i < N) (h1 : 1 ≤ i) : exC X 26 [.ref 3, .int (nI i)] (WW σ t) = ans (nI (ahdF (σ 36) i)) (WW σ t) := by
  have i1 := k_behind (X := X) (t := t) hA hi h1
  obtain ⟨hN, h3, hI, h0, hK⟩ := hA
  rw [ent_26]
  by_cases hk : σ 36 (i - 1) = nI 2
  · have i2 := i1.1 hk
    have h2 : 2 ≤ i := by
      by_cases e : i = 1
      · subst e
        rw [h0 (by omega), eq_f (by omega) (by omega) (by omega)] at hk
        exact hk.elim
      · omega
    simp (disch := omega) only [s26_0, s26_1, s26_2, s26_5, s26_8, s26_9, s26_10, s26_11, s26_14, s26_15, s26_16, s26_17, c10, c100, c6, eq_self, bnd_l, bnd_r, Option.toList_some, Option.toList_none, List.cons_append, List.nil_append, Nat.add_zero, Nat.zero_add, ↓reduceIte, nI_add, nI_mul, nI_subI, lt_t, lt_f, eq_f, lt_m1, m1_lt, eq_m1, m1_eq, i2, hk, ahdF]
  · have i2 := i1.2 hk
    simp (disch := omega) only [s26_0, s26_1, s26_2, s26_5, s26_8, s26_9, s26_10, s26_11, s26_14, s26_15, s26_16, s26_17, c10, c100, c6, eq_self, bnd_l, bnd_r, Option.toList_some, Option.toList_none, List.cons_append, List.nil_append, Nat.add_zero, Nat.zero_add, ↓reduceIte, nI_add, nI_mul, nI_subI, lt_t, lt_f, eq_f, lt_m1, m1_lt, eq_m1, m1_eq, i2, hk, ahdF]
/-- whether the row takes a kind -/
def takP (σ : Nat → Nat → Int32) (N : Nat) (a : Int32) : Prop := N < 20 ∧ (N = 0 → a = nI 0) ∧ (0 < N → σ 36 (N - 1) = nI 2 → a = nI 1)
theorem k_takes {a : Int32} (hA : IA σ N) : (takP σ N a → exC X 23 [.ref 3, .int a] (WW σ t) = ans (nI 1) (WW σ t)) ∧ (¬ takP σ N a → exC X 23 [.ref 3, .int a] (WW σ t) = ans (nI 0) (WW σ t)) := by
  have i1 : 0 < N → exC X 21 [.ref 3, .int (nI (N - 1))] (WW σ t) = ans (σ 36 (N - 1)) (WW σ t) := fun q => k_kindOf (X := X) (t := t) hA (by omega)
  obtain ⟨hN, h3, hI, h0, hK⟩ := hA
  rw [ent_23]
  constructor
  · rintro ⟨h1, h2, h4⟩
    by_cases hz : N = 0
    · subst hz
      have h5 := h2 rfl
      subst h5
      simp (disch := omega) only [s23_0, s23_1, s23_4, s23_6, s23_9, s23_10z0, s23_10z1, s23_11, s23_12, s23_15, s23_18, s23_19, s23_22, s23_23, s23_26, s23_27z0, s23_27z1, s23_28, s23_29, s23_30, s23_33, s23_34, s23_35, s23_38, s23_39, s23_40, s23_43, s23_44, s23_47, s23_48, s23_51, s23_52z0, s23_52z1, c10, c100, c6, eq_self, bnd_l, bnd_r, Option.toList_some, Option.toList_none, List.cons_append, List.nil_append, Nat.add_zero, Nat.zero_add, ↓reduceIte, nI_add, nI_mul, nI_subI, lt_t, lt_f, eq_f, lt_m1, m1_lt, eq_m1, m1_eq, h3]
    · have i2 := i1 (by omega)
      by_cases hk : σ 36 (N - 1) = nI 2
      · have h5 := h4 (by omega) hk
        subst h5
        simp (disch := omega) only [s23_0, s23_1, s23_4, s23_6, s23_9, s23_10z0, s23_10z1, s23_11, s23_12, s23_15, s23_18, s23_19, s23_22, s23_23, s23_26, s23_27z0, s23_27z1, s23_28, s23_29, s23_30, s23_33, s23_34, s23_35, s23_38, s23_39, s23_40, s23_43, s23_44, s23_47, s23_48, s23_51, s23_52z0, s23_52z1, c10, c100, c6, eq_self, bnd_l, bnd_r, Option.toList_some, Option.toList_none, List.cons_append, List.nil_append, Nat.add_zero, Nat.zero_add, ↓reduceIte, nI_add, nI_mul, nI_subI, lt_t, lt_f, eq_f, lt_m1, m1_lt, eq_m1, m1_eq, h3, i2, hk]
      · by_cases ha : a = nI 1
        · subst ha
          simp (disch := omega) only [s23_0, s23_1, s23_4, s23_6, s23_9, s23_10z0, s23_10z1, s23_11, s23_12, s23_15, s23_18, s23_19, s23_22, s23_23, s23_26, s23_27z0, s23_27z1, s23_28, s23_29, s23_30, s23_33, s23_34, s23_35, s23_38, s23_39, s23_40, s23_43, s23_44, s23_47, s23_48, s23_51, s23_52z0, s23_52z1, c10, c100, c6, eq_self, bnd_l, bnd_r, Option.toList_some, Option.toList_none, List.cons_append, List.nil_append, Nat.add_zero, Nat.zero_add, ↓reduceIte, nI_add, nI_mul, nI_subI, lt_t, lt_f, eq_f, lt_m1, m1_lt, eq_m1, m1_eq, h3, i2, hk]
        · simp (disch := omega) only [s23_0, s23_1, s23_4, s23_6, s23_9, s23_10z0, s23_10z1, s23_11, s23_12, s23_15, s23_18, s23_19, s23_22, s23_23, s23_26, s23_27z0, s23_27z1, s23_28, s23_29, s23_30, s23_33, s23_34, s23_35, s23_38, s23_39, s23_40, s23_43, s23_44, s23_47, s23_48, s23_51, s23_52z0, s23_52z1, c10, c100, c6, eq_self, bnd_l, bnd_r, Option.toList_some, Option.toList_none, List.cons_append, List.nil_append, Nat.add_zero, Nat.zero_add, ↓reduceIte, nI_add, nI_mul, nI_subI, lt_t, lt_f, eq_f, lt_m1, m1_lt, eq_m1, m1_eq, h3, i2, hk, ha]
  · intro hn
    by_cases h1 : N < 20
    · by_cases hz : N = 0
      · subst hz
        have h5 : ¬ a = nI 0 := fun z => hn ⟨h1, fun _ => z, fun q => by omega⟩
        simp (disch := omega) only [s23_0, s23_1, s23_4, s23_6, s23_9, s23_10z0, s23_10z1, s23_11, s23_12, s23_15, s23_18, s23_19, s23_22, s23_23, s23_26, s23_27z0, s23_27z1, s23_28, s23_29, s23_30, s23_33, s23_34, s23_35, s23_38, s23_39, s23_40, s23_43, s23_44, s23_47, s23_48, s23_51, s23_52z0, s23_52z1, c10, c100, c6, eq_self, bnd_l, bnd_r, Option.toList_some, Option.toList_none, List.cons_append, List.nil_append, Nat.add_zero, Nat.zero_add, ↓reduceIte, nI_add, nI_mul, nI_subI, lt_t, lt_f, eq_f, lt_m1, m1_lt, eq_m1, m1_eq, h3, h5]
      · have i2 := i1 (by omega)
        by_cases hk : σ 36 (N - 1) = nI 2
        · have h5 : ¬ a = nI 1 := fun z => hn ⟨h1, fun q => absurd q hz, fun _ _ => z⟩
          simp (disch := omega) only [s23_0, s23_1, s23_4, s23_6, s23_9, s23_10z0, s23_10z1, s23_11, s23_12, s23_15, s23_18, s23_19, s23_22, s23_23, s23_26, s23_27z0, s23_27z1, s23_28, s23_29, s23_30, s23_33, s23_34, s23_35, s23_38, s23_39, s23_40, s23_43, s23_44, s23_47, s23_48, s23_51, s23_52z0, s23_52z1, c10, c100, c6, eq_self, bnd_l, bnd_r, Option.toList_some, Option.toList_none, List.cons_append, List.nil_append, Nat.add_zero, Nat.zero_add, ↓reduceIte, nI_add, nI_mul, nI_subI, lt_t, lt_f, eq_f, lt_m1, m1_lt, eq_m1, m1_eq, h3, i2, hk, h5]
        · exact absurd ⟨h1, fun q => absurd q hz, fun _ q => absurd q hk⟩ hn
    · simp (disch := omega) only [s23_0, s23_1, s23_4, s23_6, s23_9, s23_10z0, s23_10z1, s23_11, s23_12, s23_15, s23_18, s23_19, s23_22, s23_23, s23_26, s23_27z0, s23_27z1, s23_28, s23_29, s23_30, s23_33, s23_34, s23_35, s23_38, s23_39, s23_40, s23_43, s23_44, s23_47, s23_48, s23_51, s23_52z0, s23_52z1, c10, c100, c6, eq_self, bnd_l, bnd_r, Option.toList_some, Option.toList_none, List.cons_append, List.nil_append, Nat.add_zero, Nat.zero_add, ↓reduceIte, nI_add, nI_mul, nI_subI, lt_t, lt_f, eq_f, lt_m1, m1_lt, eq_m1, m1_eq, h3]
/-- the class with one more item -/
def addC (σ : Nat → Nat → Int32) (N : Nat) (a b : Int32) : Nat → Nat → Int32 := u2 (u2 (u2 (u2 σ 4 N a) 5 N b) 6 N (nI (if a = nI 0 then N else legF (σ 36) (N - 1)))) 3 3 (nI (N + 1))
theorem k_add {a b : Int32} (hA : IA σ N) (ht : takP σ N a) : exC X 24 [.ref 3, .int a, .int b] (WW σ t) = ans (nI N) (WW (addC σ N a b) t) := by
  obtain ⟨h1, h2, h4⟩ := ht
  unfold addC
  rw [ent_24]
  have h3 := hA.2.1
  by_cases ha : a = nI 0
  · subst ha
    simp (disch := omega) only [s24_0, s24_1, s24_4, s24_6, s24_9, s24_10, s24_11, s24_12, s24_15, s24_16, s24_19, s24_20, s24_21, s24_22, s24_25, s24_26, s24_29, s24_30, s24_31, s24_32, s24_35, s24_36, s24_39, s24_40, s24_43, s24_44, s24_47, s24_50, s24_51, s24_52, s24_55, s24_56, s24_57, s24_60, s24_61, s24_62, s24_63, s24_66, s24_67, s24_68, s24_71, s24_72, s24_75, s24_76, s24_77, c10, c100, c6, eq_self, bnd_l, bnd_r, Option.toList_some, Option.toList_none, List.cons_append, List.nil_append, Nat.add_zero, Nat.zero_add, ↓reduceIte, nI_add, nI_mul, nI_subI, lt_t, lt_f, eq_f, lt_m1, m1_lt, eq_m1, m1_eq, h3, u2_ne, u2_eq, upd_eq, Nat.add_sub_cancel]
  · have hz : 0 < N := by
      by_cases e : N = 0
      · exact absurd (h2 e) ha
      · omega
    have i1 := k_has (X := X) (σ := u2 (u2 σ 4 N a) 5 N b) (t := t) (N := N) (i := N - 1) ⟨hA.1, h3, fun i hi => ⟨(by
        rw [u2_ne (by omega), u2_eq, upd_ne (by omega)]
        exact (hA.2.2.1 i hi).1), (by
        rw [u2_eq, u2_ne (by omega), upd_ne (by omega)]
        exact (hA.2.2.1 i hi).2.1), (hA.2.2.1 i hi).2.2⟩, hA.2.2.2.1, hA.2.2.2.2⟩ (by omega)
    have i2 : exC X 27 [.ref 3, .int (nI (N - 1))] (WW (u2 (u2 σ 4 N a) 5 N b) t) = ans (nI (legF (σ 36) (N - 1))) (WW (u2 (u2 σ 4 N a) 5 N b) t) := by
      rw [ent_27]
      simp (disch := omega) only [s27_0, s27_1, s27_2, s27_5, s27_8, s27_9, s27_12, s27_13, s27_14, s27_17, s27_18, c10, c100, c6, eq_self, bnd_l, bnd_r, Option.toList_some, Option.toList_none, List.cons_append, List.nil_append, Nat.add_zero, Nat.zero_add, ↓reduceIte, nI_add, nI_mul, nI_subI, lt_t, lt_f, eq_f, lt_m1, m1_lt, eq_m1, m1_eq, i1, u2_ne, (hA.2.2.1 (N - 1) (by omega)).2.2]
    simp (disch := omega) only [s24_0, s24_1, s24_4, s24_6, s24_9, s24_10, s24_11, s24_12, s24_15, s24_16, s24_19, s24_20, s24_21, s24_22, s24_25, s24_26, s24_29, s24_30, s24_31, s24_32, s24_35, s24_36, s24_39, s24_40, s24_43, s24_44, s24_47, s24_50, s24_51, s24_52, s24_55, s24_56, s24_57, s24_60, s24_61, s24_62, s24_63, s24_66, s24_67, s24_68, s24_71, s24_72, s24_75, s24_76, s24_77, c10, c100, c6, eq_self, bnd_l, bnd_r, Option.toList_some, Option.toList_none, List.cons_append, List.nil_append, Nat.add_zero, Nat.zero_add, ↓reduceIte, nI_add, nI_mul, nI_subI, lt_t, lt_f, eq_f, lt_m1, m1_lt, eq_m1, m1_eq, h3, u2_ne, u2_eq, upd_eq, Nat.add_sub_cancel, ha, i2]
/-- the class's orders are the reference's -/
def IB (σ : Nat → Nat → Int32) : Prop := (∀ g, g < 20 → okO (σ 38) (σ 39) g) ∧ (∀ g, g < 20 → ∀ p, p < cnt (σ 39 g) → σ 8 (10 * g + p) = σ 38 (10 * g + p)) ∧ σ 9 = σ 39 ∧ ∀ g, g < 20 → ∀ p q, p < cnt (σ 39 g) → q < cnt (σ 39 g) → carF (σ 38) g p = carF (σ 38) g q → p = q
theorem k_carAt {g p : Nat} (hB : IB σ) (hg : g < 20) (hp : p < 10) : (p < cnt (σ 39 g) → exC X 33 [.ref 7, .int (nI g), .int (nI p)] (WW σ t) = ans (nI (carF (σ 38) g p)) (WW σ t)) ∧ (¬ p < cnt (σ 39 g) → exC X 33 [.ref 7, .int (nI g), .int (nI p)] (WW σ t) = ans (-1) (WW σ t)) := by
  obtain ⟨hO, h8, h9, hD⟩ := hB
  have hl := okM_lt (hO g hg).1 p (by omega)
  rw [ent_33]
  constructor
  · intro hk
    have e8 := h8 g hg p hk
    have e1 := ((hO g hg).2 p hk).1
    rw [eq_true hk] at hl
    simp (disch := omega) only [s33_0, s33_1, s33_4, s33_5, s33_6, s33_9, s33_10, s33_11, s33_14, s33_15, s33_18, s33_19, s33_21, s33_22, s33_23, s33_24, s33_25, s33_28, s33_29, c10, c100, c6, eq_self, bnd_l, bnd_r, Option.toList_some, Option.toList_none, List.cons_append, List.nil_append, Nat.add_zero, Nat.zero_add, ↓reduceIte, nI_add, nI_mul, nI_subI, lt_t, lt_f, eq_f, lt_m1, m1_lt, eq_m1, m1_eq, h9, hl, e8]
    rw [e1]
  · intro hk
    rw [eq_false hk] at hl
    simp (disch := omega) only [s33_0, s33_1, s33_4, s33_5, s33_6, s33_9, s33_10, s33_11, s33_14, s33_15, s33_18, s33_19, s33_21, s33_22, s33_23, s33_24, s33_25, s33_28, s33_29, c10, c100, c6, eq_self, bnd_l, bnd_r, Option.toList_some, Option.toList_none, List.cons_append, List.nil_append, Nat.add_zero, Nat.zero_add, ↓reduceIte, nI_add, nI_mul, nI_subI, lt_t, lt_f, eq_f, lt_m1, m1_lt, eq_m1, m1_eq, h9, hl]
theorem plcF_none {o : Nat → Int32} {x : Int32} : ∀ n, (∀ k, k < n → ¬ o k = x) → plcF o x n = -1
  | 0, _ => rfl
  | n + 1, h => by
    unfold plcF
    rw [if_neg (h n (by omega)), plcF_none n fun k hk => h k (by omega)]
theorem plcF_at {o : Nat → Int32} {x : Int32} {a : Nat} (ha : o a = x) : ∀ n, a < n → (∀ k, k < n → o k = x → k = a) → plcF o x n = nI a
  | 0, h, _ => by omega
  | n + 1, h, hu => by
    unfold plcF
    by_cases h1 : o n = x
    · rw [if_pos h1, hu n (by omega) h1]
    · rw [if_neg h1]
      refine plcF_at ha n ?_ fun k hk => hu k (by omega)
      by_cases e : a = n
      · subst e; exact absurd ha h1
      · omega
theorem l_placeOf {g c : Nat} (hB : IB σ) (hg : g < 20) (hc : c < 10) {Q : Option rR} (hQ : ans (plcF (fun k => σ 38 (10 * g + k)) (nI c) (cnt (σ 39 g))) (WW σ t) = Q) : ∀ n j, j + n = 10 → (∀ k, k < j → k < cnt (σ 39 g) → ¬ carF (σ 38) g k = c) → exM X 34 2 [some (.ref 7), some (.int (nI g)), some (.int (nI c)), some (.int (nI j))] [] (WW σ t) 0 0 = Q := by
  have hle := okM_le (hB.1 g hg).1
  have hcar : ∀ k, k < cnt (σ 39 g) → (σ 38 (10 * g + k) = nI c ↔ carF (σ 38) g k = c) := fun k hk => by
    obtain ⟨e1, e2⟩ := (hB.1 g hg).2 k hk
    rw [e1]
    exact nI_eq (by omega) (by omega)
  intro n
  induction n with
  | zero =>
    intro j hj hf
    have e : j = 10 := by omega
    subst e
    rw [plcF_none _ fun k hk z => hf k (by omega) hk ((hcar k hk).mp z)] at hQ
    simp (disch := omega) only [s34_2, s34_3, s34_5, s34_8, s34_9, s34_10, s34_11, s34_14, s34_15, s34_18, s34_19, s34_20, s34_23, s34_26, s34_27, c10, c100, c6, eq_self, bnd_l, bnd_r, Option.toList_some, Option.toList_none, List.cons_append, List.nil_append, Nat.add_zero, Nat.zero_add, ↓reduceIte, nI_add, nI_mul, nI_subI, lt_t, lt_f, eq_f, lt_m1, m1_lt, eq_m1, m1_eq]
    exact hQ
  | succ n ih =>
    intro j hj hf
    rw [s34_2]
    have ic := k_carAt (X := X) (t := t) hB hg (by omega : j < 10)
    by_cases hk : j < cnt (σ 39 g)
    · have ic1 := ic.1 hk
      have e2 := ((hB.1 g hg).2 j hk).2
      by_cases he : carF (σ 38) g j = c
      · rw [plcF_at (o := fun k => σ 38 (10 * g + k)) (a := j) ((hcar j hk).mpr he) _ hk (fun k hk2 z => hB.2.2.2 g hg k j hk2 hk (by rw [he]; exact (hcar k hk2).mp z))] at hQ
        simp (disch := omega) only [s34_3, s34_5, s34_8, s34_9, s34_10, s34_11, s34_14, s34_15, s34_18, s34_19, s34_20, s34_23, s34_26, s34_27, c10, c100, c6, eq_self, bnd_l, bnd_r, Option.toList_some, Option.toList_none, List.cons_append, List.nil_append, Nat.add_zero, Nat.zero_add, ↓reduceIte, nI_add, nI_mul, nI_subI, lt_t, lt_f, eq_f, lt_m1, m1_lt, eq_m1, m1_eq, ic1, he]
        exact hQ
      · have i1 := ih (j + 1) (by omega) (fun k h1 h2 => by
          by_cases e : k = j
          · subst e; exact he
          · exact hf k (by omega) h2)
        simp (disch := omega) only [s34_3, s34_5, s34_8, s34_9, s34_10, s34_11, s34_14, s34_15, s34_18, s34_19, s34_20, s34_23, s34_26, s34_27, c10, c100, c6, eq_self, bnd_l, bnd_r, Option.toList_some, Option.toList_none, List.cons_append, List.nil_append, Nat.add_zero, Nat.zero_add, ↓reduceIte, nI_add, nI_mul, nI_subI, lt_t, lt_f, eq_f, lt_m1, m1_lt, eq_m1, m1_eq, ic1]
        exact i1
    · have ic1 := ic.2 hk
      have i1 := ih (j + 1) (by omega) (fun k h1 h2 => hf k (by omega) h2)
      simp (disch := omega) only [s34_3, s34_5, s34_8, s34_9, s34_10, s34_11, s34_14, s34_15, s34_18, s34_19, s34_20, s34_23, s34_26, s34_27, c10, c100, c6, eq_self, bnd_l, bnd_r, Option.toList_some, Option.toList_none, List.cons_append, List.nil_append, Nat.add_zero, Nat.zero_add, ↓reduceIte, nI_add, nI_mul, nI_subI, lt_t, lt_f, eq_f, lt_m1, m1_lt, eq_m1, m1_eq, ic1]
      exact i1
theorem k_placeOf {g c : Nat} (hB : IB σ) (hg : g < 20) (hc : c < 10) : exC X 34 [.ref 7, .int (nI g), .int (nI c)] (WW σ t) = ans (plcF (fun k => σ 38 (10 * g + k)) (nI c) (cnt (σ 39 g))) (WW σ t) := by
  rw [ent_34]
  have hL := l_placeOf (X := X) (t := t) hB hg hc rfl 10 0 (by omega) (fun k h => by omega)
  simp (disch := omega) only [s34_0, s34_1, c10, c100, c6, eq_self, bnd_l, bnd_r, Option.toList_some, Option.toList_none, List.cons_append, List.nil_append, Nat.add_zero, Nat.zero_add, ↓reduceIte, nI_add, nI_mul, nI_subI, lt_t, lt_f, eq_f, lt_m1, m1_lt, eq_m1, m1_eq]
  exact hL
theorem k_isOpen {g : Nat} (h9 : σ 9 = σ 39) (hg : g < 20) : (σ 39 g = -1 → exC X 29 [.ref 7, .int (nI g)] (WW σ t) = ans (nI 0) (WW σ t)) ∧ (¬ σ 39 g = -1 → exC X 29 [.ref 7, .int (nI g)] (WW σ t) = ans (nI 1) (WW σ t)) := by
  rw [ent_29]
  constructor
  · intro hk
    simp (disch := omega) only [s29_0, s29_1, s29_4, s29_5, s29_6, s29_7, s29_10, s29_11, s29_14, s29_15z0, s29_15z1, c10, c100, c6, eq_self, bnd_l, bnd_r, Option.toList_some, Option.toList_none, List.cons_append, List.nil_append, Nat.add_zero, Nat.zero_add, ↓reduceIte, nI_add, nI_mul, nI_subI, lt_t, lt_f, eq_f, lt_m1, m1_lt, eq_m1, m1_eq, h9, hk]
  · intro hk
    simp (disch := omega) only [s29_0, s29_1, s29_4, s29_5, s29_6, s29_7, s29_10, s29_11, s29_14, s29_15z0, s29_15z1, c10, c100, c6, eq_self, bnd_l, bnd_r, Option.toList_some, Option.toList_none, List.cons_append, List.nil_append, Nat.add_zero, Nat.zero_add, ↓reduceIte, nI_add, nI_mul, nI_subI, lt_t, lt_f, eq_f, lt_m1, m1_lt, eq_m1, m1_eq, h9, hk]
end CMP1
