/-! THE CLASS: cards -/
theorem add0 (x : Int32) : x + nI 0 = x := by rw [← nIz, Int32.add_zero]
section CMP2
variable {X : rX} {h : rH} {σ : Nat → Nat → Int32} {t : rH} {N : Nat}
theorem c_max {x : Int32} : exC X 125 [.int (nI 0), .int x] h = ans (if nI 0 < x then x else nI 0) h := by
  rw [ent_125]
  by_cases h1 : nI 0 < x
  · simp (disch := omega) only [s125_0, s125_1, s125_2, s125_5, s125_6, s125_9, s125_10, c10, c100, c6, eq_self, bnd_l, bnd_r, Option.toList_some, Option.toList_none, List.cons_append, List.nil_append, Nat.add_zero, Nat.zero_add, ↓reduceIte, nI_add, nI_mul, nI_subI, lt_t, lt_f, eq_f, lt_m1, m1_lt, eq_m1, m1_eq, h1]
  · simp (disch := omega) only [s125_0, s125_1, s125_2, s125_5, s125_6, s125_9, s125_10, c10, c100, c6, eq_self, bnd_l, bnd_r, Option.toList_some, Option.toList_none, List.cons_append, List.nil_append, Nat.add_zero, Nat.zero_add, ↓reduceIte, nI_add, nI_mul, nI_subI, lt_t, lt_f, eq_f, lt_m1, m1_lt, eq_m1, m1_eq, h1]
theorem k_stampAt {c i : Nat} (hA : IA σ N) (hi : i < N) (hc : c < 10) : exC X 1 [.ref 10, .int (nI c), .int (nI i)] (WW σ t) = ans (σ 11 (10 * i + c)) (WW σ t) := by
  have hN := hA.1
  have i1 := k_has (X := X) (t := t) hA hi
  rw [ent_1]
  simp (disch := omega) only [s1_0, s1_1, s1_4, s1_5, s1_8, s1_11, s1_12, s1_15, s1_16, s1_18, s1_19, s1_20, s1_21, s1_22, s1_25, s1_26, c10, c100, c6, eq_self, bnd_l, bnd_r, Option.toList_some, Option.toList_none, List.cons_append, List.nil_append, Nat.add_zero, Nat.zero_add, ↓reduceIte, nI_add, nI_mul, nI_subI, lt_t, lt_f, eq_f, lt_m1, m1_lt, eq_m1, m1_eq, i1]
theorem k_started {c : Nat} (hA : IA σ N) (hc : c < 10) (hz : N = 0 → σ 11 c = -1) : (σ 11 c = -1 → exC X 14 [.ref 10, .int (nI c)] (WW σ t) = ans (nI 0) (WW σ t)) ∧ (¬ σ 11 c = -1 → exC X 14 [.ref 10, .int (nI c)] (WW σ t) = ans (nI 1) (WW σ t)) := by
  have hN := hA.1
  by_cases h0 : N = 0
  · have i1 := k_hasNo (X := X) (t := t) (v := nI 0) hA (fun ⟨j, hj, _⟩ => by omega)
    have i2 : exC X 1 [.ref 10, .int (nI c), .int (nI 0)] (WW σ t) = ans (-1) (WW σ t) := by
      rw [ent_1]
      simp (disch := omega) only [s1_0, s1_1, s1_4, s1_5, s1_8, s1_11, s1_12, s1_15, s1_16, s1_18, s1_19, s1_20, s1_21, s1_22, s1_25, s1_26, c10, c100, c6, eq_self, bnd_l, bnd_r, Option.toList_some, Option.toList_none, List.cons_append, List.nil_append, Nat.add_zero, Nat.zero_add, ↓reduceIte, nI_add, nI_mul, nI_subI, lt_t, lt_f, eq_f, lt_m1, m1_lt, eq_m1, m1_eq, i1]
    rw [ent_14]
    constructor
    · intro _
      simp (disch := omega) only [s14_0, s14_1, s14_2, s14_3, s14_6, s14_7, s14_10, s14_11, s14_14, s14_15z0, s14_15z1, c10, c100, c6, eq_self, bnd_l, bnd_r, Option.toList_some, Option.toList_none, List.cons_append, List.nil_append, Nat.add_zero, Nat.zero_add, ↓reduceIte, nI_add, nI_mul, nI_subI, lt_t, lt_f, eq_f, lt_m1, m1_lt, eq_m1, m1_eq, i2]
    · intro hn
      exact absurd (hz h0) hn
  · have i1 := k_stampAt (X := X) (t := t) (i := 0) hA (by omega) hc
    simp only [Nat.mul_zero, Nat.zero_add] at i1
    rw [ent_14]
    constructor
    · intro hk
      simp (disch := omega) only [s14_0, s14_1, s14_2, s14_3, s14_6, s14_7, s14_10, s14_11, s14_14, s14_15z0, s14_15z1, c10, c100, c6, eq_self, bnd_l, bnd_r, Option.toList_some, Option.toList_none, List.cons_append, List.nil_append, Nat.add_zero, Nat.zero_add, ↓reduceIte, nI_add, nI_mul, nI_subI, lt_t, lt_f, eq_f, lt_m1, m1_lt, eq_m1, m1_eq, i1, hk]
    · intro hk
      simp (disch := omega) only [s14_0, s14_1, s14_2, s14_3, s14_6, s14_7, s14_10, s14_11, s14_14, s14_15z0, s14_15z1, c10, c100, c6, eq_self, bnd_l, bnd_r, Option.toList_some, Option.toList_none, List.cons_append, List.nil_append, Nat.add_zero, Nat.zero_add, ↓reduceIte, nI_add, nI_mul, nI_subI, lt_t, lt_f, eq_f, lt_m1, m1_lt, eq_m1, m1_eq, i1, hk]
/-- when a car is due by its card -/
abbrev dueC (σ : Nat → Nat → Int32) (c i : Nat) : Int32 := dueF (σ 36) (σ 37) (σ 38) (σ 39) (σ 11) (σ 12) c i
theorem k_dueAt {c i : Nat} (hA : IA σ N) (hB : IB σ) (hi : i < N) (hc : c < 10) : exC X 2 [.ref 10, .int (nI c), .int (nI i)] (WW σ t) = ans (dueC σ c i) (WW σ t) := by
  have hN := hA.1
  have i1 := k_kindOf (X := X) (t := t) hA hi
  have i2 := k_placeOf (X := X) (t := t) hB (by omega : i < 20) hc
  have i3 := k_minutesOf (X := X) (t := t) hA hi
  rw [ent_2]
  by_cases hk : σ 36 i = nI 0
  · by_cases hp : plcF (fun k => σ 38 (10 * i + k)) (nI c) (cnt (σ 39 i)) = -1
    · simp (disch := omega) only [s2_0, s2_1, s2_4, s2_5, s2_8, s2_11, s2_12, s2_15, s2_16, s2_17, s2_20, s2_21, s2_22, s2_23, s2_26, s2_27, s2_30, s2_31, s2_34, s2_35, s2_38, s2_39, s2_40, s2_41, s2_42, s2_43, s2_44, s2_45, s2_46, s2_49, s2_50, s2_53, s2_56, s2_57, s2_58, s2_59, s2_62, s2_63, s2_64, s2_65, s2_68, s2_69, s2_72, s2_75, s2_76, s2_77, s2_78, s2_81, s2_82, s2_84, s2_86, s2_87, s2_90, s2_91, s2_94, s2_95, s2_96, s2_99, s2_100, s2_102, s2_103, s2_104, s2_105, s2_106, s2_107, c10, c100, c6, eq_self, bnd_l, bnd_r, Option.toList_some, Option.toList_none, List.cons_append, List.nil_append, Nat.add_zero, Nat.zero_add, ↓reduceIte, nI_add, nI_mul, nI_subI, lt_t, lt_f, eq_f, lt_m1, m1_lt, eq_m1, m1_eq, i1, i2, i3, hk, hp, dueF]
    · simp (disch := omega) only [s2_0, s2_1, s2_4, s2_5, s2_8, s2_11, s2_12, s2_15, s2_16, s2_17, s2_20, s2_21, s2_22, s2_23, s2_26, s2_27, s2_30, s2_31, s2_34, s2_35, s2_38, s2_39, s2_40, s2_41, s2_42, s2_43, s2_44, s2_45, s2_46, s2_49, s2_50, s2_53, s2_56, s2_57, s2_58, s2_59, s2_62, s2_63, s2_64, s2_65, s2_68, s2_69, s2_72, s2_75, s2_76, s2_77, s2_78, s2_81, s2_82, s2_84, s2_86, s2_87, s2_90, s2_91, s2_94, s2_95, s2_96, s2_99, s2_100, s2_102, s2_103, s2_104, s2_105, s2_106, s2_107, c10, c100, c6, eq_self, bnd_l, bnd_r, Option.toList_some, Option.toList_none, List.cons_append, List.nil_append, Nat.add_zero, Nat.zero_add, ↓reduceIte, nI_add, nI_mul, nI_subI, lt_t, lt_f, eq_f, lt_m1, m1_lt, eq_m1, m1_eq, i1, i2, i3, hk, hp, dueF]
  · have h1 : 1 ≤ i := by
      by_cases e : i = 0
      · subst e; exact absurd (hA.2.2.2.1 (by omega)) hk
      · omega
    have i4 := k_ahead (X := X) (t := t) hA hi h1
    have hal : ahdF (σ 36) i < N := by unfold ahdF; split <;> omega
    have i5 := k_stampAt (X := X) (t := t) hA hal hc
    have i6 := k_behind (X := X) (t := t) hA hi h1
    by_cases hs : σ 11 (10 * ahdF (σ 36) i + c) = -1
    · simp (disch := omega) only [s2_0, s2_1, s2_4, s2_5, s2_8, s2_11, s2_12, s2_15, s2_16, s2_17, s2_20, s2_21, s2_22, s2_23, s2_26, s2_27, s2_30, s2_31, s2_34, s2_35, s2_38, s2_39, s2_40, s2_41, s2_42, s2_43, s2_44, s2_45, s2_46, s2_49, s2_50, s2_53, s2_56, s2_57, s2_58, s2_59, s2_62, s2_63, s2_64, s2_65, s2_68, s2_69, s2_72, s2_75, s2_76, s2_77, s2_78, s2_81, s2_82, s2_84, s2_86, s2_87, s2_90, s2_91, s2_94, s2_95, s2_96, s2_99, s2_100, s2_102, s2_103, s2_104, s2_105, s2_106, s2_107, c10, c100, c6, eq_self, bnd_l, bnd_r, Option.toList_some, Option.toList_none, List.cons_append, List.nil_append, Nat.add_zero, Nat.zero_add, ↓reduceIte, nI_add, nI_mul, nI_subI, lt_t, lt_f, eq_f, lt_m1, m1_lt, eq_m1, m1_eq, i1, i4, i5, hk, hs, dueF]
    · by_cases hb : σ 36 (i - 1) = nI 2
      · have i7 := i6.1 hb
        simp (disch := omega) only [s2_0, s2_1, s2_4, s2_5, s2_8, s2_11, s2_12, s2_15, s2_16, s2_17, s2_20, s2_21, s2_22, s2_23, s2_26, s2_27, s2_30, s2_31, s2_34, s2_35, s2_38, s2_39, s2_40, s2_41, s2_42, s2_43, s2_44, s2_45, s2_46, s2_49, s2_50, s2_53, s2_56, s2_57, s2_58, s2_59, s2_62, s2_63, s2_64, s2_65, s2_68, s2_69, s2_72, s2_75, s2_76, s2_77, s2_78, s2_81, s2_82, s2_84, s2_86, s2_87, s2_90, s2_91, s2_94, s2_95, s2_96, s2_99, s2_100, s2_102, s2_103, s2_104, s2_105, s2_106, s2_107, c10, c100, c6, eq_self, bnd_l, bnd_r, Option.toList_some, Option.toList_none, List.cons_append, List.nil_append, Nat.add_zero, Nat.zero_add, ↓reduceIte, nI_add, nI_mul, nI_subI, lt_t, lt_f, eq_f, lt_m1, m1_lt, eq_m1, m1_eq, i1, i3, i4, i5, i7, hk, hs, hb, dueF]
      · have i7 := i6.2 hb
        simp (disch := omega) only [s2_0, s2_1, s2_4, s2_5, s2_8, s2_11, s2_12, s2_15, s2_16, s2_17, s2_20, s2_21, s2_22, s2_23, s2_26, s2_27, s2_30, s2_31, s2_34, s2_35, s2_38, s2_39, s2_40, s2_41, s2_42, s2_43, s2_44, s2_45, s2_46, s2_49, s2_50, s2_53, s2_56, s2_57, s2_58, s2_59, s2_62, s2_63, s2_64, s2_65, s2_68, s2_69, s2_72, s2_75, s2_76, s2_77, s2_78, s2_81, s2_82, s2_84, s2_86, s2_87, s2_90, s2_91, s2_94, s2_95, s2_96, s2_99, s2_100, s2_102, s2_103, s2_104, s2_105, s2_106, s2_107, c10, c100, c6, eq_self, bnd_l, bnd_r, Option.toList_some, Option.toList_none, List.cons_append, List.nil_append, Nat.add_zero, Nat.zero_add, ↓reduceIte, nI_add, nI_mul, nI_subI, lt_t, lt_f, eq_f, lt_m1, m1_lt, eq_m1, m1_eq, i1, i3, i4, i5, i7, hk, hs, hb, dueF, add0]
theorem k_isOut {c : Nat} (hc : c < 10) : exC X 11 [.ref 10, .int (nI c)] (WW σ t) = ans (if nI 30 < σ 14 c then nI 1 else nI 0) (WW σ t) := by
  rw [ent_11]
  by_cases h1 : nI 30 < σ 14 c
  · simp (disch := omega) only [s11_0, s11_1, s11_4, s11_5, s11_6, s11_8, s11_11, s11_12, s11_15, s11_16z0, s11_16z1, c10, c100, c6, eq_self, bnd_l, bnd_r, Option.toList_some, Option.toList_none, List.cons_append, List.nil_append, Nat.add_zero, Nat.zero_add, ↓reduceIte, nI_add, nI_mul, nI_subI, lt_t, lt_f, eq_f, lt_m1, m1_lt, eq_m1, m1_eq, h1]
  · simp (disch := omega) only [s11_0, s11_1, s11_4, s11_5, s11_6, s11_8, s11_11, s11_12, s11_15, s11_16z0, s11_16z1, c10, c100, c6, eq_self, bnd_l, bnd_r, Option.toList_some, Option.toList_none, List.cons_append, List.nil_append, Nat.add_zero, Nat.zero_add, ↓reduceIte, nI_add, nI_mul, nI_subI, lt_t, lt_f, eq_f, lt_m1, m1_lt, eq_m1, m1_eq, h1]
/-- whether a car is running -/
def runP (σ : Nat → Nat → Int32) (c : Nat) : Prop := σ 15 c = nI 0 ∧ ¬ nI 30 < σ 14 c
theorem k_isRunning {c : Nat} (hc : c < 10) : (runP σ c → exC X 13 [.ref 10, .int (nI c)] (WW σ t) = ans (nI 1) (WW σ t)) ∧ (¬ runP σ c → exC X 13 [.ref 10, .int (nI c)] (WW σ t) = ans (nI 0) (WW σ t)) := by
  have i1 := k_isOut (X := X) (σ := σ) (t := t) hc
  rw [ent_13]
  constructor
  · rintro ⟨h1, h2⟩
    rw [if_neg h2] at i1
    simp (disch := omega) only [s13_0, s13_1, s13_4, s13_5, s13_6, s13_9, s13_10, s13_11, s13_14, s13_17, s13_18, s13_21, s13_22z0, s13_22z1, c10, c100, c6, eq_self, bnd_l, bnd_r, Option.toList_some, Option.toList_none, List.cons_append, List.nil_append, Nat.add_zero, Nat.zero_add, ↓reduceIte, nI_add, nI_mul, nI_subI, lt_t, lt_f, eq_f, lt_m1, m1_lt, eq_m1, m1_eq, h1, i1]
  · intro hn
    by_cases h1 : σ 15 c = nI 0
    · have h2 : nI 30 < σ 14 c := by
        by_cases h2 : nI 30 < σ 14 c
        · exact h2
        · exact absurd ⟨h1, h2⟩ hn
      rw [if_pos h2] at i1
      simp (disch := omega) only [s13_0, s13_1, s13_4, s13_5, s13_6, s13_9, s13_10, s13_11, s13_14, s13_17, s13_18, s13_21, s13_22z0, s13_22z1, c10, c100, c6, eq_self, bnd_l, bnd_r, Option.toList_some, Option.toList_none, List.cons_append, List.nil_append, Nat.add_zero, Nat.zero_add, ↓reduceIte, nI_add, nI_mul, nI_subI, lt_t, lt_f, eq_f, lt_m1, m1_lt, eq_m1, m1_eq, h1, i1]
    · simp (disch := omega) only [s13_0, s13_1, s13_4, s13_5, s13_6, s13_9, s13_10, s13_11, s13_14, s13_17, s13_18, s13_21, s13_22z0, s13_22z1, c10, c100, c6, eq_self, bnd_l, bnd_r, Option.toList_some, Option.toList_none, List.cons_append, List.nil_append, Nat.add_zero, Nat.zero_add, ↓reduceIte, nI_add, nI_mul, nI_subI, lt_t, lt_f, eq_f, lt_m1, m1_lt, eq_m1, m1_eq, h1]
theorem k_takesStamp {c i : Nat} (hA : IA σ N) (hB : IB σ) (hi : i < N) (hc : c < 10) : (runP σ c ∧ σ 11 (10 * i + c) = -1 ∧ ¬ dueC σ c i = -1 → exC X 3 [.ref 10, .int (nI c), .int (nI i)] (WW σ t) = ans (nI 1) (WW σ t)) ∧ (¬ (runP σ c ∧ σ 11 (10 * i + c) = -1 ∧ ¬ dueC σ c i = -1) → exC X 3 [.ref 10, .int (nI c), .int (nI i)] (WW σ t) = ans (nI 0) (WW σ t)) := by
  have i1 := k_isRunning (X := X) (σ := σ) (t := t) hc
  have i2 := k_stampAt (X := X) (t := t) hA hi hc
  have i3 := k_dueAt (X := X) (t := t) hA hB hi hc
  rw [ent_3]
  constructor
  · rintro ⟨h1, h2, h3⟩
    have i4 := i1.1 h1
    simp (disch := omega) only [s3_0, s3_1, s3_2, s3_5, s3_8, s3_9, s3_10, s3_11, s3_14, s3_15, s3_18, s3_19, s3_20, s3_21, s3_24, s3_25, s3_28, s3_29, s3_32, s3_33z0, s3_33z1, c10, c100, c6, eq_self, bnd_l, bnd_r, Option.toList_some, Option.toList_none, List.cons_append, List.nil_append, Nat.add_zero, Nat.zero_add, ↓reduceIte, nI_add, nI_mul, nI_subI, lt_t, lt_f, eq_f, lt_m1, m1_lt, eq_m1, m1_eq, i4, i2, i3, h2, h3]
  · intro hn
    by_cases h1 : runP σ c
    · have i4 := i1.1 h1
      by_cases h2 : σ 11 (10 * i + c) = -1
      · by_cases h3 : dueC σ c i = -1
        · simp (disch := omega) only [s3_0, s3_1, s3_2, s3_5, s3_8, s3_9, s3_10, s3_11, s3_14, s3_15, s3_18, s3_19, s3_20, s3_21, s3_24, s3_25, s3_28, s3_29, s3_32, s3_33z0, s3_33z1, c10, c100, c6, eq_self, bnd_l, bnd_r, Option.toList_some, Option.toList_none, List.cons_append, List.nil_append, Nat.add_zero, Nat.zero_add, ↓reduceIte, nI_add, nI_mul, nI_subI, lt_t, lt_f, eq_f, lt_m1, m1_lt, eq_m1, m1_eq, i4, i2, i3, h2, h3]
        · exact absurd ⟨h1, h2, h3⟩ hn
      · simp (disch := omega) only [s3_0, s3_1, s3_2, s3_5, s3_8, s3_9, s3_10, s3_11, s3_14, s3_15, s3_18, s3_19, s3_20, s3_21, s3_24, s3_25, s3_28, s3_29, s3_32, s3_33z0, s3_33z1, c10, c100, c6, eq_self, bnd_l, bnd_r, Option.toList_some, Option.toList_none, List.cons_append, List.nil_append, Nat.add_zero, Nat.zero_add, ↓reduceIte, nI_add, nI_mul, nI_subI, lt_t, lt_f, eq_f, lt_m1, m1_lt, eq_m1, m1_eq, i4, i2, h2]
    · have i4 := i1.2 h1
      simp (disch := omega) only [s3_0, s3_1, s3_2, s3_5, s3_8, s3_9, s3_10, s3_11, s3_14, s3_15, s3_18, s3_19, s3_20, s3_21, s3_24, s3_25, s3_28, s3_29, s3_32, s3_33z0, s3_33z1, c10, c100, c6, eq_self, bnd_l, bnd_r, Option.toList_some, Option.toList_none, List.cons_append, List.nil_append, Nat.add_zero, Nat.zero_add, ↓reduceIte, nI_add, nI_mul, nI_subI, lt_t, lt_f, eq_f, lt_m1, m1_lt, eq_m1, m1_eq, i4]
theorem k_penaltyAt {c i : Nat} (hA : IA σ N) (hB : IB σ) (hi : i < N) (hc : c < 10) : exC X 5 [.ref 10, .int (nI c), .int (nI i)] (WW σ t) = ans (byF (σ 11 (10 * i + c) - dueC σ c i)) (WW σ t) := by
  have i2 := k_stampAt (X := X) (t := t) hA hi hc
  have i3 := k_dueAt (X := X) (t := t) hA hB hi hc
  rw [ent_5]
  unfold byF
  by_cases h1 : nI 0 < σ 11 (10 * i + c) - dueC σ c i
  · simp (disch := omega) only [s5_0, s5_1, s5_2, s5_3, s5_6, s5_7, s5_8, s5_9, s5_12, s5_13, s5_14, s5_15, s5_18, s5_20, s5_21, s5_22, s5_25, s5_28, s5_29, s5_30, c10, c100, c6, eq_self, bnd_l, bnd_r, Option.toList_some, Option.toList_none, List.cons_append, List.nil_append, Nat.add_zero, Nat.zero_add, ↓reduceIte, nI_add, nI_mul, nI_subI, lt_t, lt_f, eq_f, lt_m1, m1_lt, eq_m1, m1_eq, i2, i3, h1]
  · simp (disch := omega) only [s5_0, s5_1, s5_2, s5_3, s5_6, s5_7, s5_8, s5_9, s5_12, s5_13, s5_14, s5_15, s5_18, s5_20, s5_21, s5_22, s5_25, s5_28, s5_29, s5_30, c10, c100, c6, eq_self, bnd_l, bnd_r, Option.toList_some, Option.toList_none, List.cons_append, List.nil_append, Nat.add_zero, Nat.zero_add, ↓reduceIte, nI_add, nI_mul, nI_subI, lt_t, lt_f, eq_f, lt_m1, m1_lt, eq_m1, m1_eq, i2, i3, h1]
theorem ahdF_lt {kd : Nat → Int32} {i : Nat} (h1 : 1 ≤ i) : ahdF kd i < i := by
  unfold ahdF
  split <;> omega
/-- a stamp doesn't change when the car is due there -/
theorem dueF_upd {kd mi od mn sp dl : Nat → Int32} {c i : Nat} {x : Int32} (hc : c < 10) (h0 : kd 0 = nI 0) : dueF kd mi od mn (upd sp (10 * i + c) x) dl c i = dueF kd mi od mn sp dl c i := by
  unfold dueF
  by_cases hk : kd i = nI 0
  · rw [if_pos hk, if_pos hk]
  · rw [if_neg hk, if_neg hk]
    have h1 : 1 ≤ i := by
      by_cases e : i = 0
      · subst e; exact absurd h0 hk
      · omega
    have := ahdF_lt (kd := kd) h1
    rw [upd_ne (by omega)]
/-- what a stamp makes of the class -/
def stpC (σ : Nat → Nat → Int32) (c i m : Nat) (off : Int32) : Nat → Nat → Int32 := u2 (u2 (u2 σ 11 (10 * i + c) (nI m)) 13 c (σ 13 c + byF off)) 14 c (σ 14 c + (if nI 0 < off then off else nI 0))
theorem k_put {c i m : Nat} (hA : IA σ N) (hB : IB σ) (hi : i < N) (hc : c < 10) : exC X 4 [.ref 10, .int (nI c), .int (nI i), .int (nI m)] (WW σ t) = ans (byF (nI m - dueC σ c i)) (WW (stpC σ c i m (nI m - dueC σ c i)) t) := by
  have hN := hA.1
  have e1 : ∀ τ : Nat → Nat → Int32, τ 36 = σ 36 → τ 37 = σ 37 → τ 38 = σ 38 → τ 39 = σ 39 → τ 11 = upd (σ 11) (10 * i + c) (nI m) → τ 12 = σ 12 → dueC τ c i = dueC σ c i := fun τ a1 a2 a3 a4 a5 a6 => by
    unfold dueC
    rw [a1, a2, a3, a4, a5, a6]
    exact dueF_upd hc (hA.2.2.2.1 (by omega))
  have i1 : exC X 5 [.ref 10, .int (nI c), .int (nI i)] (WW (u2 σ 11 (10 * i + c) (nI m)) t) = ans (byF (nI m - dueC σ c i)) (WW (u2 σ 11 (10 * i + c) (nI m)) t) := by
    have := k_penaltyAt (X := X) (σ := u2 σ 11 (10 * i + c) (nI m)) (t := t) (N := N) hA hB hi hc
    rw [e1 (u2 σ 11 (10 * i + c) (nI m)) rfl rfl rfl rfl rfl rfl, u2_eq, upd_eq] at this
    exact this
  have i2 : exC X 2 [.ref 10, .int (nI c), .int (nI i)] (WW (u2 (u2 σ 11 (10 * i + c) (nI m)) 13 c (σ 13 c + byF (nI m - dueC σ c i))) t) = ans (dueC σ c i) (WW (u2 (u2 σ 11 (10 * i + c) (nI m)) 13 c (σ 13 c + byF (nI m - dueC σ c i))) t) := by
    have := k_dueAt (X := X) (σ := u2 (u2 σ 11 (10 * i + c) (nI m)) 13 c (σ 13 c + byF (nI m - dueC σ c i))) (t := t) (N := N) hA hB hi hc
    rw [e1 (u2 (u2 σ 11 (10 * i + c) (nI m)) 13 c (σ 13 c + byF (nI m - dueC σ c i))) rfl rfl rfl rfl rfl rfl] at this
    exact this
  rw [ent_4]
  unfold stpC
  generalize dueC σ c i = d at *
  simp (disch := omega) only [s4_0, s4_1, s4_4, s4_5, s4_7, s4_8, s4_9, s4_10, s4_11, s4_12, s4_13, s4_14, s4_15, s4_18, s4_20, s4_21, s4_24, s4_25, s4_26, s4_27, s4_29, s4_30, s4_31, s4_32, s4_35, s4_36, s4_37, s4_38, s4_39, s4_40, s4_41, s4_42, s4_43, s4_46, s4_47, s4_50, s4_51, s4_52, s4_54, c10, c100, c6, eq_self, bnd_l, bnd_r, Option.toList_some, Option.toList_none, List.cons_append, List.nil_append, Nat.add_zero, Nat.zero_add, ↓reduceIte, nI_add, nI_mul, nI_subI, lt_t, lt_f, eq_f, lt_m1, m1_lt, eq_m1, m1_eq, i1, i2, c_max, u2_ne]
/-- the penalties from the card, of the first j items -/
def pfF (kd mi od mn sp dl : Nat → Int32) (c : Nat) : Nat → Int32
  | 0 => nI 0
  | j + 1 => if sp (10 * j + c) = -1 then pfF kd mi od mn sp dl c j else pfF kd mi od mn sp dl c j + byF (sp (10 * j + c) - dueF kd mi od mn sp dl c j)
theorem l_fromCard {c : Nat} (hA : IA σ N) (hB : IB σ) (hc : c < 10) {Q : Option rR} (hQ : ans (pfF (σ 36) (σ 37) (σ 38) (σ 39) (σ 11) (σ 12) c N) (WW σ t) = Q) : ∀ n j, j + n = N → exM X 6 4 [some (.ref 10), some (.int (nI c)), some (.int (pfF (σ 36) (σ 37) (σ 38) (σ 39) (σ 11) (σ 12) c j)), some (.int (nI j))] [] (WW σ t) 0 0 = Q := by
  have hN := hA.1
  have i0 := k_size (X := X) (t := t) hA
  intro n
  induction n with
  | zero =>
    intro j hj
    have e : j = N := by omega
    subst e
    simp (disch := omega) only [s6_4, s6_5, s6_6, s6_9, s6_12, s6_15, s6_16, s6_17, s6_18, s6_21, s6_22, s6_25, s6_26, s6_27, s6_28, s6_29, s6_32, s6_33, s6_34, s6_37, s6_40, s6_41, c10, c100, c6, eq_self, bnd_l, bnd_r, Option.toList_some, Option.toList_none, List.cons_append, List.nil_append, Nat.add_zero, Nat.zero_add, ↓reduceIte, nI_add, nI_mul, nI_subI, lt_t, lt_f, eq_f, lt_m1, m1_lt, eq_m1, m1_eq, i0]
    exact hQ
  | succ n ih =>
    intro j hj
    rw [s6_4]
    have i1 := ih (j + 1) (by omega)
    have i2 := k_stampAt (X := X) (t := t) hA (by omega : j < N) hc
    have i3 := k_penaltyAt (X := X) (t := t) hA hB (by omega : j < N) hc
    by_cases h1 : σ 11 (10 * j + c) = -1
    · rw [pfF, if_pos h1] at i1
      simp (disch := omega) only [s6_5, s6_6, s6_9, s6_12, s6_15, s6_16, s6_17, s6_18, s6_21, s6_22, s6_25, s6_26, s6_27, s6_28, s6_29, s6_32, s6_33, s6_34, s6_37, c10, c100, c6, eq_self, bnd_l, bnd_r, Option.toList_some, Option.toList_none, List.cons_append, List.nil_append, Nat.add_zero, Nat.zero_add, ↓reduceIte, nI_add, nI_mul, nI_subI, lt_t, lt_f, eq_f, lt_m1, m1_lt, eq_m1, m1_eq, i0, i2, h1]
      exact i1
    · rw [pfF, if_neg h1] at i1
      simp (disch := omega) only [s6_5, s6_6, s6_9, s6_12, s6_15, s6_16, s6_17, s6_18, s6_21, s6_22, s6_25, s6_26, s6_27, s6_28, s6_29, s6_32, s6_33, s6_34, s6_37, c10, c100, c6, eq_self, bnd_l, bnd_r, Option.toList_some, Option.toList_none, List.cons_append, List.nil_append, Nat.add_zero, Nat.zero_add, ↓reduceIte, nI_add, nI_mul, nI_subI, lt_t, lt_f, eq_f, lt_m1, m1_lt, eq_m1, m1_eq, i0, i2, i3, h1]
      exact i1
theorem k_fromCard {c : Nat} (hA : IA σ N) (hB : IB σ) (hc : c < 10) : exC X 6 [.ref 10, .int (nI c)] (WW σ t) = ans (pfF (σ 36) (σ 37) (σ 38) (σ 39) (σ 11) (σ 12) c N) (WW σ t) := by
  rw [ent_6]
  have hL := l_fromCard (X := X) (t := t) hA hB hc rfl N 0 (by omega)
  rw [pfF] at hL
  simp (disch := omega) only [s6_0, s6_1, s6_2, s6_3, c10, c100, c6, eq_self, bnd_l, bnd_r, Option.toList_some, Option.toList_none, List.cons_append, List.nil_append, Nat.add_zero, Nat.zero_add, ↓reduceIte, nI_add, nI_mul, nI_subI, lt_t, lt_f, eq_f, lt_m1, m1_lt, eq_m1, m1_eq]
  exact hL
theorem l_give2 {i g a b : Value} {gg n7 : Nat} {o7 : Option Value} (hB : IB σ) (hg : gg < 20) (e : g = .int (nI gg)) {Q : Option rR} (hQ : ans (nI n7) (WW σ t) = Q) : ∀ n p, cnt (σ 39 gg) ≤ p → p + n = 10 → ∀ o7, exM X 7 6 [some (.ref 10), some i, some g, some a, some b, some (.int (nI n7)), some (.int (nI p)), o7] [] (WW σ t) 0 0 = Q := by
  subst e
  intro n
  induction n with
  | zero =>
    intro p hp hj o7
    have e : p = 10 := by omega
    subst e
    simp (disch := omega) only [s7_6, s7_8, s7_10, s7_13, s7_14, s7_17, s7_18, s7_20, s7_23, s7_25, s7_27, s7_28, s7_31, s7_32, s7_34, s7_35, s7_38, s7_39, s7_42, s7_43, s7_46, s7_47, s7_49, s7_50, s7_52, s7_53, s7_54, s7_55, s7_57, s7_58, s7_59, s7_62, s7_65, s7_68, s7_70, c10, c100, c6, eq_self, bnd_l, bnd_r, Option.toList_some, Option.toList_none, List.cons_append, List.nil_append, Nat.add_zero, Nat.zero_add, ↓reduceIte, nI_add, nI_mul, nI_subI, lt_t, lt_f, eq_f, lt_m1, m1_lt, eq_m1, m1_eq]
    exact hQ
  | succ n ih =>
    intro p hp hj o7
    rw [s7_6]
    have i1 := ih (p + 1) (by omega) (by omega)
    have ic := (k_carAt (X := X) (t := t) hB hg (by omega : p < 10)).2 (by omega)
    simp (disch := omega) only [s7_8, s7_10, s7_13, s7_14, s7_17, s7_18, s7_20, s7_23, s7_25, s7_27, s7_28, s7_31, s7_32, s7_34, s7_35, s7_38, s7_39, s7_42, s7_43, s7_46, s7_47, s7_49, s7_50, s7_52, s7_53, s7_54, s7_55, s7_57, s7_58, s7_59, s7_62, s7_65, c10, c100, c6, eq_self, bnd_l, bnd_r, Option.toList_some, Option.toList_none, List.cons_append, List.nil_append, Nat.add_zero, Nat.zero_add, ↓reduceIte, nI_add, nI_mul, nI_subI, lt_t, lt_f, eq_f, lt_m1, m1_lt, eq_m1, m1_eq, ic]
    exact i1 _
theorem l_give1 {i a g : Nat} {b : Int32} (hA : IA σ N) (hB : IB σ) (hi : i < N) (hg : g < 20) {Q : Option rR}
    (hQ : ans (nI (dnF (σ 11) (σ 38) i g a (cnt (σ 39 g) - a))) (WW (sA σ 12 (dlF (σ 11) (σ 38) (σ 12) b i g a (cnt (σ 39 g) - a))) t) = Q) :
    ∀ n j, a + j + n = cnt (σ 39 g) → ∀ o7, exM X 7 6 [some (.ref 10), some (.int (nI i)), some (.int (nI g)), some (.int (nI a)), some (.int b), some (.int (nI (dnF (σ 11) (σ 38) i g a j))), some (.int (nI (a + j))), o7] [] (WW (sA σ 12 (dlF (σ 11) (σ 38) (σ 12) b i g a j)) t) 0 0 = Q := by
  have hN := hA.1
  have hO := hB.1 g hg
  have hle := okM_le hO.1
  intro n
  induction n with
  | zero =>
    intro j hj o7
    have e : j = cnt (σ 39 g) - a := by omega
    subst e
    exact l_give2 (σ := sA σ 12 (dlF (σ 11) (σ 38) (σ 12) b i g a (cnt (σ 39 g) - a))) (o7 := none) hB hg rfl hQ (10 - (a + (cnt (σ 39 g) - a))) _ (show cnt (σ 39 g) ≤ _ by omega) (by omega) o7
  | succ n ih =>
    intro j hj o7
    rw [s7_6]
    have i1 := ih (j + 1) (by omega)
    have e2 := (hO.2 (a + j) (by omega)).2
    have ic : exC X 33 [.ref 7, .int (nI g), .int (nI (a + j))] (WW (sA σ 12 (dlF (σ 11) (σ 38) (σ 12) b i g a j)) t) = ans (nI (carF (σ 38) g (a + j))) (WW (sA σ 12 (dlF (σ 11) (σ 38) (σ 12) b i g a j)) t) := (k_carAt (σ := sA σ 12 (dlF (σ 11) (σ 38) (σ 12) b i g a j)) hB hg (by omega : a + j < 10)).1 (show a + j < cnt (σ 39 g) by omega)
    have is : exC X 1 [.ref 10, .int (nI (carF (σ 38) g (a + j))), .int (nI i)] (WW (sA σ 12 (dlF (σ 11) (σ 38) (σ 12) b i g a j)) t) = ans (σ 11 (10 * i + carF (σ 38) g (a + j))) (WW (sA σ 12 (dlF (σ 11) (σ 38) (σ 12) b i g a j)) t) := k_stampAt (σ := sA σ 12 (dlF (σ 11) (σ 38) (σ 12) b i g a j)) (N := N) hA hi e2
    have hdn := @dnF_le (σ 11) (σ 38) i g a j
    by_cases hs : σ 11 (10 * i + carF (σ 38) g (a + j)) = -1
    · rw [dnF, dlF, if_pos hs, if_pos hs] at i1
      generalize dlF (σ 11) (σ 38) (σ 12) b i g a j = f at *
      simp (disch := omega) only [s7_8, s7_10, s7_13, s7_14, s7_17, s7_18, s7_20, s7_23, s7_25, s7_27, s7_28, s7_31, s7_32, s7_34, s7_35, s7_38, s7_39, s7_42, s7_43, s7_46, s7_47, s7_49, s7_50, s7_52, s7_53, s7_54, s7_55, s7_57, s7_58, s7_59, s7_62, s7_65, c10, c100, c6, eq_self, bnd_l, bnd_r, Option.toList_some, Option.toList_none, List.cons_append, List.nil_append, Nat.add_zero, Nat.zero_add, ↓reduceIte, nI_add, nI_mul, nI_subI, lt_t, lt_f, eq_f, lt_m1, m1_lt, eq_m1, m1_eq, ic, is, hs, sA_eq, u2_sA]
      exact i1 _
    · rw [dnF, dlF, if_neg hs, if_neg hs] at i1
      generalize dlF (σ 11) (σ 38) (σ 12) b i g a j = f at *
      simp (disch := omega) only [s7_8, s7_10, s7_13, s7_14, s7_17, s7_18, s7_20, s7_23, s7_25, s7_27, s7_28, s7_31, s7_32, s7_34, s7_35, s7_38, s7_39, s7_42, s7_43, s7_46, s7_47, s7_49, s7_50, s7_52, s7_53, s7_54, s7_55, s7_57, s7_58, s7_59, s7_62, s7_65, c10, c100, c6, eq_self, bnd_l, bnd_r, Option.toList_some, Option.toList_none, List.cons_append, List.nil_append, Nat.add_zero, Nat.zero_add, ↓reduceIte, nI_add, nI_mul, nI_subI, lt_t, lt_f, eq_f, lt_m1, m1_lt, eq_m1, m1_eq, ic, is, hs]
      exact i1 _
theorem k_giveDelay {i a g : Nat} {b : Int32} (hA : IA σ N) (hB : IB σ) (hi : i < N) (hg : g < 20) (ha : a ≤ cnt (σ 39 g)) : exC X 7 [.ref 10, .int (nI i), .int (nI g), .int (nI a), .int b] (WW σ t) = ans (nI (dnF (σ 11) (σ 38) i g a (cnt (σ 39 g) - a))) (WW (sA σ 12 (dlF (σ 11) (σ 38) (σ 12) b i g a (cnt (σ 39 g) - a))) t) := by
  rw [ent_7]
  have hL := l_give1 (X := X) (t := t) (b := b) (a := a) hA hB hi hg rfl (cnt (σ 39 g) - a) 0 (show a + 0 + (cnt (σ 39 g) - a) = cnt (σ 39 g) by omega) none
  rw [dlF, sA_self, dnF, Nat.add_zero] at hL
  simp (disch := omega) only [s7_0, s7_1, s7_3, s7_4, c10, c100, c6, eq_self, bnd_l, bnd_r, Option.toList_some, Option.toList_none, List.cons_append, List.nil_append, Nat.add_zero, Nat.zero_add, ↓reduceIte, nI_add, nI_mul, nI_subI, lt_t, lt_f, eq_f, lt_m1, m1_lt, eq_m1, m1_eq]
  exact hL
theorem k_startTenths {c i : Nat} (hA : IA σ N) (hi : i < N) (h1 : 1 ≤ i) (hc : c < 10) (hk : ¬ σ 36 (i - 1) = nI 2) (hs : ¬ σ 11 (10 * (i - 1) + c) = -1) : exC X 8 [.ref 10, .int (nI c), .int (nI i)] (WW σ t) = ans (startF (σ 11) c i) (WW σ t) := by
  have i1 := k_ahead (X := X) (t := t) hA hi h1
  rw [show ahdF (σ 36) i = i - 1 from if_neg hk] at i1
  have i2 := k_stampAt (X := X) (t := t) hA (by omega : i - 1 < N) hc
  rw [ent_8]
  simp (disch := omega) only [s8_0, s8_3, s8_4, s8_5, s8_6, s8_9, s8_10, s8_13, s8_16, s8_17, s8_18, s8_19, c10, c100, c6, eq_self, bnd_l, bnd_r, Option.toList_some, Option.toList_none, List.cons_append, List.nil_append, Nat.add_zero, Nat.zero_add, ↓reduceIte, nI_add, nI_mul, nI_subI, lt_t, lt_f, eq_f, lt_m1, m1_lt, eq_m1, m1_eq, i1, i2, startF, hs]
theorem k_penOf {c : Nat} (hc : c < 10) : exC X 9 [.ref 10, .int (nI c)] (WW σ t) = ans (σ 13 c) (WW σ t) := by
  rw [ent_9]
  simp (disch := omega) only [s9_0, s9_1, s9_4, s9_5, s9_6, c10, c100, c6, eq_self, bnd_l, bnd_r, Option.toList_some, Option.toList_none, List.cons_append, List.nil_append, Nat.add_zero, Nat.zero_add, ↓reduceIte, nI_add, nI_mul, nI_subI, lt_t, lt_f, eq_f, lt_m1, m1_lt, eq_m1, m1_eq]
theorem k_lateOf {c : Nat} (hc : c < 10) : exC X 10 [.ref 10, .int (nI c)] (WW σ t) = ans (σ 14 c) (WW σ t) := by
  rw [ent_10]
  simp (disch := omega) only [s10_0, s10_1, s10_4, s10_5, s10_6, c10, c100, c6, eq_self, bnd_l, bnd_r, Option.toList_some, Option.toList_none, List.cons_append, List.nil_append, Nat.add_zero, Nat.zero_add, ↓reduceIte, nI_add, nI_mul, nI_subI, lt_t, lt_f, eq_f, lt_m1, m1_lt, eq_m1, m1_eq]
theorem k_isRetired {c : Nat} (hc : c < 10) (hb : σ 15 c = nI 0 ∨ σ 15 c = nI 1) : exC X 12 [.ref 10, .int (nI c)] (WW σ t) = ans (σ 15 c) (WW σ t) := by
  rw [ent_12]
  rcases hb with hb | hb
  · simp (disch := omega) only [s12_0, s12_1, s12_4, s12_5, s12_6z0, s12_6z1, c10, c100, c6, eq_self, bnd_l, bnd_r, Option.toList_some, Option.toList_none, List.cons_append, List.nil_append, Nat.add_zero, Nat.zero_add, ↓reduceIte, nI_add, nI_mul, nI_subI, lt_t, lt_f, eq_f, lt_m1, m1_lt, eq_m1, m1_eq, hb]
  · simp (disch := omega) only [s12_0, s12_1, s12_4, s12_5, s12_6z0, s12_6z1, c10, c100, c6, eq_self, bnd_l, bnd_r, Option.toList_some, Option.toList_none, List.cons_append, List.nil_append, Nat.add_zero, Nat.zero_add, ↓reduceIte, nI_add, nI_mul, nI_subI, lt_t, lt_f, eq_f, lt_m1, m1_lt, eq_m1, m1_eq, hb]
theorem k_withdraw {c : Nat} {z : Int32} (hc : c < 10) (hz : z = nI 0 ∨ z = nI 1) : exC X 15 [.ref 10, .int (nI c), .int z] (WW σ t) = ansV (WW (u2 (u2 σ 15 c (nI 1)) 16 c z) t) := by
  rw [ent_15]
  rcases hz with rfl | rfl
  · simp (disch := omega) only [s15_0, s15_1, s15_4, s15_5, s15_6 nar0, s15_6 nar1, s15_7, s15_8, s15_11, s15_12, s15_13 nar0, s15_13 nar1, s15_14, c10, c100, c6, eq_self, bnd_l, bnd_r, Option.toList_some, Option.toList_none, List.cons_append, List.nil_append, Nat.add_zero, Nat.zero_add, ↓reduceIte, nI_add, nI_mul, nI_subI, lt_t, lt_f, eq_f, lt_m1, m1_lt, eq_m1, m1_eq]
  · simp (disch := omega) only [s15_0, s15_1, s15_4, s15_5, s15_6 nar0, s15_6 nar1, s15_7, s15_8, s15_11, s15_12, s15_13 nar0, s15_13 nar1, s15_14, c10, c100, c6, eq_self, bnd_l, bnd_r, Option.toList_some, Option.toList_none, List.cons_append, List.nil_append, Nat.add_zero, Nat.zero_add, ↓reduceIte, nI_add, nI_mul, nI_subI, lt_t, lt_f, eq_f, lt_m1, m1_lt, eq_m1, m1_eq]
def crtP (σ : Nat → Nat → Int32) (c : Nat) : Prop := ¬ σ 15 c = nI 0 ∧ ¬ σ 16 c = nI 0 ∧ ¬ nI 30 < σ 14 c ∧ ¬ σ 11 c = -1
theorem k_canReturn {c : Nat} (hA : IA σ N) (hc : c < 10) (hz : N = 0 → σ 11 c = -1) : (crtP σ c → exC X 16 [.ref 10, .int (nI c)] (WW σ t) = ans (nI 1) (WW σ t)) ∧ (¬ crtP σ c → exC X 16 [.ref 10, .int (nI c)] (WW σ t) = ans (nI 0) (WW σ t)) := by
  have i1 := k_isOut (X := X) (σ := σ) (t := t) hc
  have i2 := k_started (X := X) (t := t) hA hc hz
  rw [ent_16]
  constructor
  · rintro ⟨h1, h2, h3, h4⟩
    rw [if_neg h3] at i1
    have i3 := i2.2 h4
    simp (disch := omega) only [s16_0, s16_1, s16_4, s16_5, s16_6, s16_9, s16_10, s16_13, s16_14, s16_15, s16_18, s16_19, s16_20, s16_23, s16_26, s16_27, s16_28, s16_31, s16_34, s16_35, s16_38, s16_39z0, s16_39z1, c10, c100, c6, eq_self, bnd_l, bnd_r, Option.toList_some, Option.toList_none, List.cons_append, List.nil_append, Nat.add_zero, Nat.zero_add, ↓reduceIte, nI_add, nI_mul, nI_subI, lt_t, lt_f, eq_f, lt_m1, m1_lt, eq_m1, m1_eq, h1, h2, i1, i3]
  · intro hn
    by_cases h1 : σ 15 c = nI 0
    · simp (disch := omega) only [s16_0, s16_1, s16_4, s16_5, s16_6, s16_9, s16_10, s16_13, s16_14, s16_15, s16_18, s16_19, s16_20, s16_23, s16_26, s16_27, s16_28, s16_31, s16_34, s16_35, s16_38, s16_39z0, s16_39z1, c10, c100, c6, eq_self, bnd_l, bnd_r, Option.toList_some, Option.toList_none, List.cons_append, List.nil_append, Nat.add_zero, Nat.zero_add, ↓reduceIte, nI_add, nI_mul, nI_subI, lt_t, lt_f, eq_f, lt_m1, m1_lt, eq_m1, m1_eq, h1]
    · by_cases h2 : σ 16 c = nI 0
      · simp (disch := omega) only [s16_0, s16_1, s16_4, s16_5, s16_6, s16_9, s16_10, s16_13, s16_14, s16_15, s16_18, s16_19, s16_20, s16_23, s16_26, s16_27, s16_28, s16_31, s16_34, s16_35, s16_38, s16_39z0, s16_39z1, c10, c100, c6, eq_self, bnd_l, bnd_r, Option.toList_some, Option.toList_none, List.cons_append, List.nil_append, Nat.add_zero, Nat.zero_add, ↓reduceIte, nI_add, nI_mul, nI_subI, lt_t, lt_f, eq_f, lt_m1, m1_lt, eq_m1, m1_eq, h1, h2]
      · by_cases h3 : nI 30 < σ 14 c
        · rw [if_pos h3] at i1
          simp (disch := omega) only [s16_0, s16_1, s16_4, s16_5, s16_6, s16_9, s16_10, s16_13, s16_14, s16_15, s16_18, s16_19, s16_20, s16_23, s16_26, s16_27, s16_28, s16_31, s16_34, s16_35, s16_38, s16_39z0, s16_39z1, c10, c100, c6, eq_self, bnd_l, bnd_r, Option.toList_some, Option.toList_none, List.cons_append, List.nil_append, Nat.add_zero, Nat.zero_add, ↓reduceIte, nI_add, nI_mul, nI_subI, lt_t, lt_f, eq_f, lt_m1, m1_lt, eq_m1, m1_eq, h1, h2, i1]
        · rw [if_neg h3] at i1
          by_cases h4 : σ 11 c = -1
          · have i3 := i2.1 h4
            simp (disch := omega) only [s16_0, s16_1, s16_4, s16_5, s16_6, s16_9, s16_10, s16_13, s16_14, s16_15, s16_18, s16_19, s16_20, s16_23, s16_26, s16_27, s16_28, s16_31, s16_34, s16_35, s16_38, s16_39z0, s16_39z1, c10, c100, c6, eq_self, bnd_l, bnd_r, Option.toList_some, Option.toList_none, List.cons_append, List.nil_append, Nat.add_zero, Nat.zero_add, ↓reduceIte, nI_add, nI_mul, nI_subI, lt_t, lt_f, eq_f, lt_m1, m1_lt, eq_m1, m1_eq, h1, h2, i1, i3]
          · exact absurd ⟨h1, h2, h3, h4⟩ hn
theorem k_bringBack {c : Nat} (hc : c < 10) : exC X 17 [.ref 10, .int (nI c)] (WW σ t) = ansV (WW (u2 σ 15 c (nI 0)) t) := by
  rw [ent_17]
  simp (disch := omega) only [s17_0, s17_1, s17_4, s17_5, s17_6 nar0, s17_6 nar1, s17_7, c10, c100, c6, eq_self, bnd_l, bnd_r, Option.toList_some, Option.toList_none, List.cons_append, List.nil_append, Nat.add_zero, Nat.zero_add, ↓reduceIte, nI_add, nI_mul, nI_subI, lt_t, lt_f, eq_f, lt_m1, m1_lt, eq_m1, m1_eq]
end CMP2
