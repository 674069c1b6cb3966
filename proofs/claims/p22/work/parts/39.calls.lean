/-! THE CLASS: calls of stages, tyres, ranks, the season -/
section CMP9
variable {X : rX} {h : rH} {σ : Nat → Nat → Int32} {t : rH} {N r : Nat}
theorem stage_posA {i : Nat} (hA : IA σ N) (hi : i < N) (hk : σ 36 i = nI 2) : 1 ≤ i := by
  by_cases h : 1 ≤ i
  · exact h
  · exfalso
    have e : i = 0 := by omega
    subst e
    have h1 := hA.2.2.2.1 (by omega)
    rw [h1, eq_f (by omega) (by omega) (by omega)] at hk
    exact hk
theorem p_finish1 {a b z x : Int32} (hA : IA σ N) (ha : ¬ (inR a 10 ∧ inR b N)) : exC X 86 [.ref 0, .int a, .int b, .int z, .int x] (WW σ t) = exT 2 (WW σ t) := by
  rw [ent_86]
  by_cases h1 : inR a 10
  · have i2 := k_needItemNo (X := X) (t := t) hA (fun z => ha ⟨h1, z⟩)
    obtain ⟨j, hj, rfl⟩ := h1
    have i1 := k_needCar (X := X) (h := WW σ t) hj
    simp (disch := omega) only [s86_0, s86_1, s86_4, s86_5, s86_6, s86_9, s86_10, s86_11, s86_12, s86_15, s86_17, s86_18, s86_20, s86_23, s86_24, s86_25, s86_26, s86_29, s86_31, s86_32, s86_35, s86_38, s86_39, s86_40, s86_43, s86_46, s86_56, s86_57, s86_60, s86_63, s86_64, s86_65, s86_66, s86_68, s86_71, c10, c100, c6, eq_self, bnd_l, bnd_r, Option.toList_some, Option.toList_none, List.cons_append, List.nil_append, Nat.add_zero, Nat.zero_add, ↓reduceIte, nI_add, nI_mul, nI_subI, lt_t, lt_f, eq_f, lt_m1, m1_lt, eq_m1, m1_eq, i1, i2]
  · have i1 := k_needCarNo (X := X) (h := WW σ t) h1
    simp (disch := omega) only [s86_0, s86_1, s86_4, s86_5, s86_6, s86_9, s86_10, s86_11, s86_12, s86_15, s86_17, s86_18, s86_20, s86_23, s86_24, s86_25, s86_26, s86_29, s86_31, s86_32, s86_35, s86_38, s86_39, s86_40, s86_43, s86_46, s86_56, s86_57, s86_60, s86_63, s86_64, s86_65, s86_66, s86_68, s86_71, c10, c100, c6, eq_self, bnd_l, bnd_r, Option.toList_some, Option.toList_none, List.cons_append, List.nil_append, Nat.add_zero, Nat.zero_add, ↓reduceIte, nI_add, nI_mul, nI_subI, lt_t, lt_f, eq_f, lt_m1, m1_lt, eq_m1, m1_eq, i1]
theorem p_finish2 {c i : Nat} {z x : Int32} (hA : IA σ N) (hc : c < 10) (hi : i < N) (hb : ¬ (σ 36 i = nI 2 ∧ inR x 2000001)) : exC X 86 [.ref 0, .int (nI c), .int (nI i), .int z, .int x] (WW σ t) = exT 1 (WW σ t) := by
  have i1 := k_needCar (X := X) (h := WW σ t) hc
  have i2 := k_needItem (X := X) (t := t) hA hi
  have i3 := k_needKind (X := X) (t := t) (x := nI 2) hA hi
  rw [ent_86]
  by_cases hk : σ 36 i = nI 2
  · rw [if_pos hk] at i3
    have i4 := nr_no (X := X) (h := WW σ t) (b := 2000000) (by omega) (fun z => hb ⟨hk, z⟩)
    simp (disch := omega) only [s86_0, s86_1, s86_4, s86_5, s86_6, s86_9, s86_10, s86_11, s86_12, s86_15, s86_17, s86_18, s86_20, s86_23, s86_24, s86_25, s86_26, s86_29, s86_31, s86_32, s86_35, s86_38, s86_39, s86_40, s86_43, s86_46, s86_56, s86_57, s86_60, s86_63, s86_64, s86_65, s86_66, s86_68, s86_71, c10, c100, c6, eq_self, bnd_l, bnd_r, Option.toList_some, Option.toList_none, List.cons_append, List.nil_append, Nat.add_zero, Nat.zero_add, ↓reduceIte, nI_add, nI_mul, nI_subI, lt_t, lt_f, eq_f, lt_m1, m1_lt, eq_m1, m1_eq, i1, i2, i3, i4]
  · rw [if_neg hk] at i3
    simp (disch := omega) only [s86_0, s86_1, s86_4, s86_5, s86_6, s86_9, s86_10, s86_11, s86_12, s86_15, s86_17, s86_18, s86_20, s86_23, s86_24, s86_25, s86_26, s86_29, s86_31, s86_32, s86_35, s86_38, s86_39, s86_40, s86_43, s86_46, s86_56, s86_57, s86_60, s86_63, s86_64, s86_65, s86_66, s86_68, s86_71, c10, c100, c6, eq_self, bnd_l, bnd_r, Option.toList_some, Option.toList_none, List.cons_append, List.nil_append, Nat.add_zero, Nat.zero_add, ↓reduceIte, nI_add, nI_mul, nI_subI, lt_t, lt_f, eq_f, lt_m1, m1_lt, eq_m1, m1_eq, i1, i2, i3]
theorem p_finish3 {c i : Nat} {z x : Int32} (hA : IA σ N) (hc : c < 10) (hi : i < N) (hk : σ 36 i = nI 2) (hk1 : ¬ σ 36 (i - 1) = nI 2) (hx : inR x 2000001) (hs : σ 11 (10 * (i - 1) + c) = -1 ∨ x < startF (σ 11) c i) : exC X 86 [.ref 0, .int (nI c), .int (nI i), .int z, .int x] (WW σ t) = exT 0 (WW σ t) := by
  have hp := stage_posA hA hi hk
  have i1 := k_needCar (X := X) (h := WW σ t) hc
  have i2 := k_needItem (X := X) (t := t) hA hi
  have i3 := k_needKind (X := X) (t := t) (x := nI 2) hA hi
  rw [if_pos hk] at i3
  have i4 : exC X 101 [.int x, .int (nI 0), .int (nI 2000000)] (WW σ t) = ansV (WW σ t) := by
    obtain ⟨j, hj, rfl⟩ := hx
    exact nr_in (by omega) (by omega) (by omega)
  have i5 := k_needStart (X := X) (t := t) hA hi hp hc hk1
  rw [ent_86]
  by_cases h1 : σ 11 (10 * (i - 1) + c) = -1
  · rw [if_pos h1] at i5
    simp (disch := omega) only [s86_0, s86_1, s86_4, s86_5, s86_6, s86_9, s86_10, s86_11, s86_12, s86_15, s86_17, s86_18, s86_20, s86_23, s86_24, s86_25, s86_26, s86_29, s86_31, s86_32, s86_35, s86_38, s86_39, s86_40, s86_43, s86_46, s86_56, s86_57, s86_60, s86_63, s86_64, s86_65, s86_66, s86_68, s86_71, c10, c100, c6, eq_self, bnd_l, bnd_r, Option.toList_some, Option.toList_none, List.cons_append, List.nil_append, Nat.add_zero, Nat.zero_add, ↓reduceIte, nI_add, nI_mul, nI_subI, lt_t, lt_f, eq_f, lt_m1, m1_lt, eq_m1, m1_eq, i1, i2, i3, i4, i5]
  · rw [if_neg h1] at i5
    have i6 := k_startTenths (X := X) (t := t) hA hi hp hc hk1 h1
    have h2 := hs.resolve_left h1
    simp (disch := omega) only [s86_0, s86_1, s86_4, s86_5, s86_6, s86_9, s86_10, s86_11, s86_12, s86_15, s86_17, s86_18, s86_20, s86_23, s86_24, s86_25, s86_26, s86_29, s86_31, s86_32, s86_35, s86_38, s86_39, s86_40, s86_43, s86_46, s86_56, s86_57, s86_60, s86_63, s86_64, s86_65, s86_66, s86_68, s86_71, c10, c100, c6, eq_self, bnd_l, bnd_r, Option.toList_some, Option.toList_none, List.cons_append, List.nil_append, Nat.add_zero, Nat.zero_add, ↓reduceIte, nI_add, nI_mul, nI_subI, lt_t, lt_f, eq_f, lt_m1, m1_lt, eq_m1, m1_eq, i1, i2, i3, i4, i5, i6, h2]
theorem p_finish0 {c i : Nat} {z x : Int32} (hA : IA σ N) (hB : IB σ) (hc : c < 10) (hi : i < N) (hk : σ 36 i = nI 2) (hk1 : ¬ σ 36 (i - 1) = nI 2) (hx : inR x 2000001) (h1 : ¬ σ 11 (10 * (i - 1) + c) = -1) (h2 : ¬ x < startF (σ 11) c i) (hS : SG (u2 σ (if z = nI 0 then 19 else 18) (10 * i + c) x) N i) : exC X 86 [.ref 0, .int (nI c), .int (nI i), .int z, .int x] (WW σ t) = ansV (WW (rcW (u2 σ (if z = nI 0 then 19 else 18) (10 * i + c) x) i) t) := by
  have hN := hA.1
  have hp := stage_posA hA hi hk
  have i1 := k_needCar (X := X) (h := WW σ t) hc
  have i2 := k_needItem (X := X) (t := t) hA hi
  have i3 := k_needKind (X := X) (t := t) (x := nI 2) hA hi
  rw [if_pos hk] at i3
  have i4 : exC X 101 [.int x, .int (nI 0), .int (nI 2000000)] (WW σ t) = ansV (WW σ t) := by
    obtain ⟨j, hj, rfl⟩ := hx
    exact nr_in (by omega) (by omega) (by omega)
  have i5 := k_needStart (X := X) (t := t) hA hi hp hc hk1
  rw [if_neg h1] at i5
  have i6 := k_startTenths (X := X) (t := t) hA hi hp hc hk1 h1
  have i7 := k_tell (X := X) (t := t) (z := z) (x := x) hA hB (by omega : i < 20) hc hS
  rw [ent_86]
  simp (disch := omega) only [s86_0, s86_1, s86_4, s86_5, s86_6, s86_9, s86_10, s86_11, s86_12, s86_15, s86_17, s86_18, s86_20, s86_23, s86_24, s86_25, s86_26, s86_29, s86_31, s86_32, s86_35, s86_38, s86_39, s86_40, s86_43, s86_46, s86_56, s86_57, s86_60, s86_63, s86_64, s86_65, s86_66, s86_68, s86_71, c10, c100, c6, eq_self, bnd_l, bnd_r, Option.toList_some, Option.toList_none, List.cons_append, List.nil_append, Nat.add_zero, Nat.zero_add, ↓reduceIte, nI_add, nI_mul, nI_subI, lt_t, lt_f, eq_f, lt_m1, m1_lt, eq_m1, m1_eq, i1, i2, i3, i4, i5, i6, i7, h2]
theorem p_held1 {a b z : Int32} (hA : IA σ N) (ha : ¬ (inR a 10 ∧ inR b N)) : exC X 87 [.ref 0, .int a, .int b, .int z] (WW σ t) = exT 2 (WW σ t) := by
  rw [ent_87]
  by_cases h1 : inR a 10
  · have i2 := k_needItemNo (X := X) (t := t) hA (fun z => ha ⟨h1, z⟩)
    obtain ⟨j, hj, rfl⟩ := h1
    have i1 := k_needCar (X := X) (h := WW σ t) hj
    simp (disch := omega) only [s87_0, s87_1, s87_4, s87_5, s87_6, s87_9, s87_10, s87_11, s87_12, s87_15, s87_16, s87_17, s87_18, s87_21, s87_22, s87_25, s87_28, s87_29, s87_30, s87_31, s87_34, c10, c100, c6, eq_self, bnd_l, bnd_r, Option.toList_some, Option.toList_none, List.cons_append, List.nil_append, Nat.add_zero, Nat.zero_add, ↓reduceIte, nI_add, nI_mul, nI_subI, lt_t, lt_f, eq_f, lt_m1, m1_lt, eq_m1, m1_eq, i1, i2]
  · have i1 := k_needCarNo (X := X) (h := WW σ t) h1
    simp (disch := omega) only [s87_0, s87_1, s87_4, s87_5, s87_6, s87_9, s87_10, s87_11, s87_12, s87_15, s87_16, s87_17, s87_18, s87_21, s87_22, s87_25, s87_28, s87_29, s87_30, s87_31, s87_34, c10, c100, c6, eq_self, bnd_l, bnd_r, Option.toList_some, Option.toList_none, List.cons_append, List.nil_append, Nat.add_zero, Nat.zero_add, ↓reduceIte, nI_add, nI_mul, nI_subI, lt_t, lt_f, eq_f, lt_m1, m1_lt, eq_m1, m1_eq, i1]
theorem p_held2 {c i : Nat} {z : Int32} (hA : IA σ N) (hc : c < 10) (hi : i < N) (hb : ¬ σ 36 i = nI 2) : exC X 87 [.ref 0, .int (nI c), .int (nI i), .int z] (WW σ t) = exT 1 (WW σ t) := by
  have i1 := k_needCar (X := X) (h := WW σ t) hc
  have i2 := k_needItem (X := X) (t := t) hA hi
  have i3 := k_needKind (X := X) (t := t) (x := nI 2) hA hi
  rw [if_neg hb] at i3
  rw [ent_87]
  simp (disch := omega) only [s87_0, s87_1, s87_4, s87_5, s87_6, s87_9, s87_10, s87_11, s87_12, s87_15, s87_16, s87_17, s87_18, s87_21, s87_22, s87_25, s87_28, s87_29, s87_30, s87_31, s87_34, c10, c100, c6, eq_self, bnd_l, bnd_r, Option.toList_some, Option.toList_none, List.cons_append, List.nil_append, Nat.add_zero, Nat.zero_add, ↓reduceIte, nI_add, nI_mul, nI_subI, lt_t, lt_f, eq_f, lt_m1, m1_lt, eq_m1, m1_eq, i1, i2, i3]
theorem p_held3 {c i : Nat} {z : Int32} (hA : IA σ N) (hc : c < 10) (hi : i < N) (hk : σ 36 i = nI 2) (hk1 : ¬ σ 36 (i - 1) = nI 2) (h1 : σ 11 (10 * (i - 1) + c) = -1) : exC X 87 [.ref 0, .int (nI c), .int (nI i), .int z] (WW σ t) = exT 0 (WW σ t) := by
  have hp := stage_posA hA hi hk
  have i1 := k_needCar (X := X) (h := WW σ t) hc
  have i2 := k_needItem (X := X) (t := t) hA hi
  have i3 := k_needKind (X := X) (t := t) (x := nI 2) hA hi
  rw [if_pos hk] at i3
  have i5 := k_needStart (X := X) (t := t) hA hi hp hc hk1
  rw [if_pos h1] at i5
  rw [ent_87]
  simp (disch := omega) only [s87_0, s87_1, s87_4, s87_5, s87_6, s87_9, s87_10, s87_11, s87_12, s87_15, s87_16, s87_17, s87_18, s87_21, s87_22, s87_25, s87_28, s87_29, s87_30, s87_31, s87_34, c10, c100, c6, eq_self, bnd_l, bnd_r, Option.toList_some, Option.toList_none, List.cons_append, List.nil_append, Nat.add_zero, Nat.zero_add, ↓reduceIte, nI_add, nI_mul, nI_subI, lt_t, lt_f, eq_f, lt_m1, m1_lt, eq_m1, m1_eq, i1, i2, i3, i5]
theorem p_held0 {c i : Nat} {z : Int32} (hA : IA σ N) (hB : IB σ) (hc : c < 10) (hi : i < N) (hk : σ 36 i = nI 2) (hk1 : ¬ σ 36 (i - 1) = nI 2) (h1 : ¬ σ 11 (10 * (i - 1) + c) = -1) (hz : z = nI 0 ∨ z = nI 1) (hS : SG (u2 σ 21 (10 * i + c) z) N i) : exC X 87 [.ref 0, .int (nI c), .int (nI i), .int z] (WW σ t) = ans (tmC (u2 σ 21 (10 * i + c) z) i c) (WW (rcW (u2 σ 21 (10 * i + c) z) i) t) := by
  have hN := hA.1
  have hp := stage_posA hA hi hk
  have i1 := k_needCar (X := X) (h := WW σ t) hc
  have i2 := k_needItem (X := X) (t := t) hA hi
  have i3 := k_needKind (X := X) (t := t) (x := nI 2) hA hi
  rw [if_pos hk] at i3
  have i5 := k_needStart (X := X) (t := t) hA hi hp hc hk1
  rw [if_neg h1] at i5
  have i7 := k_hold (X := X) (t := t) (z := z) hA hB (by omega : i < 20) hc hz hS
  rw [ent_87]
  simp (disch := omega) only [s87_0, s87_1, s87_4, s87_5, s87_6, s87_9, s87_10, s87_11, s87_12, s87_15, s87_16, s87_17, s87_18, s87_21, s87_22, s87_25, s87_28, s87_29, s87_30, s87_31, s87_34, c10, c100, c6, eq_self, bnd_l, bnd_r, Option.toList_some, Option.toList_none, List.cons_append, List.nil_append, Nat.add_zero, Nat.zero_add, ↓reduceIte, nI_add, nI_mul, nI_subI, lt_t, lt_f, eq_f, lt_m1, m1_lt, eq_m1, m1_eq, i1, i2, i3, i5, i7]
theorem p_award1 {a b x : Int32} (hA : IA σ N) (ha : ¬ (inR a 10 ∧ inR b N)) : exC X 88 [.ref 0, .int a, .int b, .int x] (WW σ t) = exT 2 (WW σ t) := by
  rw [ent_88]
  by_cases h1 : inR a 10
  · have i2 := k_needItemNo (X := X) (t := t) hA (fun z => ha ⟨h1, z⟩)
    obtain ⟨j, hj, rfl⟩ := h1
    have i1 := k_needCar (X := X) (h := WW σ t) hj
    simp (disch := omega) only [s88_0, s88_1, s88_4, s88_5, s88_6, s88_9, s88_10, s88_11, s88_12, s88_15, s88_16, s88_17, s88_19, s88_22, s88_23, s88_24, s88_25, s88_28, s88_29, s88_32, s88_35, s88_36, s88_37, s88_38, s88_41, c10, c100, c6, eq_self, bnd_l, bnd_r, Option.toList_some, Option.toList_none, List.cons_append, List.nil_append, Nat.add_zero, Nat.zero_add, ↓reduceIte, nI_add, nI_mul, nI_subI, lt_t, lt_f, eq_f, lt_m1, m1_lt, eq_m1, m1_eq, i1, i2]
  · have i1 := k_needCarNo (X := X) (h := WW σ t) h1
    simp (disch := omega) only [s88_0, s88_1, s88_4, s88_5, s88_6, s88_9, s88_10, s88_11, s88_12, s88_15, s88_16, s88_17, s88_19, s88_22, s88_23, s88_24, s88_25, s88_28, s88_29, s88_32, s88_35, s88_36, s88_37, s88_38, s88_41, c10, c100, c6, eq_self, bnd_l, bnd_r, Option.toList_some, Option.toList_none, List.cons_append, List.nil_append, Nat.add_zero, Nat.zero_add, ↓reduceIte, nI_add, nI_mul, nI_subI, lt_t, lt_f, eq_f, lt_m1, m1_lt, eq_m1, m1_eq, i1]
theorem nr_w {x : Int32} : (okW x → exC X 101 [.int x, .int (-1), .int (nI 99999)] h = ansV h) ∧ (¬ okW x → exC X 101 [.int x, .int (-1), .int (nI 99999)] h = exT 1 h) := by
  rw [k_needRange]
  constructor
  · rintro (rfl | ⟨j, hj, rfl⟩)
    · rw [if_neg (by decide +kernel), if_neg (by decide +kernel)]
    · rw [if_neg (by rw [lt_m1 (by omega)]; exact id), if_neg (nI_nlt (by omega) (by omega))]
  · intro hn
    by_cases h1 : x < -1
    · rw [if_pos h1]
    · rw [if_neg h1]
      by_cases h2 : nI 99999 < x
      · rw [if_pos h2]
      · refine absurd ?_ hn
        by_cases h3 : x < nI 0
        · refine Or.inl (Int32.toInt_inj.mp ?_)
          rw [Int32.lt_iff_toInt_lt] at h1 h3
          rw [m1_toInt] at h1 ⊢
          rw [nI_toInt (by omega)] at h3
          omega
        · exact Or.inr (inR_of (by omega) h3 h2)
theorem p_award2 {c i : Nat} {x : Int32} (hA : IA σ N) (hc : c < 10) (hi : i < N) (hb : ¬ (σ 36 i = nI 2 ∧ okW x)) : exC X 88 [.ref 0, .int (nI c), .int (nI i), .int x] (WW σ t) = exT 1 (WW σ t) := by
  have i1 := k_needCar (X := X) (h := WW σ t) hc
  have i2 := k_needItem (X := X) (t := t) hA hi
  have i3 := k_needKind (X := X) (t := t) (x := nI 2) hA hi
  rw [ent_88]
  by_cases hk : σ 36 i = nI 2
  · rw [if_pos hk] at i3
    have i4 := (nr_w (X := X) (h := WW σ t)).2 (fun z => hb ⟨hk, z⟩)
    simp (disch := omega) only [s88_0, s88_1, s88_4, s88_5, s88_6, s88_9, s88_10, s88_11, s88_12, s88_15, s88_16, s88_17, s88_19, s88_22, s88_23, s88_24, s88_25, s88_28, s88_29, s88_32, s88_35, s88_36, s88_37, s88_38, s88_41, c10, c100, c6, eq_self, bnd_l, bnd_r, Option.toList_some, Option.toList_none, List.cons_append, List.nil_append, Nat.add_zero, Nat.zero_add, ↓reduceIte, nI_add, nI_mul, nI_subI, lt_t, lt_f, eq_f, lt_m1, m1_lt, eq_m1, m1_eq, i1, i2, i3, i4]
  · rw [if_neg hk] at i3
    simp (disch := omega) only [s88_0, s88_1, s88_4, s88_5, s88_6, s88_9, s88_10, s88_11, s88_12, s88_15, s88_16, s88_17, s88_19, s88_22, s88_23, s88_24, s88_25, s88_28, s88_29, s88_32, s88_35, s88_36, s88_37, s88_38, s88_41, c10, c100, c6, eq_self, bnd_l, bnd_r, Option.toList_some, Option.toList_none, List.cons_append, List.nil_append, Nat.add_zero, Nat.zero_add, ↓reduceIte, nI_add, nI_mul, nI_subI, lt_t, lt_f, eq_f, lt_m1, m1_lt, eq_m1, m1_eq, i1, i2, i3]
theorem p_award3 {c i : Nat} {x : Int32} (hA : IA σ N) (hc : c < 10) (hi : i < N) (hk : σ 36 i = nI 2) (hk1 : ¬ σ 36 (i - 1) = nI 2) (hx : okW x) (h1 : σ 11 (10 * (i - 1) + c) = -1) : exC X 88 [.ref 0, .int (nI c), .int (nI i), .int x] (WW σ t) = exT 0 (WW σ t) := by
  have hp := stage_posA hA hi hk
  have i1 := k_needCar (X := X) (h := WW σ t) hc
  have i2 := k_needItem (X := X) (t := t) hA hi
  have i3 := k_needKind (X := X) (t := t) (x := nI 2) hA hi
  rw [if_pos hk] at i3
  have i4 := (nr_w (X := X) (h := WW σ t)).1 hx
  have i5 := k_needStart (X := X) (t := t) hA hi hp hc hk1
  rw [if_pos h1] at i5
  rw [ent_88]
  simp (disch := omega) only [s88_0, s88_1, s88_4, s88_5, s88_6, s88_9, s88_10, s88_11, s88_12, s88_15, s88_16, s88_17, s88_19, s88_22, s88_23, s88_24, s88_25, s88_28, s88_29, s88_32, s88_35, s88_36, s88_37, s88_38, s88_41, c10, c100, c6, eq_self, bnd_l, bnd_r, Option.toList_some, Option.toList_none, List.cons_append, List.nil_append, Nat.add_zero, Nat.zero_add, ↓reduceIte, nI_add, nI_mul, nI_subI, lt_t, lt_f, eq_f, lt_m1, m1_lt, eq_m1, m1_eq, i1, i2, i3, i4, i5]
theorem p_award0 {c i : Nat} {x : Int32} (hA : IA σ N) (hB : IB σ) (hc : c < 10) (hi : i < N) (hk : σ 36 i = nI 2) (hk1 : ¬ σ 36 (i - 1) = nI 2) (hx : okW x) (h1 : ¬ σ 11 (10 * (i - 1) + c) = -1) (hS : SG (u2 σ 20 (10 * i + c) x) N i) : exC X 88 [.ref 0, .int (nI c), .int (nI i), .int x] (WW σ t) = ans (tmC (u2 σ 20 (10 * i + c) x) i c) (WW (rcW (u2 σ 20 (10 * i + c) x) i) t) := by
  have hN := hA.1
  have hp := stage_posA hA hi hk
  have i1 := k_needCar (X := X) (h := WW σ t) hc
  have i2 := k_needItem (X := X) (t := t) hA hi
  have i3 := k_needKind (X := X) (t := t) (x := nI 2) hA hi
  rw [if_pos hk] at i3
  have i4 := (nr_w (X := X) (h := WW σ t)).1 hx
  have i5 := k_needStart (X := X) (t := t) hA hi hp hc hk1
  rw [if_neg h1] at i5
  have i7 := k_grant (X := X) (t := t) (x := x) hA hB (by omega : i < 20) hc hS
  rw [ent_88]
  simp (disch := omega) only [s88_0, s88_1, s88_4, s88_5, s88_6, s88_9, s88_10, s88_11, s88_12, s88_15, s88_16, s88_17, s88_19, s88_22, s88_23, s88_24, s88_25, s88_28, s88_29, s88_32, s88_35, s88_36, s88_37, s88_38, s88_41, c10, c100, c6, eq_self, bnd_l, bnd_r, Option.toList_some, Option.toList_none, List.cons_append, List.nil_append, Nat.add_zero, Nat.zero_add, ↓reduceIte, nI_add, nI_mul, nI_subI, lt_t, lt_f, eq_f, lt_m1, m1_lt, eq_m1, m1_eq, i1, i2, i3, i4, i5, i7]
theorem p_time1 {a b : Int32} (hA : IA σ N) (ha : ¬ (inR a 10 ∧ inR b N)) : exC X 89 [.ref 0, .int a, .int b] (WW σ t) = exT 2 (WW σ t) := by
  rw [ent_89]
  by_cases h1 : inR a 10
  · have i2 := k_needItemNo (X := X) (t := t) hA (fun z => ha ⟨h1, z⟩)
    obtain ⟨j, hj, rfl⟩ := h1
    have i1 := k_needCar (X := X) (h := WW σ t) hj
    simp (disch := omega) only [s89_0, s89_1, s89_4, s89_5, s89_6, s89_9, s89_10, s89_11, s89_12, s89_15, s89_16, s89_19, s89_22, s89_23, s89_24, s89_27, c10, c100, c6, eq_self, bnd_l, bnd_r, Option.toList_some, Option.toList_none, List.cons_append, List.nil_append, Nat.add_zero, Nat.zero_add, ↓reduceIte, nI_add, nI_mul, nI_subI, lt_t, lt_f, eq_f, lt_m1, m1_lt, eq_m1, m1_eq, i1, i2]
  · have i1 := k_needCarNo (X := X) (h := WW σ t) h1
    simp (disch := omega) only [s89_0, s89_1, s89_4, s89_5, s89_6, s89_9, s89_10, s89_11, s89_12, s89_15, s89_16, s89_19, s89_22, s89_23, s89_24, s89_27, c10, c100, c6, eq_self, bnd_l, bnd_r, Option.toList_some, Option.toList_none, List.cons_append, List.nil_append, Nat.add_zero, Nat.zero_add, ↓reduceIte, nI_add, nI_mul, nI_subI, lt_t, lt_f, eq_f, lt_m1, m1_lt, eq_m1, m1_eq, i1]
theorem p_time2 {c i : Nat} (hA : IA σ N) (hc : c < 10) (hi : i < N) (hb : ¬ σ 36 i = nI 2) : exC X 89 [.ref 0, .int (nI c), .int (nI i)] (WW σ t) = exT 1 (WW σ t) := by
  have i1 := k_needCar (X := X) (h := WW σ t) hc
  have i2 := k_needItem (X := X) (t := t) hA hi
  have i3 := k_needKind (X := X) (t := t) (x := nI 2) hA hi
  rw [if_neg hb] at i3
  rw [ent_89]
  simp (disch := omega) only [s89_0, s89_1, s89_4, s89_5, s89_6, s89_9, s89_10, s89_11, s89_12, s89_15, s89_16, s89_19, s89_22, s89_23, s89_24, s89_27, c10, c100, c6, eq_self, bnd_l, bnd_r, Option.toList_some, Option.toList_none, List.cons_append, List.nil_append, Nat.add_zero, Nat.zero_add, ↓reduceIte, nI_add, nI_mul, nI_subI, lt_t, lt_f, eq_f, lt_m1, m1_lt, eq_m1, m1_eq, i1, i2, i3]
theorem p_time0 {c i : Nat} (hA : IA σ N) (hc : c < 10) (hi : i < N) (hk : σ 36 i = nI 2) : exC X 89 [.ref 0, .int (nI c), .int (nI i)] (WW σ t) = ans (σ 23 (10 * i + c)) (WW σ t) := by
  have hN := hA.1
  have i1 := k_needCar (X := X) (h := WW σ t) hc
  have i2 := k_needItem (X := X) (t := t) hA hi
  have i3 := k_needKind (X := X) (t := t) (x := nI 2) hA hi
  rw [if_pos hk] at i3
  have i4 := k_timeOf (X := X) (σ := σ) (t := t) (by omega : i < 20) hc
  rw [ent_89]
  simp (disch := omega) only [s89_0, s89_1, s89_4, s89_5, s89_6, s89_9, s89_10, s89_11, s89_12, s89_15, s89_16, s89_19, s89_22, s89_23, s89_24, s89_27, c10, c100, c6, eq_self, bnd_l, bnd_r, Option.toList_some, Option.toList_none, List.cons_append, List.nil_append, Nat.add_zero, Nat.zero_add, ↓reduceIte, nI_add, nI_mul, nI_subI, lt_t, lt_f, eq_f, lt_m1, m1_lt, eq_m1, m1_eq, i1, i2, i3, i4]
theorem p_alloc1 {a b : Int32} (ha : ¬ inR a 10) : exC X 90 [.ref 0, .int a, .int b] (WW σ t) = exT 2 (WW σ t) := by
  have i1 := k_needCarNo (X := X) (h := WW σ t) ha
  rw [ent_90]
  simp (disch := omega) only [s90_0, s90_1, s90_4, s90_5, s90_6, s90_8, s90_11, s90_12, s90_15, s90_18, s90_19, s90_20, s90_23, s90_26, s90_36, s90_37, s90_40, s90_43, s90_44, s90_45, s90_48, c10, c100, c6, eq_self, bnd_l, bnd_r, Option.toList_some, Option.toList_none, List.cons_append, List.nil_append, Nat.add_zero, Nat.zero_add, ↓reduceIte, nI_add, nI_mul, nI_subI, lt_t, lt_f, eq_f, lt_m1, m1_lt, eq_m1, m1_eq, i1]
theorem p_alloc2 {c : Nat} {b : Int32} (hc : c < 10) (hb : ¬ inR b 100) : exC X 90 [.ref 0, .int (nI c), .int b] (WW σ t) = exT 1 (WW σ t) := by
  have i1 := k_needCar (X := X) (h := WW σ t) hc
  have i2 := nr_no (X := X) (h := WW σ t) (b := 99) (by omega) hb
  rw [ent_90]
  simp (disch := omega) only [s90_0, s90_1, s90_4, s90_5, s90_6, s90_8, s90_11, s90_12, s90_15, s90_18, s90_19, s90_20, s90_23, s90_26, s90_36, s90_37, s90_40, s90_43, s90_44, s90_45, s90_48, c10, c100, c6, eq_self, bnd_l, bnd_r, Option.toList_some, Option.toList_none, List.cons_append, List.nil_append, Nat.add_zero, Nat.zero_add, ↓reduceIte, nI_add, nI_mul, nI_subI, lt_t, lt_f, eq_f, lt_m1, m1_lt, eq_m1, m1_eq, i1, i2]
theorem p_alloc3 {c k : Nat} (hc : c < 10) (hk : k < 100) (hn : ¬ (σ 26 (100 * c + k) = nI 0 ∧ σ 28 c < nI 6)) : exC X 90 [.ref 0, .int (nI c), .int (nI k)] (WW σ t) = exT 0 (WW σ t) := by
  have i1 := k_needCar (X := X) (h := WW σ t) hc
  have i2 := nr_in (X := X) (h := WW σ t) (a := 0) (b := 99) (j := k) (by omega) (by omega) (by omega)
  have i3 := (k_takes7 (X := X) (σ := σ) (t := t) hc hk).2 hn
  rw [ent_90]
  simp (disch := omega) only [s90_0, s90_1, s90_4, s90_5, s90_6, s90_8, s90_11, s90_12, s90_15, s90_18, s90_19, s90_20, s90_23, s90_26, s90_36, s90_37, s90_40, s90_43, s90_44, s90_45, s90_48, c10, c100, c6, eq_self, bnd_l, bnd_r, Option.toList_some, Option.toList_none, List.cons_append, List.nil_append, Nat.add_zero, Nat.zero_add, ↓reduceIte, nI_add, nI_mul, nI_subI, lt_t, lt_f, eq_f, lt_m1, m1_lt, eq_m1, m1_eq, i1, i2, i3]
theorem p_alloc0 {c k : Nat} (hc : c < 10) (hk : k < 100) (hn : σ 26 (100 * c + k) = nI 0 ∧ σ 28 c < nI 6) : exC X 90 [.ref 0, .int (nI c), .int (nI k)] (WW σ t) = ans (σ 28 c + nI 1) (WW (u2 (u2 σ 26 (100 * c + k) (nI 1)) 28 c (σ 28 c + nI 1)) t) := by
  have i1 := k_needCar (X := X) (h := WW σ t) hc
  have i2 := nr_in (X := X) (h := WW σ t) (a := 0) (b := 99) (j := k) (by omega) (by omega) (by omega)
  have i3 := (k_takes7 (X := X) (σ := σ) (t := t) hc hk).1 hn
  have i4 := k_add7 (X := X) (σ := σ) (t := t) hc hk
  rw [ent_90]
  simp (disch := omega) only [s90_0, s90_1, s90_4, s90_5, s90_6, s90_8, s90_11, s90_12, s90_15, s90_18, s90_19, s90_20, s90_23, s90_26, s90_36, s90_37, s90_40, s90_43, s90_44, s90_45, s90_48, c10, c100, c6, eq_self, bnd_l, bnd_r, Option.toList_some, Option.toList_none, List.cons_append, List.nil_append, Nat.add_zero, Nat.zero_add, ↓reduceIte, nI_add, nI_mul, nI_subI, lt_t, lt_f, eq_f, lt_m1, m1_lt, eq_m1, m1_eq, i1, i2, i3, i4]
theorem p_seen1 {a b : Int32} (ha : ¬ inR a 10) : exC X 91 [.ref 0, .int a, .int b] (WW σ t) = exT 2 (WW σ t) := by
  have i1 := k_needCarNo (X := X) (h := WW σ t) ha
  rw [ent_91]
  simp (disch := omega) only [s91_0, s91_1, s91_4, s91_5, s91_6, s91_8, s91_11, s91_12, s91_15, s91_18, s91_19, s91_20, s91_23, c10, c100, c6, eq_self, bnd_l, bnd_r, Option.toList_some, Option.toList_none, List.cons_append, List.nil_append, Nat.add_zero, Nat.zero_add, ↓reduceIte, nI_add, nI_mul, nI_subI, lt_t, lt_f, eq_f, lt_m1, m1_lt, eq_m1, m1_eq, i1]
theorem p_seen2 {c : Nat} {b : Int32} (hc : c < 10) (hb : ¬ inR b 100) : exC X 91 [.ref 0, .int (nI c), .int b] (WW σ t) = exT 1 (WW σ t) := by
  have i1 := k_needCar (X := X) (h := WW σ t) hc
  have i2 := nr_no (X := X) (h := WW σ t) (b := 99) (by omega) hb
  rw [ent_91]
  simp (disch := omega) only [s91_0, s91_1, s91_4, s91_5, s91_6, s91_8, s91_11, s91_12, s91_15, s91_18, s91_19, s91_20, s91_23, c10, c100, c6, eq_self, bnd_l, bnd_r, Option.toList_some, Option.toList_none, List.cons_append, List.nil_append, Nat.add_zero, Nat.zero_add, ↓reduceIte, nI_add, nI_mul, nI_subI, lt_t, lt_f, eq_f, lt_m1, m1_lt, eq_m1, m1_eq, i1, i2]
theorem p_seen0n {c k : Nat} (hc : c < 10) (hk : k < 100) (hn : ¬ (σ 26 (100 * c + k) = nI 0 ∧ σ 27 (100 * c + k) = nI 0)) : exC X 91 [.ref 0, .int (nI c), .int (nI k)] (WW σ t) = ans (nI 0) (WW σ t) := by
  have i1 := k_needCar (X := X) (h := WW σ t) hc
  have i2 := nr_in (X := X) (h := WW σ t) (a := 0) (b := 99) (j := k) (by omega) (by omega) (by omega)
  have i3 := (k_check (X := X) (σ := σ) (t := t) hc hk).2 hn
  rw [ent_91]
  simp (disch := omega) only [s91_0, s91_1, s91_4, s91_5, s91_6, s91_8, s91_11, s91_12, s91_15, s91_18, s91_19, s91_20, s91_23, c10, c100, c6, eq_self, bnd_l, bnd_r, Option.toList_some, Option.toList_none, List.cons_append, List.nil_append, Nat.add_zero, Nat.zero_add, ↓reduceIte, nI_add, nI_mul, nI_subI, lt_t, lt_f, eq_f, lt_m1, m1_lt, eq_m1, m1_eq, i1, i2, i3]
theorem p_seen0 {c k : Nat} (hc : c < 10) (hk : k < 100) (hn : σ 26 (100 * c + k) = nI 0 ∧ σ 27 (100 * c + k) = nI 0) : exC X 91 [.ref 0, .int (nI c), .int (nI k)] (WW σ t) = ans (nI 600) (WW (u2 (u2 σ 27 (100 * c + k) (nI 1)) 29 c (σ 29 c + nI 600)) t) := by
  have i1 := k_needCar (X := X) (h := WW σ t) hc
  have i2 := nr_in (X := X) (h := WW σ t) (a := 0) (b := 99) (j := k) (by omega) (by omega) (by omega)
  have i3 := (k_check (X := X) (σ := σ) (t := t) hc hk).1 hn
  rw [ent_91]
  simp (disch := omega) only [s91_0, s91_1, s91_4, s91_5, s91_6, s91_8, s91_11, s91_12, s91_15, s91_18, s91_19, s91_20, s91_23, c10, c100, c6, eq_self, bnd_l, bnd_r, Option.toList_some, Option.toList_none, List.cons_append, List.nil_append, Nat.add_zero, Nat.zero_add, ↓reduceIte, nI_add, nI_mul, nI_subI, lt_t, lt_f, eq_f, lt_m1, m1_lt, eq_m1, m1_eq, i1, i2, i3]
theorem p_retire1 {a z : Int32} (ha : ¬ inR a 10) : exC X 92 [.ref 0, .int a, .int z] (WW σ t) = exT 2 (WW σ t) := by
  have i1 := k_needCarNo (X := X) (h := WW σ t) ha
  rw [ent_92]
  simp (disch := omega) only [s92_0, s92_1, s92_4, s92_5, s92_8, s92_11, s92_12, s92_15, s92_18, s92_28, s92_29, s92_32, s92_35, s92_36, s92_37, s92_40, c10, c100, c6, eq_self, bnd_l, bnd_r, Option.toList_some, Option.toList_none, List.cons_append, List.nil_append, Nat.add_zero, Nat.zero_add, ↓reduceIte, nI_add, nI_mul, nI_subI, lt_t, lt_f, eq_f, lt_m1, m1_lt, eq_m1, m1_eq, i1]
theorem p_retire2 {c : Nat} {z : Int32} (hc : c < 10) (hn : ¬ runP σ c) : exC X 92 [.ref 0, .int (nI c), .int z] (WW σ t) = exT 0 (WW σ t) := by
  have i1 := k_needCar (X := X) (h := WW σ t) hc
  have i2 := (k_isRunning (X := X) (σ := σ) (t := t) hc).2 hn
  rw [ent_92]
  simp (disch := omega) only [s92_0, s92_1, s92_4, s92_5, s92_8, s92_11, s92_12, s92_15, s92_18, s92_28, s92_29, s92_32, s92_35, s92_36, s92_37, s92_40, c10, c100, c6, eq_self, bnd_l, bnd_r, Option.toList_some, Option.toList_none, List.cons_append, List.nil_append, Nat.add_zero, Nat.zero_add, ↓reduceIte, nI_add, nI_mul, nI_subI, lt_t, lt_f, eq_f, lt_m1, m1_lt, eq_m1, m1_eq, i1, i2]
theorem p_retire0 {c : Nat} {z : Int32} (hc : c < 10) (hn : runP σ c) (hz : z = nI 0 ∨ z = nI 1) : exC X 92 [.ref 0, .int (nI c), .int z] (WW σ t) = ansV (WW (u2 (u2 σ 15 c (nI 1)) 16 c z) t) := by
  have i1 := k_needCar (X := X) (h := WW σ t) hc
  have i2 := (k_isRunning (X := X) (σ := σ) (t := t) hc).1 hn
  have i3 := k_withdraw (X := X) (σ := σ) (t := t) hc hz
  rw [ent_92]
  simp (disch := omega) only [s92_0, s92_1, s92_4, s92_5, s92_8, s92_11, s92_12, s92_15, s92_18, s92_28, s92_29, s92_32, s92_35, s92_36, s92_37, s92_40, c10, c100, c6, eq_self, bnd_l, bnd_r, Option.toList_some, Option.toList_none, List.cons_append, List.nil_append, Nat.add_zero, Nat.zero_add, ↓reduceIte, nI_add, nI_mul, nI_subI, lt_t, lt_f, eq_f, lt_m1, m1_lt, eq_m1, m1_eq, i1, i2, i3]
theorem p_car1 {a b : Int32} (ha : ¬ inR a 10) : exC X 93 [.ref 0, .int a, .int b] (WW σ t) = exT 2 (WW σ t) := by
  have i1 := k_needCarNo (X := X) (h := WW σ t) ha
  rw [ent_93]
  simp (disch := omega) only [s93_0, s93_1, s93_4, s93_5, s93_6, s93_7, s93_10, s93_11_0, s93_11_1, s93_11_2, s93_11_3, s93_11_4, s93_11_d, s93_44, s93_45, s93_48, s93_51, s93_52, s93_55, s93_56, s93_57, s93_60, s93_63, s93_64, s93_67, s93_68, s93_69, s93_72, s93_75, s93_76, s93_79, s93_82, s93_83, s93_86, s93_87, s93_88, s93_89, s93_92, s93_95, s93_96, s93_99, s93_102, s93_103, s93_106, s93_107, s93_108, s93_109, s93_112, s93_115, s93_116, s93_119, s93_120, s93_121, s93_124, s93_127, s93_128, s93_131, s93_132, s93_135, s93_138, s93_139, s93_142, c10, c100, c6, eq_self, bnd_l, bnd_r, Option.toList_some, Option.toList_none, List.cons_append, List.nil_append, Nat.add_zero, Nat.zero_add, ↓reduceIte, nI_add, nI_mul, nI_subI, lt_t, lt_f, eq_f, lt_m1, m1_lt, eq_m1, m1_eq, i1]
theorem p_car2 {c : Nat} {b : Int32} (hc : c < 10) (hb : ¬ inR b 6) : exC X 93 [.ref 0, .int (nI c), .int b] (WW σ t) = exT 1 (WW σ t) := by
  have i1 := k_needCar (X := X) (h := WW σ t) hc
  have i2 := nr_no (X := X) (h := WW σ t) (b := 5) (by omega) hb
  rw [ent_93]
  simp (disch := omega) only [s93_0, s93_1, s93_4, s93_5, s93_6, s93_7, s93_10, s93_11_0, s93_11_1, s93_11_2, s93_11_3, s93_11_4, s93_11_d, s93_44, s93_45, s93_48, s93_51, s93_52, s93_55, s93_56, s93_57, s93_60, s93_63, s93_64, s93_67, s93_68, s93_69, s93_72, s93_75, s93_76, s93_79, s93_82, s93_83, s93_86, s93_87, s93_88, s93_89, s93_92, s93_95, s93_96, s93_99, s93_102, s93_103, s93_106, s93_107, s93_108, s93_109, s93_112, s93_115, s93_116, s93_119, s93_120, s93_121, s93_124, s93_127, s93_128, s93_131, s93_132, s93_135, s93_138, s93_139, s93_142, c10, c100, c6, eq_self, bnd_l, bnd_r, Option.toList_some, Option.toList_none, List.cons_append, List.nil_append, Nat.add_zero, Nat.zero_add, ↓reduceIte, nI_add, nI_mul, nI_subI, lt_t, lt_f, eq_f, lt_m1, m1_lt, eq_m1, m1_eq, i1, i2]
theorem p_carA {c : Nat} (hc : c < 10) : exC X 93 [.ref 0, .int (nI c), .int (nI 0)] (WW σ t) = ans (σ 13 c + σ 29 c) (WW σ t) := by
  have i1 := k_needCar (X := X) (h := WW σ t) hc
  have i2 := nr_in (X := X) (h := WW σ t) (a := 0) (b := 5) (j := 0) (by omega) (by omega) (by omega)
  have i3 := k_penOf4 (X := X) (σ := σ) (t := t) hc
  rw [ent_93]
  simp (disch := omega) only [s93_0, s93_1, s93_4, s93_5, s93_6, s93_7, s93_10, s93_11_0, s93_11_1, s93_11_2, s93_11_3, s93_11_4, s93_11_d, s93_44, s93_45, s93_48, s93_51, s93_52, s93_55, s93_56, s93_57, s93_60, s93_63, s93_64, s93_67, s93_68, s93_69, s93_72, s93_75, s93_76, s93_79, s93_82, s93_83, s93_86, s93_87, s93_88, s93_89, s93_92, s93_95, s93_96, s93_99, s93_102, s93_103, s93_106, s93_107, s93_108, s93_109, s93_112, s93_115, s93_116, s93_119, s93_120, s93_121, s93_124, s93_127, s93_128, s93_131, s93_132, s93_135, s93_138, s93_139, s93_142, c10, c100, c6, eq_self, bnd_l, bnd_r, Option.toList_some, Option.toList_none, List.cons_append, List.nil_append, Nat.add_zero, Nat.zero_add, ↓reduceIte, nI_add, nI_mul, nI_subI, lt_t, lt_f, eq_f, lt_m1, m1_lt, eq_m1, m1_eq, i1, i2, i3]
theorem p_carB {c : Nat} (hc : c < 10) : exC X 93 [.ref 0, .int (nI c), .int (nI 1)] (WW σ t) = ans (σ 14 c) (WW σ t) := by
  have i1 := k_needCar (X := X) (h := WW σ t) hc
  have i2 := nr_in (X := X) (h := WW σ t) (a := 0) (b := 5) (j := 1) (by omega) (by omega) (by omega)
  have i3 := k_lateOf (X := X) (σ := σ) (t := t) hc
  rw [ent_93]
  simp (disch := omega) only [s93_0, s93_1, s93_4, s93_5, s93_6, s93_7, s93_10, s93_11_0, s93_11_1, s93_11_2, s93_11_3, s93_11_4, s93_11_d, s93_44, s93_45, s93_48, s93_51, s93_52, s93_55, s93_56, s93_57, s93_60, s93_63, s93_64, s93_67, s93_68, s93_69, s93_72, s93_75, s93_76, s93_79, s93_82, s93_83, s93_86, s93_87, s93_88, s93_89, s93_92, s93_95, s93_96, s93_99, s93_102, s93_103, s93_106, s93_107, s93_108, s93_109, s93_112, s93_115, s93_116, s93_119, s93_120, s93_121, s93_124, s93_127, s93_128, s93_131, s93_132, s93_135, s93_138, s93_139, s93_142, c10, c100, c6, eq_self, bnd_l, bnd_r, Option.toList_some, Option.toList_none, List.cons_append, List.nil_append, Nat.add_zero, Nat.zero_add, ↓reduceIte, nI_add, nI_mul, nI_subI, lt_t, lt_f, eq_f, lt_m1, m1_lt, eq_m1, m1_eq, i1, i2, i3]
theorem p_carC {c : Nat} (hc : c < 10) : exC X 93 [.ref 0, .int (nI c), .int (nI 2)] (WW σ t) = ans (if nI 30 < σ 14 c then nI 1 else nI 0) (WW σ t) := by
  have i1 := k_needCar (X := X) (h := WW σ t) hc
  have i2 := nr_in (X := X) (h := WW σ t) (a := 0) (b := 5) (j := 2) (by omega) (by omega) (by omega)
  have i3 := k_isOut (X := X) (σ := σ) (t := t) hc
  rw [ent_93]
  by_cases h1 : nI 30 < σ 14 c
  · rw [if_pos h1] at i3 ⊢
    simp (disch := omega) only [s93_0, s93_1, s93_4, s93_5, s93_6, s93_7, s93_10, s93_11_0, s93_11_1, s93_11_2, s93_11_3, s93_11_4, s93_11_d, s93_44, s93_45, s93_48, s93_51, s93_52, s93_55, s93_56, s93_57, s93_60, s93_63, s93_64, s93_67, s93_68, s93_69, s93_72, s93_75, s93_76, s93_79, s93_82, s93_83, s93_86, s93_87, s93_88, s93_89, s93_92, s93_95, s93_96, s93_99, s93_102, s93_103, s93_106, s93_107, s93_108, s93_109, s93_112, s93_115, s93_116, s93_119, s93_120, s93_121, s93_124, s93_127, s93_128, s93_131, s93_132, s93_135, s93_138, s93_139, s93_142, c10, c100, c6, eq_self, bnd_l, bnd_r, Option.toList_some, Option.toList_none, List.cons_append, List.nil_append, Nat.add_zero, Nat.zero_add, ↓reduceIte, nI_add, nI_mul, nI_subI, lt_t, lt_f, eq_f, lt_m1, m1_lt, eq_m1, m1_eq, i1, i2, i3]
  · rw [if_neg h1] at i3 ⊢
    simp (disch := omega) only [s93_0, s93_1, s93_4, s93_5, s93_6, s93_7, s93_10, s93_11_0, s93_11_1, s93_11_2, s93_11_3, s93_11_4, s93_11_d, s93_44, s93_45, s93_48, s93_51, s93_52, s93_55, s93_56, s93_57, s93_60, s93_63, s93_64, s93_67, s93_68, s93_69, s93_72, s93_75, s93_76, s93_79, s93_82, s93_83, s93_86, s93_87, s93_88, s93_89, s93_92, s93_95, s93_96, s93_99, s93_102, s93_103, s93_106, s93_107, s93_108, s93_109, s93_112, s93_115, s93_116, s93_119, s93_120, s93_121, s93_124, s93_127, s93_128, s93_131, s93_132, s93_135, s93_138, s93_139, s93_142, c10, c100, c6, eq_self, bnd_l, bnd_r, Option.toList_some, Option.toList_none, List.cons_append, List.nil_append, Nat.add_zero, Nat.zero_add, ↓reduceIte, nI_add, nI_mul, nI_subI, lt_t, lt_f, eq_f, lt_m1, m1_lt, eq_m1, m1_eq, i1, i2, i3]
theorem p_carD {c : Nat} (hc : c < 10) (hb : σ 15 c = nI 0 ∨ σ 15 c = nI 1) : exC X 93 [.ref 0, .int (nI c), .int (nI 3)] (WW σ t) = ans (σ 15 c) (WW σ t) := by
  have i1 := k_needCar (X := X) (h := WW σ t) hc
  have i2 := nr_in (X := X) (h := WW σ t) (a := 0) (b := 5) (j := 3) (by omega) (by omega) (by omega)
  have i3 := k_isRetired (X := X) (σ := σ) (t := t) hc hb
  rw [ent_93]
  rcases hb with e | e
  · rw [e] at i3 ⊢
    simp (disch := omega) only [s93_0, s93_1, s93_4, s93_5, s93_6, s93_7, s93_10, s93_11_0, s93_11_1, s93_11_2, s93_11_3, s93_11_4, s93_11_d, s93_44, s93_45, s93_48, s93_51, s93_52, s93_55, s93_56, s93_57, s93_60, s93_63, s93_64, s93_67, s93_68, s93_69, s93_72, s93_75, s93_76, s93_79, s93_82, s93_83, s93_86, s93_87, s93_88, s93_89, s93_92, s93_95, s93_96, s93_99, s93_102, s93_103, s93_106, s93_107, s93_108, s93_109, s93_112, s93_115, s93_116, s93_119, s93_120, s93_121, s93_124, s93_127, s93_128, s93_131, s93_132, s93_135, s93_138, s93_139, s93_142, c10, c100, c6, eq_self, bnd_l, bnd_r, Option.toList_some, Option.toList_none, List.cons_append, List.nil_append, Nat.add_zero, Nat.zero_add, ↓reduceIte, nI_add, nI_mul, nI_subI, lt_t, lt_f, eq_f, lt_m1, m1_lt, eq_m1, m1_eq, i1, i2, i3]
  · rw [e] at i3 ⊢
    simp (disch := omega) only [s93_0, s93_1, s93_4, s93_5, s93_6, s93_7, s93_10, s93_11_0, s93_11_1, s93_11_2, s93_11_3, s93_11_4, s93_11_d, s93_44, s93_45, s93_48, s93_51, s93_52, s93_55, s93_56, s93_57, s93_60, s93_63, s93_64, s93_67, s93_68, s93_69, s93_72, s93_75, s93_76, s93_79, s93_82, s93_83, s93_86, s93_87, s93_88, s93_89, s93_92, s93_95, s93_96, s93_99, s93_102, s93_103, s93_106, s93_107, s93_108, s93_109, s93_112, s93_115, s93_116, s93_119, s93_120, s93_121, s93_124, s93_127, s93_128, s93_131, s93_132, s93_135, s93_138, s93_139, s93_142, c10, c100, c6, eq_self, bnd_l, bnd_r, Option.toList_some, Option.toList_none, List.cons_append, List.nil_append, Nat.add_zero, Nat.zero_add, ↓reduceIte, nI_add, nI_mul, nI_subI, lt_t, lt_f, eq_f, lt_m1, m1_lt, eq_m1, m1_eq, i1, i2, i3]
theorem p_carE {c : Nat} (hA : IA σ N) (hc : c < 10) : exC X 93 [.ref 0, .int (nI c), .int (nI 4)] (WW σ t) = ans (ttC σ N c) (WW σ t) := by
  have i1 := k_needCar (X := X) (h := WW σ t) hc
  have i2 := nr_in (X := X) (h := WW σ t) (a := 0) (b := 5) (j := 4) (by omega) (by omega) (by omega)
  have i3 := k_totalOf (X := X) (t := t) hA hc
  rw [ent_93]
  simp (disch := omega) only [s93_0, s93_1, s93_4, s93_5, s93_6, s93_7, s93_10, s93_11_0, s93_11_1, s93_11_2, s93_11_3, s93_11_4, s93_11_d, s93_44, s93_45, s93_48, s93_51, s93_52, s93_55, s93_56, s93_57, s93_60, s93_63, s93_64, s93_67, s93_68, s93_69, s93_72, s93_75, s93_76, s93_79, s93_82, s93_83, s93_86, s93_87, s93_88, s93_89, s93_92, s93_95, s93_96, s93_99, s93_102, s93_103, s93_106, s93_107, s93_108, s93_109, s93_112, s93_115, s93_116, s93_119, s93_120, s93_121, s93_124, s93_127, s93_128, s93_131, s93_132, s93_135, s93_138, s93_139, s93_142, c10, c100, c6, eq_self, bnd_l, bnd_r, Option.toList_some, Option.toList_none, List.cons_append, List.nil_append, Nat.add_zero, Nat.zero_add, ↓reduceIte, nI_add, nI_mul, nI_subI, lt_t, lt_f, eq_f, lt_m1, m1_lt, eq_m1, m1_eq, i1, i2, i3]
theorem p_carF {c : Nat} (hA : IA σ N) (hs : N = 0 → ∀ c, c < 10 → σ 11 c = -1) (hc : c < 10) : exC X 93 [.ref 0, .int (nI c), .int (nI 5)] (WW σ t) = ans (rkC (nI 0) σ N 34 c) (WW (rkC (nI 0) σ N) t) := by
  have i1 := k_needCar (X := X) (h := WW σ t) hc
  have i2 := nr_in (X := X) (h := WW σ t) (a := 0) (b := 5) (j := 5) (by omega) (by omega) (by omega)
  have i3 := k_reckon4 (X := X) (t := t) (Or.inl rfl) hA hs
  have i4 := k_placeOf4 (X := X) (σ := rkC (nI 0) σ N) (t := t) hc
  have i5 := fun ls st k s => s93_11_d (X := X) (k := k) (s := s) (ls := ls) (st := st) (h := WW σ t) (x := nI 5) (Or.inr (by rw [nI_toInt (by omega)]; omega))
  rw [ent_93]
  simp (disch := omega) only [s93_0, s93_1, s93_4, s93_5, s93_6, s93_7, s93_10, s93_11_0, s93_11_1, s93_11_2, s93_11_3, s93_11_4, s93_11_d, s93_44, s93_45, s93_48, s93_51, s93_52, s93_55, s93_56, s93_57, s93_60, s93_63, s93_64, s93_67, s93_68, s93_69, s93_72, s93_75, s93_76, s93_79, s93_82, s93_83, s93_86, s93_87, s93_88, s93_89, s93_92, s93_95, s93_96, s93_99, s93_102, s93_103, s93_106, s93_107, s93_108, s93_109, s93_112, s93_115, s93_116, s93_119, s93_120, s93_121, s93_124, s93_127, s93_128, s93_131, s93_132, s93_135, s93_138, s93_139, s93_142, c10, c100, c6, eq_self, bnd_l, bnd_r, Option.toList_some, Option.toList_none, List.cons_append, List.nil_append, Nat.add_zero, Nat.zero_add, ↓reduceIte, nI_add, nI_mul, nI_subI, lt_t, lt_f, eq_f, lt_m1, m1_lt, eq_m1, m1_eq, i1, i2, i3, i4, i5]
theorem p_anew1 {a : Int32} (ha : ¬ inR a 10) : exC X 94 [.ref 0, .int a] (WW σ t) = exT 2 (WW σ t) := by
  have i1 := k_needCarNo (X := X) (h := WW σ t) ha
  rw [ent_94]
  simp (disch := omega) only [s94_0, s94_1, s94_4, s94_5, s94_8, s94_11, s94_14, s94_15, s94_18, s94_21, s94_22, s94_25, c10, c100, c6, eq_self, bnd_l, bnd_r, Option.toList_some, Option.toList_none, List.cons_append, List.nil_append, Nat.add_zero, Nat.zero_add, ↓reduceIte, nI_add, nI_mul, nI_subI, lt_t, lt_f, eq_f, lt_m1, m1_lt, eq_m1, m1_eq, i1]
theorem p_anew0 {c : Nat} (hA : IA σ N) (hB : IB σ) (hS : ∀ j, j < N → σ 36 j = nI 2 → SG σ N j) (hC : CH σ N) (hc : c < 10) : exC X 94 [.ref 0, .int (nI c)] (WW σ t) = ans (smF (σ 23) (σ 24) c N + pfF (σ 36) (σ 37) (σ 38) (σ 39) (σ 11) (σ 12) c N + tyF (σ 27) c 100) (WW σ t) := by
  have i1 := k_needCar (X := X) (h := WW σ t) hc
  have i2 := k_reckonAll (X := X) (t := t) hA hB hS hC
  have i3 := k_totalCard (X := X) (t := t) hA hB hc
  rw [ent_94]
  simp (disch := omega) only [s94_0, s94_1, s94_4, s94_5, s94_8, s94_11, s94_14, s94_15, s94_18, s94_21, s94_22, s94_25, c10, c100, c6, eq_self, bnd_l, bnd_r, Option.toList_some, Option.toList_none, List.cons_append, List.nil_append, Nat.add_zero, Nat.zero_add, ↓reduceIte, nI_add, nI_mul, nI_subI, lt_t, lt_f, eq_f, lt_m1, m1_lt, eq_m1, m1_eq, i1, i2, i3]
theorem p_ranked1 {a : Int32} (ha : ¬ inR a 10) : exC X 95 [.ref 0, .int a] (WW σ t) = exT 1 (WW σ t) := by
  have i1 := nr_no (X := X) (h := WW σ t) (b := 9) (by omega) ha
  rw [ent_95]
  simp (disch := omega) only [s95_0, s95_1, s95_2, s95_4, s95_7, s95_8, s95_11, s95_14, s95_15, s95_18, s95_19, s95_22, s95_25, s95_26, s95_29, c10, c100, c6, eq_self, bnd_l, bnd_r, Option.toList_some, Option.toList_none, List.cons_append, List.nil_append, Nat.add_zero, Nat.zero_add, ↓reduceIte, nI_add, nI_mul, nI_subI, lt_t, lt_f, eq_f, lt_m1, m1_lt, eq_m1, m1_eq, i1]
theorem p_ranked0 {p : Nat} (hA : IA σ N) (hs : N = 0 → ∀ c, c < 10 → σ 11 c = -1) (hp : p < 10) (hu : ∀ a b, a < 10 → b < 10 → rkC (nI 0) σ N 34 a = nI p → rkC (nI 0) σ N 34 b = nI p → a = b) : exC X 95 [.ref 0, .int (nI p)] (WW σ t) = ans (plcF (rkC (nI 0) σ N 34) (nI p) 10) (WW (rkC (nI 0) σ N) t) := by
  have i1 := nr_in (X := X) (h := WW σ t) (a := 0) (b := 9) (j := p) (by omega) (by omega) (by omega)
  have i3 := k_reckon4 (X := X) (t := t) (Or.inl rfl) hA hs
  have i4 := k_carAt4 (X := X) (σ := rkC (nI 0) σ N) (t := t) hu
  rw [ent_95]
  simp (disch := omega) only [s95_0, s95_1, s95_2, s95_4, s95_7, s95_8, s95_11, s95_14, s95_15, s95_18, s95_19, s95_22, s95_25, s95_26, s95_29, c10, c100, c6, eq_self, bnd_l, bnd_r, Option.toList_some, Option.toList_none, List.cons_append, List.nil_append, Nat.add_zero, Nat.zero_add, ↓reduceIte, nI_add, nI_mul, nI_subI, lt_t, lt_f, eq_f, lt_m1, m1_lt, eq_m1, m1_eq, i1, i3, i4]
theorem p_points1 {a : Int32} (ha : ¬ inR a 10) : exC X 97 [.ref 0, .int a] (WW σ t) = exT 2 (WW σ t) := by
  have i1 := k_needCarNo (X := X) (h := WW σ t) ha
  rw [ent_97]
  simp (disch := omega) only [s97_0, s97_1, s97_4, s97_5, s97_8, s97_9, s97_12, c10, c100, c6, eq_self, bnd_l, bnd_r, Option.toList_some, Option.toList_none, List.cons_append, List.nil_append, Nat.add_zero, Nat.zero_add, ↓reduceIte, nI_add, nI_mul, nI_subI, lt_t, lt_f, eq_f, lt_m1, m1_lt, eq_m1, m1_eq, i1]
theorem p_points0 {c : Nat} (hR : RES σ r) (hc : c < 10) : exC X 97 [.ref 0, .int (nI c)] (WW σ t) = ans (nI (sumV (σ 54) r c)) (WW σ t) := by
  have i1 := k_needCar (X := X) (h := WW σ t) hc
  have i2 := k_sumOf5 (X := X) (t := t) hR hc
  rw [ent_97]
  simp (disch := omega) only [s97_0, s97_1, s97_4, s97_5, s97_8, s97_9, s97_12, c10, c100, c6, eq_self, bnd_l, bnd_r, Option.toList_some, Option.toList_none, List.cons_append, List.nil_append, Nat.add_zero, Nat.zero_add, ↓reduceIte, nI_add, nI_mul, nI_subI, lt_t, lt_f, eq_f, lt_m1, m1_lt, eq_m1, m1_eq, i1, i2]
theorem p_table1 {a : Int32} (ha : ¬ inR a 10) : exC X 98 [.ref 0, .int a] (WW σ t) = exT 1 (WW σ t) := by
  have i1 := nr_no (X := X) (h := WW σ t) (b := 9) (by omega) ha
  rw [ent_98]
  simp (disch := omega) only [s98_0, s98_1, s98_2, s98_4, s98_7, s98_8, s98_11, s98_12, s98_15, c10, c100, c6, eq_self, bnd_l, bnd_r, Option.toList_some, Option.toList_none, List.cons_append, List.nil_append, Nat.add_zero, Nat.zero_add, ↓reduceIte, nI_add, nI_mul, nI_subI, lt_t, lt_f, eq_f, lt_m1, m1_lt, eq_m1, m1_eq, i1]
theorem p_table0 {p : Nat} (hR : RES σ r) (hp : p < 10) : exC X 98 [.ref 0, .int (nI p)] (WW σ t) = ans (plcF (fun c => nI (tbN (σ 54) r c)) (nI p) 10) (WW σ t) := by
  have i1 := nr_in (X := X) (h := WW σ t) (a := 0) (b := 9) (j := p) (by omega) (by omega) (by omega)
  have i2 := k_carAt5 (X := X) (t := t) hR hp
  rw [ent_98]
  simp (disch := omega) only [s98_0, s98_1, s98_2, s98_4, s98_7, s98_8, s98_11, s98_12, s98_15, c10, c100, c6, eq_self, bnd_l, bnd_r, Option.toList_some, Option.toList_none, List.cons_append, List.nil_append, Nat.add_zero, Nat.zero_add, ↓reduceIte, nI_add, nI_mul, nI_subI, lt_t, lt_f, eq_f, lt_m1, m1_lt, eq_m1, m1_eq, i1, i2]
end CMP9
