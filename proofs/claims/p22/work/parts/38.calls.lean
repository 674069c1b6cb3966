/-! THE CLASS: calls -/
/-- an exception: 0 state, 1 argument, 2 index -/
abbrev exT (e : Nat) (h : rH) : Option rR := some (.inr e, h, 1, 6)
section CMP8
variable {X : rX} {h : rH} {σ : Nat → Nat → Int32} {t : rH} {N r : Nat}
theorem k_needRange {v a b : Int32} : exC X 101 [.int v, .int a, .int b] h = if v < a then exT 1 h else if b < v then exT 1 h else ansV h := by
  rw [ent_101]
  by_cases h1 : v < a
  · simp (disch := omega) only [s101_0, s101_1, s101_2, s101_5, s101_6, s101_7, s101_10, s101_20, c10, c100, c6, eq_self, bnd_l, bnd_r, Option.toList_some, Option.toList_none, List.cons_append, List.nil_append, Nat.add_zero, Nat.zero_add, ↓reduceIte, nI_add, nI_mul, nI_subI, lt_t, lt_f, eq_f, lt_m1, m1_lt, eq_m1, m1_eq, h1]
  · by_cases h2 : b < v
    · simp (disch := omega) only [s101_0, s101_1, s101_2, s101_5, s101_6, s101_7, s101_10, s101_20, c10, c100, c6, eq_self, bnd_l, bnd_r, Option.toList_some, Option.toList_none, List.cons_append, List.nil_append, Nat.add_zero, Nat.zero_add, ↓reduceIte, nI_add, nI_mul, nI_subI, lt_t, lt_f, eq_f, lt_m1, m1_lt, eq_m1, m1_eq, h1, h2]
    · simp (disch := omega) only [s101_0, s101_1, s101_2, s101_5, s101_6, s101_7, s101_10, s101_20, c10, c100, c6, eq_self, bnd_l, bnd_r, Option.toList_some, Option.toList_none, List.cons_append, List.nil_append, Nat.add_zero, Nat.zero_add, ↓reduceIte, nI_add, nI_mul, nI_subI, lt_t, lt_f, eq_f, lt_m1, m1_lt, eq_m1, m1_eq, h1, h2]
theorem nr_in {a b j : Nat} (ha : a ≤ j) (hb : j ≤ b) (hb2 : b < 2 ^ 31) : exC X 101 [.int (nI j), .int (nI a), .int (nI b)] h = ansV h := by
  rw [k_needRange, if_neg (nI_nlt (by omega) (by omega)), if_neg (nI_nlt (by omega) (by omega))]
theorem nr_no {v : Int32} {b : Nat} (hb : b < 2 ^ 31) (hv : ¬ inR v (b + 1)) : exC X 101 [.int v, .int (nI 0), .int (nI b)] h = exT 1 h := by
  rw [k_needRange]
  rcases inR_not hb hv with h1 | ⟨h1, h2⟩
  · rw [if_pos h1]
  · rw [if_neg h1, if_pos h2]
theorem k_needCar {c : Nat} (hc : c < 10) : exC X 99 [.int (nI c)] h = ansV h := by
  rw [ent_99]
  simp (disch := omega) only [s99_0, s99_1, s99_4, s99_5, s99_7, s99_10, s99_20, c10, c100, c6, eq_self, bnd_l, bnd_r, Option.toList_some, Option.toList_none, List.cons_append, List.nil_append, Nat.add_zero, Nat.zero_add, ↓reduceIte, nI_add, nI_mul, nI_subI, lt_t, lt_f, eq_f, lt_m1, m1_lt, eq_m1, m1_eq]
theorem k_needCarNo {v : Int32} (hv : ¬ inR v 10) : exC X 99 [.int v] h = exT 2 h := by
  rw [ent_99]
  rcases inR_lt (by omega) hv with h1 | ⟨h1, h2⟩
  · simp (disch := omega) only [s99_0, s99_1, s99_4, s99_5, s99_7, s99_10, s99_20, c10, c100, c6, eq_self, bnd_l, bnd_r, Option.toList_some, Option.toList_none, List.cons_append, List.nil_append, Nat.add_zero, Nat.zero_add, ↓reduceIte, nI_add, nI_mul, nI_subI, lt_t, lt_f, eq_f, lt_m1, m1_lt, eq_m1, m1_eq, h1]
  · simp (disch := omega) only [s99_0, s99_1, s99_4, s99_5, s99_7, s99_10, s99_20, c10, c100, c6, eq_self, bnd_l, bnd_r, Option.toList_some, Option.toList_none, List.cons_append, List.nil_append, Nat.add_zero, Nat.zero_add, ↓reduceIte, nI_add, nI_mul, nI_subI, lt_t, lt_f, eq_f, lt_m1, m1_lt, eq_m1, m1_eq, h1, h2]
theorem k_needItem {i : Nat} (hA : IA σ N) (hi : i < N) : exC X 100 [.ref 0, .int (nI i)] (WW σ t) = ansV (WW σ t) := by
  have i1 := k_has (X := X) (t := t) hA hi
  rw [ent_100]
  simp (disch := omega) only [s100_0, s100_1, s100_4, s100_7, s100_8, s100_11, s100_14, s100_24, c10, c100, c6, eq_self, bnd_l, bnd_r, Option.toList_some, Option.toList_none, List.cons_append, List.nil_append, Nat.add_zero, Nat.zero_add, ↓reduceIte, nI_add, nI_mul, nI_subI, lt_t, lt_f, eq_f, lt_m1, m1_lt, eq_m1, m1_eq, i1]
theorem k_needItemNo {v : Int32} (hA : IA σ N) (hv : ¬ inR v N) : exC X 100 [.ref 0, .int v] (WW σ t) = exT 2 (WW σ t) := by
  have i1 := k_hasNo (X := X) (t := t) hA hv
  rw [ent_100]
  simp (disch := omega) only [s100_0, s100_1, s100_4, s100_7, s100_8, s100_11, s100_14, s100_24, c10, c100, c6, eq_self, bnd_l, bnd_r, Option.toList_some, Option.toList_none, List.cons_append, List.nil_append, Nat.add_zero, Nat.zero_add, ↓reduceIte, nI_add, nI_mul, nI_subI, lt_t, lt_f, eq_f, lt_m1, m1_lt, eq_m1, m1_eq, i1]
theorem k_needKind {i : Nat} {x : Int32} (hA : IA σ N) (hi : i < N) : exC X 102 [.ref 0, .int (nI i), .int x] (WW σ t) = if σ 36 i = x then ansV (WW σ t) else exT 1 (WW σ t) := by
  have i1 := k_kindOf (X := X) (t := t) hA hi
  rw [ent_102]
  by_cases h1 : σ 36 i = x
  · simp (disch := omega) only [s102_0, s102_1, s102_4, s102_7, s102_8, s102_11, s102_12, s102_15, s102_25, c10, c100, c6, eq_self, bnd_l, bnd_r, Option.toList_some, Option.toList_none, List.cons_append, List.nil_append, Nat.add_zero, Nat.zero_add, ↓reduceIte, nI_add, nI_mul, nI_subI, lt_t, lt_f, eq_f, lt_m1, m1_lt, eq_m1, m1_eq, i1, h1]
  · simp (disch := omega) only [s102_0, s102_1, s102_4, s102_7, s102_8, s102_11, s102_12, s102_15, s102_25, c10, c100, c6, eq_self, bnd_l, bnd_r, Option.toList_some, Option.toList_none, List.cons_append, List.nil_append, Nat.add_zero, Nat.zero_add, ↓reduceIte, nI_add, nI_mul, nI_subI, lt_t, lt_f, eq_f, lt_m1, m1_lt, eq_m1, m1_eq, i1, h1]
theorem k_needControl {i : Nat} (hA : IA σ N) (hi : i < N) : exC X 103 [.ref 0, .int (nI i)] (WW σ t) = if σ 36 i = nI 2 then exT 1 (WW σ t) else ansV (WW σ t) := by
  have i1 := k_kindOf (X := X) (t := t) hA hi
  rw [ent_103]
  by_cases h1 : σ 36 i = nI 2
  · simp (disch := omega) only [s103_0, s103_1, s103_4, s103_7, s103_8, s103_11, s103_12, s103_15, s103_25, c10, c100, c6, eq_self, bnd_l, bnd_r, Option.toList_some, Option.toList_none, List.cons_append, List.nil_append, Nat.add_zero, Nat.zero_add, ↓reduceIte, nI_add, nI_mul, nI_subI, lt_t, lt_f, eq_f, lt_m1, m1_lt, eq_m1, m1_eq, i1, h1]
  · simp (disch := omega) only [s103_0, s103_1, s103_4, s103_7, s103_8, s103_11, s103_12, s103_15, s103_25, c10, c100, c6, eq_self, bnd_l, bnd_r, Option.toList_some, Option.toList_none, List.cons_append, List.nil_append, Nat.add_zero, Nat.zero_add, ↓reduceIte, nI_add, nI_mul, nI_subI, lt_t, lt_f, eq_f, lt_m1, m1_lt, eq_m1, m1_eq, i1, h1]
theorem k_needStart {c i : Nat} (hA : IA σ N) (hi : i < N) (h1 : 1 ≤ i) (hc : c < 10) (hk : ¬ σ 36 (i - 1) = nI 2) : exC X 104 [.ref 0, .int (nI c), .int (nI i)] (WW σ t) = if σ 11 (10 * (i - 1) + c) = -1 then exT 0 (WW σ t) else ansV (WW σ t) := by
  have i1 := k_ahead (X := X) (t := t) hA hi h1
  rw [show ahdF (σ 36) i = i - 1 from if_neg hk] at i1
  have i2 := k_stampAt (X := X) (t := t) hA (by omega : i - 1 < N) hc
  rw [ent_104]
  by_cases h1 : σ 11 (10 * (i - 1) + c) = -1
  · simp (disch := omega) only [s104_0, s104_1, s104_4, s104_7, s104_8, s104_9, s104_12, s104_15, s104_16, s104_19, s104_22, s104_23, s104_26, s104_36, c10, c100, c6, eq_self, bnd_l, bnd_r, Option.toList_some, Option.toList_none, List.cons_append, List.nil_append, Nat.add_zero, Nat.zero_add, ↓reduceIte, nI_add, nI_mul, nI_subI, lt_t, lt_f, eq_f, lt_m1, m1_lt, eq_m1, m1_eq, i1, i2, h1]
  · simp (disch := omega) only [s104_0, s104_1, s104_4, s104_7, s104_8, s104_9, s104_12, s104_15, s104_16, s104_19, s104_22, s104_23, s104_26, s104_36, c10, c100, c6, eq_self, bnd_l, bnd_r, Option.toList_some, Option.toList_none, List.cons_append, List.nil_append, Nat.add_zero, Nat.zero_add, ↓reduceIte, nI_add, nI_mul, nI_subI, lt_t, lt_f, eq_f, lt_m1, m1_lt, eq_m1, m1_eq, i1, i2, h1]
theorem p_item1 {a b : Int32} (hn : ¬ okI a b) : exC X 80 [.ref 0, .int a, .int b] (WW σ t) = exT 1 (WW σ t) := by
  rw [ent_80]
  by_cases h1 : inR a 3
  · have i1 : exC X 101 [.int a, .int (nI 0), .int (nI 2)] (WW σ t) = ansV (WW σ t) := by
      obtain ⟨j, hj, rfl⟩ := h1
      exact nr_in (by omega) (by omega) (by omega)
    by_cases h2 : a = nI 2
    · subst h2
      have h3 : ¬ b = nI 0 := fun z => hn ⟨h1, fun _ => z, fun q => absurd rfl q⟩
      have i2 := nr_no (X := X) (h := WW σ t) (b := 0) (by omega) (inR_1 h3)
      simp (disch := omega) only [s80_0, s80_1, s80_2, s80_3, s80_6, s80_7, s80_8, s80_9, s80_10, s80_13, s80_14, s80_17, s80_20, s80_23, s80_24, s80_27, s80_30, s80_33, s80_34, s80_37, s80_40, s80_41, s80_44, s80_47, s80_57, s80_58, s80_61, s80_64, s80_65, s80_66, s80_69, c10, c100, c6, eq_self, bnd_l, bnd_r, Option.toList_some, Option.toList_none, List.cons_append, List.nil_append, Nat.add_zero, Nat.zero_add, ↓reduceIte, nI_add, nI_mul, nI_subI, lt_t, lt_f, eq_f, lt_m1, m1_lt, eq_m1, m1_eq, i1, i2]
    · have h3 : ¬ inR b 2001 := fun z => hn ⟨h1, fun q => absurd q h2, fun _ => z⟩
      have i2 := nr_no (X := X) (h := WW σ t) (b := 2000) (by omega) h3
      simp (disch := omega) only [s80_0, s80_1, s80_2, s80_3, s80_6, s80_7, s80_8, s80_9, s80_10, s80_13, s80_14, s80_17, s80_20, s80_23, s80_24, s80_27, s80_30, s80_33, s80_34, s80_37, s80_40, s80_41, s80_44, s80_47, s80_57, s80_58, s80_61, s80_64, s80_65, s80_66, s80_69, c10, c100, c6, eq_self, bnd_l, bnd_r, Option.toList_some, Option.toList_none, List.cons_append, List.nil_append, Nat.add_zero, Nat.zero_add, ↓reduceIte, nI_add, nI_mul, nI_subI, lt_t, lt_f, eq_f, lt_m1, m1_lt, eq_m1, m1_eq, i1, i2, h2]
  · have i1 := nr_no (X := X) (h := WW σ t) (b := 2) (by omega) h1
    simp (disch := omega) only [s80_0, s80_1, s80_2, s80_3, s80_6, s80_7, s80_8, s80_9, s80_10, s80_13, s80_14, s80_17, s80_20, s80_23, s80_24, s80_27, s80_30, s80_33, s80_34, s80_37, s80_40, s80_41, s80_44, s80_47, s80_57, s80_58, s80_61, s80_64, s80_65, s80_66, s80_69, c10, c100, c6, eq_self, bnd_l, bnd_r, Option.toList_some, Option.toList_none, List.cons_append, List.nil_append, Nat.add_zero, Nat.zero_add, ↓reduceIte, nI_add, nI_mul, nI_subI, lt_t, lt_f, eq_f, lt_m1, m1_lt, eq_m1, m1_eq, i1]
theorem okI_nr {a b : Int32} (ho : okI a b) : exC X 101 [.int a, .int (nI 0), .int (nI 2)] h = ansV h ∧ (a = nI 2 → exC X 101 [.int b, .int (nI 0), .int (nI 0)] h = ansV h) ∧ (¬ a = nI 2 → exC X 101 [.int b, .int (nI 0), .int (nI 2000)] h = ansV h) := by
  obtain ⟨⟨j, hj, rfl⟩, h2, h3⟩ := ho
  refine ⟨nr_in (by omega) (by omega) (by omega), fun q => ?_, fun q => ?_⟩
  · rw [h2 q]
    exact nr_in (by omega) (by omega) (by omega)
  · obtain ⟨m, hm, rfl⟩ := h3 q
    exact nr_in (by omega) (by omega) (by omega)
theorem p_item2 {a b : Int32} (hA : IA σ N) (h9 : σ 9 = σ 39) (ho : okI a b) (hc : ¬ canP σ N a) : exC X 80 [.ref 0, .int a, .int b] (WW σ t) = exT 0 (WW σ t) := by
  obtain ⟨j1, j2, j3⟩ := okI_nr (X := X) (h := WW σ t) ho
  have ib := k_isBegun (X := X) (t := t) h9
  have it := k_takes (X := X) (t := t) (a := a) hA
  rw [ent_80]
  by_cases hb : σ 39 0 = -1
  · have i1 := ib.1 hb
    have i2 := it.2 (fun q => hc ⟨q.1, q.2.1, q.2.2, hb⟩)
    by_cases h4 : a = nI 2
    · have j4 := j2 h4
      rw [h4] at j1 i2
      simp (disch := omega) only [s80_0, s80_1, s80_2, s80_3, s80_6, s80_7, s80_8, s80_9, s80_10, s80_13, s80_14, s80_17, s80_20, s80_23, s80_24, s80_27, s80_30, s80_33, s80_34, s80_37, s80_40, s80_41, s80_44, s80_47, s80_57, s80_58, s80_61, s80_64, s80_65, s80_66, s80_69, c10, c100, c6, eq_self, bnd_l, bnd_r, Option.toList_some, Option.toList_none, List.cons_append, List.nil_append, Nat.add_zero, Nat.zero_add, ↓reduceIte, nI_add, nI_mul, nI_subI, lt_t, lt_f, eq_f, lt_m1, m1_lt, eq_m1, m1_eq, j1, j4, i1, i2, h4]
    · have j4 := j3 h4
      simp (disch := omega) only [s80_0, s80_1, s80_2, s80_3, s80_6, s80_7, s80_8, s80_9, s80_10, s80_13, s80_14, s80_17, s80_20, s80_23, s80_24, s80_27, s80_30, s80_33, s80_34, s80_37, s80_40, s80_41, s80_44, s80_47, s80_57, s80_58, s80_61, s80_64, s80_65, s80_66, s80_69, c10, c100, c6, eq_self, bnd_l, bnd_r, Option.toList_some, Option.toList_none, List.cons_append, List.nil_append, Nat.add_zero, Nat.zero_add, ↓reduceIte, nI_add, nI_mul, nI_subI, lt_t, lt_f, eq_f, lt_m1, m1_lt, eq_m1, m1_eq, j1, j4, i1, i2, h4]
  · have i1 := ib.2 hb
    by_cases h4 : a = nI 2
    · have j4 := j2 h4
      rw [h4] at j1
      simp (disch := omega) only [s80_0, s80_1, s80_2, s80_3, s80_6, s80_7, s80_8, s80_9, s80_10, s80_13, s80_14, s80_17, s80_20, s80_23, s80_24, s80_27, s80_30, s80_33, s80_34, s80_37, s80_40, s80_41, s80_44, s80_47, s80_57, s80_58, s80_61, s80_64, s80_65, s80_66, s80_69, c10, c100, c6, eq_self, bnd_l, bnd_r, Option.toList_some, Option.toList_none, List.cons_append, List.nil_append, Nat.add_zero, Nat.zero_add, ↓reduceIte, nI_add, nI_mul, nI_subI, lt_t, lt_f, eq_f, lt_m1, m1_lt, eq_m1, m1_eq, j1, j4, i1, h4]
    · have j4 := j3 h4
      simp (disch := omega) only [s80_0, s80_1, s80_2, s80_3, s80_6, s80_7, s80_8, s80_9, s80_10, s80_13, s80_14, s80_17, s80_20, s80_23, s80_24, s80_27, s80_30, s80_33, s80_34, s80_37, s80_40, s80_41, s80_44, s80_47, s80_57, s80_58, s80_61, s80_64, s80_65, s80_66, s80_69, c10, c100, c6, eq_self, bnd_l, bnd_r, Option.toList_some, Option.toList_none, List.cons_append, List.nil_append, Nat.add_zero, Nat.zero_add, ↓reduceIte, nI_add, nI_mul, nI_subI, lt_t, lt_f, eq_f, lt_m1, m1_lt, eq_m1, m1_eq, j1, j4, i1, h4]
theorem p_item0 {a b : Int32} (hA : IA σ N) (h9 : σ 9 = σ 39) (ho : okI a b) (hc : canP σ N a) : exC X 80 [.ref 0, .int a, .int b] (WW σ t) = ans (nI N) (WW (addC σ N a b) t) := by
  obtain ⟨j1, j2, j3⟩ := okI_nr (X := X) (h := WW σ t) ho
  have hp : takP σ N a := ⟨hc.1, hc.2.1, hc.2.2.1⟩
  have i1 := (k_isBegun (X := X) (t := t) h9).1 hc.2.2.2
  have i2 := (k_takes (X := X) (t := t) (a := a) hA).1 hp
  have i3 := k_add (X := X) (t := t) (b := b) hA hp
  rw [ent_80]
  by_cases h4 : a = nI 2
  · have j4 := j2 h4
    subst h4
    simp (disch := omega) only [s80_0, s80_1, s80_2, s80_3, s80_6, s80_7, s80_8, s80_9, s80_10, s80_13, s80_14, s80_17, s80_20, s80_23, s80_24, s80_27, s80_30, s80_33, s80_34, s80_37, s80_40, s80_41, s80_44, s80_47, s80_57, s80_58, s80_61, s80_64, s80_65, s80_66, s80_69, c10, c100, c6, eq_self, bnd_l, bnd_r, Option.toList_some, Option.toList_none, List.cons_append, List.nil_append, Nat.add_zero, Nat.zero_add, ↓reduceIte, nI_add, nI_mul, nI_subI, lt_t, lt_f, eq_f, lt_m1, m1_lt, eq_m1, m1_eq, j1, j4, i1, i2, i3]
  · have j4 := j3 h4
    simp (disch := omega) only [s80_0, s80_1, s80_2, s80_3, s80_6, s80_7, s80_8, s80_9, s80_10, s80_13, s80_14, s80_17, s80_20, s80_23, s80_24, s80_27, s80_30, s80_33, s80_34, s80_37, s80_40, s80_41, s80_44, s80_47, s80_57, s80_58, s80_61, s80_64, s80_65, s80_66, s80_69, c10, c100, c6, eq_self, bnd_l, bnd_r, Option.toList_some, Option.toList_none, List.cons_append, List.nil_append, Nat.add_zero, Nat.zero_add, ↓reduceIte, nI_add, nI_mul, nI_subI, lt_t, lt_f, eq_f, lt_m1, m1_lt, eq_m1, m1_eq, j1, j4, i1, i2, i3, h4]
theorem p_open1 {a b : Int32} (hA : IA σ N) (ha : ¬ inR a N) : exC X 81 [.ref 0, .int a, .int b] (WW σ t) = exT 2 (WW σ t) := by
  have i1 := k_needItemNo (X := X) (t := t) hA ha
  rw [ent_81]
  simp (disch := omega) only [s81_0, s81_1, s81_2, s81_5, s81_6, s81_7, s81_8, s81_11, s81_12, s81_13, s81_14, s81_17, s81_18, s81_21, s81_22, s81_25, s81_28, s81_38, s81_39, s81_42, s81_43, s81_44, s81_47, c10, c100, c6, eq_self, bnd_l, bnd_r, Option.toList_some, Option.toList_none, List.cons_append, List.nil_append, Nat.add_zero, Nat.zero_add, ↓reduceIte, nI_add, nI_mul, nI_subI, lt_t, lt_f, eq_f, lt_m1, m1_lt, eq_m1, m1_eq, i1]
theorem p_open2 {i : Nat} {b : Int32} (hA : IA σ N) (hi : i < N) (hb : ¬ (inR b 3 ∧ σ 36 i = nI 0)) : exC X 81 [.ref 0, .int (nI i), .int b] (WW σ t) = exT 1 (WW σ t) := by
  have i1 := k_needItem (X := X) (t := t) hA hi
  have i3 := k_needKind (X := X) (t := t) (x := nI 0) hA hi
  rw [ent_81]
  by_cases h1 : inR b 3
  · rw [if_neg (fun z => hb ⟨h1, z⟩)] at i3
    obtain ⟨j, hj, rfl⟩ := h1
    have i2 := nr_in (X := X) (h := WW σ t) (a := 0) (b := 2) (j := j) (by omega) (by omega) (by omega)
    simp (disch := omega) only [s81_0, s81_1, s81_2, s81_5, s81_6, s81_7, s81_8, s81_11, s81_12, s81_13, s81_14, s81_17, s81_18, s81_21, s81_22, s81_25, s81_28, s81_38, s81_39, s81_42, s81_43, s81_44, s81_47, c10, c100, c6, eq_self, bnd_l, bnd_r, Option.toList_some, Option.toList_none, List.cons_append, List.nil_append, Nat.add_zero, Nat.zero_add, ↓reduceIte, nI_add, nI_mul, nI_subI, lt_t, lt_f, eq_f, lt_m1, m1_lt, eq_m1, m1_eq, i1, i2, i3]
  · have i2 := nr_no (X := X) (h := WW σ t) (b := 2) (by omega) h1
    simp (disch := omega) only [s81_0, s81_1, s81_2, s81_5, s81_6, s81_7, s81_8, s81_11, s81_12, s81_13, s81_14, s81_17, s81_18, s81_21, s81_22, s81_25, s81_28, s81_38, s81_39, s81_42, s81_43, s81_44, s81_47, c10, c100, c6, eq_self, bnd_l, bnd_r, Option.toList_some, Option.toList_none, List.cons_append, List.nil_append, Nat.add_zero, Nat.zero_add, ↓reduceIte, nI_add, nI_mul, nI_subI, lt_t, lt_f, eq_f, lt_m1, m1_lt, eq_m1, m1_eq, i1, i2]
theorem p_open3 {i w : Nat} (hA : IA σ N) (h9 : σ 9 = σ 39) (hi : i < N) (hw : w ≤ 2) (hk : σ 36 i = nI 0) (hn : ¬ (σ 39 i = -1 ∧ opnF (σ 36) (σ 39) i)) : exC X 81 [.ref 0, .int (nI i), .int (nI w)] (WW σ t) = exT 0 (WW σ t) := by
  have i1 := k_needItem (X := X) (t := t) hA hi
  have i2 := nr_in (X := X) (h := WW σ t) (a := 0) (b := 2) (j := w) (by omega) (by omega) (by omega)
  have i3 := k_needKind (X := X) (t := t) (x := nI 0) hA hi
  rw [if_pos hk] at i3
  have i4 := (k_isNext (X := X) (t := t) hA h9 hi).2 (fun q => hn ⟨q.2, q.1⟩)
  rw [ent_81]
  simp (disch := omega) only [s81_0, s81_1, s81_2, s81_5, s81_6, s81_7, s81_8, s81_11, s81_12, s81_13, s81_14, s81_17, s81_18, s81_21, s81_22, s81_25, s81_28, s81_38, s81_39, s81_42, s81_43, s81_44, s81_47, c10, c100, c6, eq_self, bnd_l, bnd_r, Option.toList_some, Option.toList_none, List.cons_append, List.nil_append, Nat.add_zero, Nat.zero_add, ↓reduceIte, nI_add, nI_mul, nI_subI, lt_t, lt_f, eq_f, lt_m1, m1_lt, eq_m1, m1_eq, i1, i2, i3, i4]
theorem p_open0 {i w : Nat} (hA : IA σ N) (h9 : σ 9 = σ 39) (hi : i < N) (hw : w ≤ 2) (hk : σ 36 i = nI 0) (h1 : σ 39 i = -1) (h2 : opnF (σ 36) (σ 39) i) {v : Int32} {τ : Nat → Nat → Int32} (hm : exC X 39 [.ref 30, .int (nI i), .int (nI w)] (WW σ t) = ans v (WW τ t)) : exC X 81 [.ref 0, .int (nI i), .int (nI w)] (WW σ t) = ans v (WW τ t) := by
  have i1 := k_needItem (X := X) (t := t) hA hi
  have i2 := nr_in (X := X) (h := WW σ t) (a := 0) (b := 2) (j := w) (by omega) (by omega) (by omega)
  have i3 := k_needKind (X := X) (t := t) (x := nI 0) hA hi
  rw [if_pos hk] at i3
  have i4 := (k_isNext (X := X) (t := t) hA h9 hi).1 ⟨h2, h1⟩
  rw [ent_81]
  simp (disch := omega) only [s81_0, s81_1, s81_2, s81_5, s81_6, s81_7, s81_8, s81_11, s81_12, s81_13, s81_14, s81_17, s81_18, s81_21, s81_22, s81_25, s81_28, s81_38, s81_39, s81_42, s81_43, s81_44, s81_47, c10, c100, c6, eq_self, bnd_l, bnd_r, Option.toList_some, Option.toList_none, List.cons_append, List.nil_append, Nat.add_zero, Nat.zero_add, ↓reduceIte, nI_add, nI_mul, nI_subI, lt_t, lt_f, eq_f, lt_m1, m1_lt, eq_m1, m1_eq, i1, i2, i3, i4, hm]
theorem p_starts1 {a b : Int32} (hA : IA σ N) (ha : ¬ inR a N) : exC X 82 [.ref 0, .int a, .int b] (WW σ t) = exT 2 (WW σ t) := by
  have i1 := k_needItemNo (X := X) (t := t) hA ha
  rw [ent_82]
  simp (disch := omega) only [s82_0, s82_1, s82_2, s82_5, s82_6, s82_7, s82_9, s82_12, s82_13, s82_14, s82_15, s82_18, s82_19, s82_22, s82_25, s82_26, s82_27, s82_30, c10, c100, c6, eq_self, bnd_l, bnd_r, Option.toList_some, Option.toList_none, List.cons_append, List.nil_append, Nat.add_zero, Nat.zero_add, ↓reduceIte, nI_add, nI_mul, nI_subI, lt_t, lt_f, eq_f, lt_m1, m1_lt, eq_m1, m1_eq, i1]
theorem p_starts2 {i : Nat} {b : Int32} (hA : IA σ N) (hi : i < N) (hb : ¬ (inR b 10 ∧ σ 36 i = nI 0)) : exC X 82 [.ref 0, .int (nI i), .int b] (WW σ t) = exT 1 (WW σ t) := by
  have i1 := k_needItem (X := X) (t := t) hA hi
  have i3 := k_needKind (X := X) (t := t) (x := nI 0) hA hi
  rw [ent_82]
  by_cases h1 : inR b 10
  · rw [if_neg (fun z => hb ⟨h1, z⟩)] at i3
    obtain ⟨j, hj, rfl⟩ := h1
    have i2 := nr_in (X := X) (h := WW σ t) (a := 0) (b := 9) (j := j) (by omega) (by omega) (by omega)
    simp (disch := omega) only [s82_0, s82_1, s82_2, s82_5, s82_6, s82_7, s82_9, s82_12, s82_13, s82_14, s82_15, s82_18, s82_19, s82_22, s82_25, s82_26, s82_27, s82_30, c10, c100, c6, eq_self, bnd_l, bnd_r, Option.toList_some, Option.toList_none, List.cons_append, List.nil_append, Nat.add_zero, Nat.zero_add, ↓reduceIte, nI_add, nI_mul, nI_subI, lt_t, lt_f, eq_f, lt_m1, m1_lt, eq_m1, m1_eq, i1, i2, i3]
  · have i2 := nr_no (X := X) (h := WW σ t) (b := 9) (by omega) h1
    simp (disch := omega) only [s82_0, s82_1, s82_2, s82_5, s82_6, s82_7, s82_9, s82_12, s82_13, s82_14, s82_15, s82_18, s82_19, s82_22, s82_25, s82_26, s82_27, s82_30, c10, c100, c6, eq_self, bnd_l, bnd_r, Option.toList_some, Option.toList_none, List.cons_append, List.nil_append, Nat.add_zero, Nat.zero_add, ↓reduceIte, nI_add, nI_mul, nI_subI, lt_t, lt_f, eq_f, lt_m1, m1_lt, eq_m1, m1_eq, i1, i2]
theorem p_starts0 {i j : Nat} (hA : IA σ N) (hB : IB σ) (hi : i < N) (hj : j < 10) (hk : σ 36 i = nI 0) : exC X 82 [.ref 0, .int (nI i), .int (nI j)] (WW σ t) = ans (if j < cnt (σ 39 i) then σ 38 (10 * i + j) else -1) (WW σ t) := by
  have hN := hA.1
  have i1 := k_needItem (X := X) (t := t) hA hi
  have i2 := nr_in (X := X) (h := WW σ t) (a := 0) (b := 9) (j := j) (by omega) (by omega) (by omega)
  have i3 := k_needKind (X := X) (t := t) (x := nI 0) hA hi
  rw [if_pos hk] at i3
  have i4 := k_carAt (X := X) (t := t) (g := i) hB (by omega) hj
  rw [ent_82]
  by_cases h1 : j < cnt (σ 39 i)
  · have i5 := i4.1 h1
    rw [if_pos h1, ((hB.1 i (by omega)).2 j h1).1]
    simp (disch := omega) only [s82_0, s82_1, s82_2, s82_5, s82_6, s82_7, s82_9, s82_12, s82_13, s82_14, s82_15, s82_18, s82_19, s82_22, s82_25, s82_26, s82_27, s82_30, c10, c100, c6, eq_self, bnd_l, bnd_r, Option.toList_some, Option.toList_none, List.cons_append, List.nil_append, Nat.add_zero, Nat.zero_add, ↓reduceIte, nI_add, nI_mul, nI_subI, lt_t, lt_f, eq_f, lt_m1, m1_lt, eq_m1, m1_eq, i1, i2, i3, i5]
  · have i5 := i4.2 h1
    rw [if_neg h1]
    simp (disch := omega) only [s82_0, s82_1, s82_2, s82_5, s82_6, s82_7, s82_9, s82_12, s82_13, s82_14, s82_15, s82_18, s82_19, s82_22, s82_25, s82_26, s82_27, s82_30, c10, c100, c6, eq_self, bnd_l, bnd_r, Option.toList_some, Option.toList_none, List.cons_append, List.nil_append, Nat.add_zero, Nat.zero_add, ↓reduceIte, nI_add, nI_mul, nI_subI, lt_t, lt_f, eq_f, lt_m1, m1_lt, eq_m1, m1_eq, i1, i2, i3, i5]
theorem p_due1 {a b : Int32} (hA : IA σ N) (ha : ¬ (inR a 10 ∧ inR b N)) : exC X 83 [.ref 0, .int a, .int b] (WW σ t) = exT 2 (WW σ t) := by
  rw [ent_83]
  by_cases h1 : inR a 10
  · have i2 := k_needItemNo (X := X) (t := t) hA (fun z => ha ⟨h1, z⟩)
    obtain ⟨j, hj, rfl⟩ := h1
    have i1 := k_needCar (X := X) (h := WW σ t) hj
    simp (disch := omega) only [s83_0, s83_1, s83_4, s83_5, s83_6, s83_9, s83_10, s83_11, s83_14, s83_15, s83_18, s83_21, s83_22, s83_25, s83_28, s83_29, s83_32, s83_35, s83_36, s83_37, s83_40, s83_43, s83_44, c10, c100, c6, eq_self, bnd_l, bnd_r, Option.toList_some, Option.toList_none, List.cons_append, List.nil_append, Nat.add_zero, Nat.zero_add, ↓reduceIte, nI_add, nI_mul, nI_subI, lt_t, lt_f, eq_f, lt_m1, m1_lt, eq_m1, m1_eq, i1, i2]
  · have i1 := k_needCarNo (X := X) (h := WW σ t) h1
    simp (disch := omega) only [s83_0, s83_1, s83_4, s83_5, s83_6, s83_9, s83_10, s83_11, s83_14, s83_15, s83_18, s83_21, s83_22, s83_25, s83_28, s83_29, s83_32, s83_35, s83_36, s83_37, s83_40, s83_43, s83_44, c10, c100, c6, eq_self, bnd_l, bnd_r, Option.toList_some, Option.toList_none, List.cons_append, List.nil_append, Nat.add_zero, Nat.zero_add, ↓reduceIte, nI_add, nI_mul, nI_subI, lt_t, lt_f, eq_f, lt_m1, m1_lt, eq_m1, m1_eq, i1]
theorem p_due2 {c i : Nat} (hA : IA σ N) (hc : c < 10) (hi : i < N) (hk : σ 36 i = nI 2) : exC X 83 [.ref 0, .int (nI c), .int (nI i)] (WW σ t) = exT 1 (WW σ t) := by
  have i1 := k_needCar (X := X) (h := WW σ t) hc
  have i2 := k_needItem (X := X) (t := t) hA hi
  have i3 := k_needControl (X := X) (t := t) hA hi
  rw [if_pos hk] at i3
  rw [ent_83]
  simp (disch := omega) only [s83_0, s83_1, s83_4, s83_5, s83_6, s83_9, s83_10, s83_11, s83_14, s83_15, s83_18, s83_21, s83_22, s83_25, s83_28, s83_29, s83_32, s83_35, s83_36, s83_37, s83_40, s83_43, s83_44, c10, c100, c6, eq_self, bnd_l, bnd_r, Option.toList_some, Option.toList_none, List.cons_append, List.nil_append, Nat.add_zero, Nat.zero_add, ↓reduceIte, nI_add, nI_mul, nI_subI, lt_t, lt_f, eq_f, lt_m1, m1_lt, eq_m1, m1_eq, i1, i2, i3]
/-- when a car is due, by the class -/
noncomputable def dueD (σ : Nat → Nat → Int32) (c i : Nat) : Int32 := haveI := Classical.propDecidable (runP σ c); if runP σ c then dueC σ c i else -1
theorem dueD_t {c i : Nat} (h : runP σ c) : dueD σ c i = dueC σ c i := by unfold dueD; exact if_pos h
theorem dueD_f {c i : Nat} (h : ¬ runP σ c) : dueD σ c i = -1 := by unfold dueD; exact if_neg h
theorem p_due0 {c i : Nat} (hA : IA σ N) (hB : IB σ) (hc : c < 10) (hi : i < N) (hk : ¬ σ 36 i = nI 2) : exC X 83 [.ref 0, .int (nI c), .int (nI i)] (WW σ t) = ans (dueD σ c i) (WW σ t) := by
  have i1 := k_needCar (X := X) (h := WW σ t) hc
  have i2 := k_needItem (X := X) (t := t) hA hi
  have i3 := k_needControl (X := X) (t := t) hA hi
  rw [if_neg hk] at i3
  have i4 := k_isRunning (X := X) (σ := σ) (t := t) hc
  have i5 := k_dueAt (X := X) (t := t) hA hB hi hc
  rw [ent_83]
  by_cases h1 : runP σ c
  · have i6 := i4.1 h1
    rw [dueD_t h1]
    simp (disch := omega) only [s83_0, s83_1, s83_4, s83_5, s83_6, s83_9, s83_10, s83_11, s83_14, s83_15, s83_18, s83_21, s83_22, s83_25, s83_28, s83_29, s83_32, s83_35, s83_36, s83_37, s83_40, s83_43, s83_44, c10, c100, c6, eq_self, bnd_l, bnd_r, Option.toList_some, Option.toList_none, List.cons_append, List.nil_append, Nat.add_zero, Nat.zero_add, ↓reduceIte, nI_add, nI_mul, nI_subI, lt_t, lt_f, eq_f, lt_m1, m1_lt, eq_m1, m1_eq, i1, i2, i3, i5, i6]
  · have i6 := i4.2 h1
    rw [dueD_f h1]
    simp (disch := omega) only [s83_0, s83_1, s83_4, s83_5, s83_6, s83_9, s83_10, s83_11, s83_14, s83_15, s83_18, s83_21, s83_22, s83_25, s83_28, s83_29, s83_32, s83_35, s83_36, s83_37, s83_40, s83_43, s83_44, c10, c100, c6, eq_self, bnd_l, bnd_r, Option.toList_some, Option.toList_none, List.cons_append, List.nil_append, Nat.add_zero, Nat.zero_add, ↓reduceIte, nI_add, nI_mul, nI_subI, lt_t, lt_f, eq_f, lt_m1, m1_lt, eq_m1, m1_eq, i1, i2, i3, i6]
theorem p_stamp1 {a b m : Int32} (hA : IA σ N) (ha : ¬ (inR a 10 ∧ inR b N)) : exC X 84 [.ref 0, .int a, .int b, .int m] (WW σ t) = exT 2 (WW σ t) := by
  rw [ent_84]
  by_cases h1 : inR a 10
  · have i2 := k_needItemNo (X := X) (t := t) hA (fun z => ha ⟨h1, z⟩)
    obtain ⟨j, hj, rfl⟩ := h1
    have i1 := k_needCar (X := X) (h := WW σ t) hj
    simp (disch := omega) only [s84_0, s84_1, s84_4, s84_5, s84_6, s84_9, s84_10, s84_11, s84_14, s84_15, s84_16, s84_19, s84_22, s84_23, s84_26, s84_29, s84_30, s84_31, s84_34, s84_37, s84_47, s84_48, s84_51, s84_54, s84_55, s84_56, s84_57, s84_60, c10, c100, c6, eq_self, bnd_l, bnd_r, Option.toList_some, Option.toList_none, List.cons_append, List.nil_append, Nat.add_zero, Nat.zero_add, ↓reduceIte, nI_add, nI_mul, nI_subI, lt_t, lt_f, eq_f, lt_m1, m1_lt, eq_m1, m1_eq, i1, i2]
  · have i1 := k_needCarNo (X := X) (h := WW σ t) h1
    simp (disch := omega) only [s84_0, s84_1, s84_4, s84_5, s84_6, s84_9, s84_10, s84_11, s84_14, s84_15, s84_16, s84_19, s84_22, s84_23, s84_26, s84_29, s84_30, s84_31, s84_34, s84_37, s84_47, s84_48, s84_51, s84_54, s84_55, s84_56, s84_57, s84_60, c10, c100, c6, eq_self, bnd_l, bnd_r, Option.toList_some, Option.toList_none, List.cons_append, List.nil_append, Nat.add_zero, Nat.zero_add, ↓reduceIte, nI_add, nI_mul, nI_subI, lt_t, lt_f, eq_f, lt_m1, m1_lt, eq_m1, m1_eq, i1]
theorem p_stamp2 {c i : Nat} {m : Int32} (hA : IA σ N) (hc : c < 10) (hi : i < N) (hb : ¬ (¬ σ 36 i = nI 2 ∧ inR m 2001)) : exC X 84 [.ref 0, .int (nI c), .int (nI i), .int m] (WW σ t) = exT 1 (WW σ t) := by
  have i1 := k_needCar (X := X) (h := WW σ t) hc
  have i2 := k_needItem (X := X) (t := t) hA hi
  have i3 := k_needControl (X := X) (t := t) hA hi
  rw [ent_84]
  by_cases hk : σ 36 i = nI 2
  · rw [if_pos hk] at i3
    simp (disch := omega) only [s84_0, s84_1, s84_4, s84_5, s84_6, s84_9, s84_10, s84_11, s84_14, s84_15, s84_16, s84_19, s84_22, s84_23, s84_26, s84_29, s84_30, s84_31, s84_34, s84_37, s84_47, s84_48, s84_51, s84_54, s84_55, s84_56, s84_57, s84_60, c10, c100, c6, eq_self, bnd_l, bnd_r, Option.toList_some, Option.toList_none, List.cons_append, List.nil_append, Nat.add_zero, Nat.zero_add, ↓reduceIte, nI_add, nI_mul, nI_subI, lt_t, lt_f, eq_f, lt_m1, m1_lt, eq_m1, m1_eq, i1, i2, i3]
  · rw [if_neg hk] at i3
    have i4 := nr_no (X := X) (h := WW σ t) (b := 2000) (by omega) (fun z => hb ⟨hk, z⟩)
    simp (disch := omega) only [s84_0, s84_1, s84_4, s84_5, s84_6, s84_9, s84_10, s84_11, s84_14, s84_15, s84_16, s84_19, s84_22, s84_23, s84_26, s84_29, s84_30, s84_31, s84_34, s84_37, s84_47, s84_48, s84_51, s84_54, s84_55, s84_56, s84_57, s84_60, c10, c100, c6, eq_self, bnd_l, bnd_r, Option.toList_some, Option.toList_none, List.cons_append, List.nil_append, Nat.add_zero, Nat.zero_add, ↓reduceIte, nI_add, nI_mul, nI_subI, lt_t, lt_f, eq_f, lt_m1, m1_lt, eq_m1, m1_eq, i1, i2, i3, i4]
theorem p_stamp3 {c i m : Nat} (hA : IA σ N) (hB : IB σ) (hc : c < 10) (hi : i < N) (hk : ¬ σ 36 i = nI 2) (hm : m ≤ 2000) (hn : ¬ (runP σ c ∧ σ 11 (10 * i + c) = -1 ∧ ¬ dueC σ c i = -1)) : exC X 84 [.ref 0, .int (nI c), .int (nI i), .int (nI m)] (WW σ t) = exT 0 (WW σ t) := by
  have i1 := k_needCar (X := X) (h := WW σ t) hc
  have i2 := k_needItem (X := X) (t := t) hA hi
  have i3 := k_needControl (X := X) (t := t) hA hi
  rw [if_neg hk] at i3
  have i4 := nr_in (X := X) (h := WW σ t) (a := 0) (b := 2000) (j := m) (by omega) (by omega) (by omega)
  have i5 := (k_takesStamp (X := X) (t := t) hA hB hi hc).2 hn
  rw [ent_84]
  simp (disch := omega) only [s84_0, s84_1, s84_4, s84_5, s84_6, s84_9, s84_10, s84_11, s84_14, s84_15, s84_16, s84_19, s84_22, s84_23, s84_26, s84_29, s84_30, s84_31, s84_34, s84_37, s84_47, s84_48, s84_51, s84_54, s84_55, s84_56, s84_57, s84_60, c10, c100, c6, eq_self, bnd_l, bnd_r, Option.toList_some, Option.toList_none, List.cons_append, List.nil_append, Nat.add_zero, Nat.zero_add, ↓reduceIte, nI_add, nI_mul, nI_subI, lt_t, lt_f, eq_f, lt_m1, m1_lt, eq_m1, m1_eq, i1, i2, i3, i4, i5]
theorem p_stamp0 {c i m : Nat} (hA : IA σ N) (hB : IB σ) (hc : c < 10) (hi : i < N) (hk : ¬ σ 36 i = nI 2) (hm : m ≤ 2000) (hn : runP σ c ∧ σ 11 (10 * i + c) = -1 ∧ ¬ dueC σ c i = -1) : exC X 84 [.ref 0, .int (nI c), .int (nI i), .int (nI m)] (WW σ t) = ans (byF (nI m - dueC σ c i)) (WW (stpC σ c i m (nI m - dueC σ c i)) t) := by
  have i1 := k_needCar (X := X) (h := WW σ t) hc
  have i2 := k_needItem (X := X) (t := t) hA hi
  have i3 := k_needControl (X := X) (t := t) hA hi
  rw [if_neg hk] at i3
  have i4 := nr_in (X := X) (h := WW σ t) (a := 0) (b := 2000) (j := m) (by omega) (by omega) (by omega)
  have i5 := (k_takesStamp (X := X) (t := t) hA hB hi hc).1 hn
  have i6 := k_put (X := X) (t := t) (m := m) hA hB hi hc
  rw [ent_84]
  simp (disch := omega) only [s84_0, s84_1, s84_4, s84_5, s84_6, s84_9, s84_10, s84_11, s84_14, s84_15, s84_16, s84_19, s84_22, s84_23, s84_26, s84_29, s84_30, s84_31, s84_34, s84_37, s84_47, s84_48, s84_51, s84_54, s84_55, s84_56, s84_57, s84_60, c10, c100, c6, eq_self, bnd_l, bnd_r, Option.toList_some, Option.toList_none, List.cons_append, List.nil_append, Nat.add_zero, Nat.zero_add, ↓reduceIte, nI_add, nI_mul, nI_subI, lt_t, lt_f, eq_f, lt_m1, m1_lt, eq_m1, m1_eq, i1, i2, i3, i4, i5, i6]
theorem p_delay1 {a b m : Int32} (hA : IA σ N) (ha : ¬ (inR a N ∧ inR b 10)) : exC X 85 [.ref 0, .int a, .int b, .int m] (WW σ t) = exT 2 (WW σ t) := by
  rw [ent_85]
  by_cases h1 : inR a N
  · have i2 := k_needCarNo (X := X) (h := WW σ t) (v := b) (fun z => ha ⟨h1, z⟩)
    obtain ⟨j, hj, rfl⟩ := h1
    have i1 := k_needItem (X := X) (t := t) hA hj
    simp (disch := omega) only [s85_0, s85_1, s85_2, s85_5, s85_6, s85_9, s85_10, s85_11, s85_12, s85_15, s85_16, s85_17, s85_19, s85_22, s85_23, s85_26, s85_29, s85_30, s85_33, s85_35, s85_36, s85_39, s85_42, s85_44, s85_45, s85_48, s85_50, s85_52, s85_53, s85_56, s85_66, s85_67, s85_70, s85_73, s85_74, s85_76, s85_78, s85_79, s85_82, c10, c100, c6, eq_self, bnd_l, bnd_r, Option.toList_some, Option.toList_none, List.cons_append, List.nil_append, Nat.add_zero, Nat.zero_add, ↓reduceIte, nI_add, nI_mul, nI_subI, lt_t, lt_f, eq_f, lt_m1, m1_lt, eq_m1, m1_eq, i1, i2]
  · have i1 := k_needItemNo (X := X) (t := t) hA h1
    simp (disch := omega) only [s85_0, s85_1, s85_2, s85_5, s85_6, s85_9, s85_10, s85_11, s85_12, s85_15, s85_16, s85_17, s85_19, s85_22, s85_23, s85_26, s85_29, s85_30, s85_33, s85_35, s85_36, s85_39, s85_42, s85_44, s85_45, s85_48, s85_50, s85_52, s85_53, s85_56, s85_66, s85_67, s85_70, s85_73, s85_74, s85_76, s85_78, s85_79, s85_82, c10, c100, c6, eq_self, bnd_l, bnd_r, Option.toList_some, Option.toList_none, List.cons_append, List.nil_append, Nat.add_zero, Nat.zero_add, ↓reduceIte, nI_add, nI_mul, nI_subI, lt_t, lt_f, eq_f, lt_m1, m1_lt, eq_m1, m1_eq, i1]
theorem nr_d {m : Int32} (hm : ¬ okD m) : exC X 101 [.int m, .int (nI 1), .int (nI 60)] h = exT 1 h := by
  rw [k_needRange]
  by_cases h1 : m < nI 1
  · rw [if_pos h1]
  · rw [if_neg h1]
    by_cases h2 : nI 60 < m
    · rw [if_pos h2]
    · refine absurd ?_ hm
      have h3 : ¬ m < nI 0 := fun z => h1 (by
        rw [Int32.lt_iff_toInt_lt] at z ⊢
        rw [nI_toInt (by omega)] at z ⊢
        omega)
      obtain ⟨j, hj, rfl⟩ := inR_of (n := 60) (by omega) h3 h2
      refine ⟨j, ?_, by omega, rfl⟩
      by_cases hj1 : 1 ≤ j
      · exact hj1
      · exact absurd (nI_lt (by omega) (by omega)) h1
theorem nr_dI {m : Int32} (hm : okD m) : exC X 101 [.int m, .int (nI 1), .int (nI 60)] h = ansV h := by
  obtain ⟨j, h1, h2, rfl⟩ := hm
  exact nr_in h1 h2 (by omega)
theorem p_delay2 {c i : Nat} {m : Int32} (hA : IA σ N) (hc : c < 10) (hi : i < N) (hb : ¬ (σ 36 i = nI 1 ∧ okD m)) : exC X 85 [.ref 0, .int (nI i), .int (nI c), .int m] (WW σ t) = exT 1 (WW σ t) := by
  have i1 := k_needCar (X := X) (h := WW σ t) hc
  have i2 := k_needItem (X := X) (t := t) hA hi
  have i3 := k_needKind (X := X) (t := t) (x := nI 1) hA hi
  rw [ent_85]
  by_cases hk : σ 36 i = nI 1
  · rw [if_pos hk] at i3
    have i4 := nr_d (X := X) (h := WW σ t) (m := m) (fun z => hb ⟨hk, z⟩)
    simp (disch := omega) only [s85_0, s85_1, s85_2, s85_5, s85_6, s85_9, s85_10, s85_11, s85_12, s85_15, s85_16, s85_17, s85_19, s85_22, s85_23, s85_26, s85_29, s85_30, s85_33, s85_35, s85_36, s85_39, s85_42, s85_44, s85_45, s85_48, s85_50, s85_52, s85_53, s85_56, s85_66, s85_67, s85_70, s85_73, s85_74, s85_76, s85_78, s85_79, s85_82, c10, c100, c6, eq_self, bnd_l, bnd_r, Option.toList_some, Option.toList_none, List.cons_append, List.nil_append, Nat.add_zero, Nat.zero_add, ↓reduceIte, nI_add, nI_mul, nI_subI, lt_t, lt_f, eq_f, lt_m1, m1_lt, eq_m1, m1_eq, i1, i2, i3, i4]
  · rw [if_neg hk] at i3
    simp (disch := omega) only [s85_0, s85_1, s85_2, s85_5, s85_6, s85_9, s85_10, s85_11, s85_12, s85_15, s85_16, s85_17, s85_19, s85_22, s85_23, s85_26, s85_29, s85_30, s85_33, s85_35, s85_36, s85_39, s85_42, s85_44, s85_45, s85_48, s85_50, s85_52, s85_53, s85_56, s85_66, s85_67, s85_70, s85_73, s85_74, s85_76, s85_78, s85_79, s85_82, c10, c100, c6, eq_self, bnd_l, bnd_r, Option.toList_some, Option.toList_none, List.cons_append, List.nil_append, Nat.add_zero, Nat.zero_add, ↓reduceIte, nI_add, nI_mul, nI_subI, lt_t, lt_f, eq_f, lt_m1, m1_lt, eq_m1, m1_eq, i1, i2, i3]
theorem p_delay3 {c i : Nat} {m : Int32} (hA : IA σ N) (hB : IB σ) (hc : c < 10) (hi : i < N) (hk : σ 36 i = nI 1) (hm : okD m) (hp : plcF (fun k => σ 38 (10 * legF (σ 36) i + k)) (nI c) (cnt (σ 39 (legF (σ 36) i))) = -1) : exC X 85 [.ref 0, .int (nI i), .int (nI c), .int m] (WW σ t) = exT 0 (WW σ t) := by
  have hN := hA.1
  have hg := legF_le (σ 36) i
  have i1 := k_needCar (X := X) (h := WW σ t) hc
  have i2 := k_needItem (X := X) (t := t) hA hi
  have i3 := k_needKind (X := X) (t := t) (x := nI 1) hA hi
  rw [if_pos hk] at i3
  have i4 := nr_dI (X := X) (h := WW σ t) hm
  have i5 := k_legOf (X := X) (t := t) hA hi
  have i6 := k_placeOf (X := X) (t := t) (g := legF (σ 36) i) hB (by omega) hc
  rw [hp] at i6
  rw [ent_85]
  simp (disch := omega) only [s85_0, s85_1, s85_2, s85_5, s85_6, s85_9, s85_10, s85_11, s85_12, s85_15, s85_16, s85_17, s85_19, s85_22, s85_23, s85_26, s85_29, s85_30, s85_33, s85_35, s85_36, s85_39, s85_42, s85_44, s85_45, s85_48, s85_50, s85_52, s85_53, s85_56, s85_66, s85_67, s85_70, s85_73, s85_74, s85_76, s85_78, s85_79, s85_82, c10, c100, c6, eq_self, bnd_l, bnd_r, Option.toList_some, Option.toList_none, List.cons_append, List.nil_append, Nat.add_zero, Nat.zero_add, ↓reduceIte, nI_add, nI_mul, nI_subI, lt_t, lt_f, eq_f, lt_m1, m1_lt, eq_m1, m1_eq, i1, i2, i3, i4, i5, i6]
theorem p_delay0 {c i a : Nat} {m : Int32} (hA : IA σ N) (hB : IB σ) (hc : c < 10) (hi : i < N) (hk : σ 36 i = nI 1) (hm : okD m) (ha : a < cnt (σ 39 (legF (σ 36) i))) (hp : plcF (fun k => σ 38 (10 * legF (σ 36) i + k)) (nI c) (cnt (σ 39 (legF (σ 36) i))) = nI a) : exC X 85 [.ref 0, .int (nI i), .int (nI c), .int m] (WW σ t) =
    ans (nI (dnF (σ 11) (σ 38) i (legF (σ 36) i) a (cnt (σ 39 (legF (σ 36) i)) - a))) (WW (sA σ 12 (dlF (σ 11) (σ 38) (σ 12) m i (legF (σ 36) i) a (cnt (σ 39 (legF (σ 36) i)) - a))) t) := by
  have hN := hA.1
  have hg := legF_le (σ 36) i
  have hle := okM_le (hB.1 (legF (σ 36) i) (by omega)).1
  have i1 := k_needCar (X := X) (h := WW σ t) hc
  have i2 := k_needItem (X := X) (t := t) hA hi
  have i3 := k_needKind (X := X) (t := t) (x := nI 1) hA hi
  rw [if_pos hk] at i3
  have i4 := nr_dI (X := X) (h := WW σ t) hm
  have i5 := k_legOf (X := X) (t := t) hA hi
  have i6 := k_placeOf (X := X) (t := t) (g := legF (σ 36) i) hB (by omega) hc
  rw [hp] at i6
  have i7 := k_giveDelay (X := X) (t := t) (i := i) (a := a) (g := legF (σ 36) i) (b := m) hA hB hi (by omega) (by omega)
  rw [ent_85]
  simp (disch := omega) only [s85_0, s85_1, s85_2, s85_5, s85_6, s85_9, s85_10, s85_11, s85_12, s85_15, s85_16, s85_17, s85_19, s85_22, s85_23, s85_26, s85_29, s85_30, s85_33, s85_35, s85_36, s85_39, s85_42, s85_44, s85_45, s85_48, s85_50, s85_52, s85_53, s85_56, s85_66, s85_67, s85_70, s85_73, s85_74, s85_76, s85_78, s85_79, s85_82, c10, c100, c6, eq_self, bnd_l, bnd_r, Option.toList_some, Option.toList_none, List.cons_append, List.nil_append, Nat.add_zero, Nat.zero_add, ↓reduceIte, nI_add, nI_mul, nI_subI, lt_t, lt_f, eq_f, lt_m1, m1_lt, eq_m1, m1_eq, i1, i2, i3, i4, i5, i6, i7]
end CMP8
