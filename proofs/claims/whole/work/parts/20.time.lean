/-! THE REFERENCE: times -/
section REF2
variable {X : rX} {h : rH} {σ : Nat → Nat → Int32} {t : rH}
/-- when a car starts in a stage -/
def startF (sp : Nat → Int32) (c i : Nat) : Int32 := if sp (10 * (i - 1) + c) = -1 then -1 else nI 600 * (sp (10 * (i - 1) + c) + nI 3)
theorem c_startOf {c i : Nat} (hc : c < 10) (h1 : 1 ≤ i) (hi : i < 20) : exC X 125 [.ref 35, .int (nI c), .int (nI i)] (WW σ t) = ans (startF (σ 40) c i) (WW σ t) := by
  rw [ent_125]
  by_cases hb : σ 40 (10 * (i - 1) + c) = -1
  · simp (disch := omega) only [s125_0, s125_1, s125_4, s125_6, s125_7, s125_8, s125_9, s125_10, s125_11, s125_12, s125_13, s125_14, s125_15, s125_16, s125_19, s125_20, s125_23, s125_26, s125_27, s125_28, s125_29, s125_30, eq_self, bnd_l, bnd_r, Option.toList_some, Option.toList_none, List.cons_append, List.nil_append, Nat.add_zero, Nat.zero_add, ↓reduceIte, nI_add, nI_mul, nI_subI, lt_t, lt_f, eq_f, lt_m1, m1_lt, eq_m1, m1_eq, hb, startF]
  · simp (disch := omega) only [s125_0, s125_1, s125_4, s125_6, s125_7, s125_8, s125_9, s125_10, s125_11, s125_12, s125_13, s125_14, s125_15, s125_16, s125_19, s125_20, s125_23, s125_26, s125_27, s125_28, s125_29, s125_30, eq_self, bnd_l, bnd_r, Option.toList_some, Option.toList_none, List.cons_append, List.nil_append, Nat.add_zero, Nat.zero_add, ↓reduceIte, nI_add, nI_mul, nI_subI, lt_t, lt_f, eq_f, lt_m1, m1_lt, eq_m1, m1_eq, hb, startF]
def floorF (v b : Int32) : Int32 := if v < nI 0 then -((b - nI 1 - v) / b) else v / b
theorem c_floor {v b : Int32} (hb : ¬ b = 0) : exC X 126 [.int v, .int b] h = ans (floorF v b) h := by
  rw [ent_126]
  by_cases h1 : v < nI 0
  · simp (disch := omega) only [s126_0, s126_1, s126_4, s126_5, s126_7, s126_10, s126_11, s126_12, s126_13, s126_14, s126_15, s126_17, s126_18, eq_self, bnd_l, bnd_r, Option.toList_some, Option.toList_none, List.cons_append, List.nil_append, Nat.add_zero, Nat.zero_add, ↓reduceIte, nI_add, nI_mul, nI_subI, lt_t, lt_f, eq_f, lt_m1, m1_lt, eq_m1, m1_eq, h1, floorF, s126_6 hb, s126_16 hb]
  · simp (disch := omega) only [s126_0, s126_1, s126_4, s126_5, s126_7, s126_10, s126_11, s126_12, s126_13, s126_14, s126_15, s126_17, s126_18, eq_self, bnd_l, bnd_r, Option.toList_some, Option.toList_none, List.cons_append, List.nil_append, Nat.add_zero, Nat.zero_add, ↓reduceIte, nI_add, nI_mul, nI_subI, lt_t, lt_f, eq_f, lt_m1, m1_lt, eq_m1, m1_eq, h1, floorF, s126_6 hb, s126_16 hb]
/-- the sum of what the beam is more than the hand, of the first j -/
def dsF (bm hd : Nat → Int32) (b : Nat) : Nat → Int32
  | 0 => nI 0
  | j + 1 => dsF bm hd b j + (if bm (b + j) = -1 then nI 0 else if hd (b + j) = -1 then nI 0 else bm (b + j) - hd (b + j))
def dcF (bm hd : Nat → Int32) (b : Nat) : Nat → Nat
  | 0 => 0
  | j + 1 => dcF bm hd b j + (if bm (b + j) = -1 then 0 else if hd (b + j) = -1 then 0 else 1)
theorem dcF_le (bm hd : Nat → Int32) (b : Nat) : ∀ j, dcF bm hd b j ≤ j
  | 0 => Nat.le_refl _
  | j + 1 => by
    unfold dcF
    have := dcF_le bm hd b j
    split
    · omega
    · split <;> omega
def meanF (bm hd : Nat → Int32) (i : Nat) : Int32 := if dcF bm hd (10 * i) 10 = 0 then nI 0 else floorF (dsF bm hd (10 * i) 10) (nI (dcF bm hd (10 * i) 10))
theorem l_meanOf {i : Nat} (hi : i < 20) : ∀ n j, j + n = 10 → ∀ o5, exM X 127 10 [some (.ref 35), some (.int (nI i)), some (.int (dsF (σ 42) (σ 43) (10 * i) j)), some (.int (nI (dcF (σ 42) (σ 43) (10 * i) j))), some (.int (nI (10 * i + j))), o5] [] (WW σ t) 0 0 = ans (meanF (σ 42) (σ 43) i) (WW σ t) := by
  intro n
  induction n with
  | zero =>
    intro j hj o5
    have e : j = 10 := by omega
    subst e
    have hle := dcF_le (σ 42) (σ 43) (10 * i) 10
    by_cases h0 : dcF (σ 42) (σ 43) (10 * i) 10 = 0
    · simp (disch := omega) only [s127_0, s127_1, s127_2, s127_3, s127_4, s127_6, s127_7, s127_8, s127_10, s127_12, s127_14, s127_15, s127_16, s127_18, s127_19, s127_22, s127_23, s127_26, s127_28, s127_29, s127_30, s127_33, s127_34, s127_37, s127_39, s127_40, s127_41, s127_44, s127_45, s127_48, s127_49, s127_51, s127_52, s127_54, s127_57, s127_58, s127_61, s127_63, s127_64, s127_65, s127_68, s127_70, s127_71, s127_72, s127_75, s127_76, s127_77, s127_78, s127_79, s127_81, s127_84, s127_85, s127_88, s127_89, s127_90, s127_91, s127_94, s127_97, s127_98, s127_101, s127_102, s127_105, s127_106, s127_107, s127_110, eq_self, bnd_l, bnd_r, Option.toList_some, Option.toList_none, List.cons_append, List.nil_append, Nat.add_zero, Nat.zero_add, ↓reduceIte, nI_add, nI_mul, nI_subI, lt_t, lt_f, eq_f, lt_m1, m1_lt, eq_m1, m1_eq, h0, meanF]
    · have hf := c_floor (X := X) (h := WW σ t) (v := dsF (σ 42) (σ 43) (10 * i) 10) (b := nI (dcF (σ 42) (σ 43) (10 * i) 10)) (nI_nz (by omega) (by omega))
      simp (disch := omega) only [s127_0, s127_1, s127_2, s127_3, s127_4, s127_6, s127_7, s127_8, s127_10, s127_12, s127_14, s127_15, s127_16, s127_18, s127_19, s127_22, s127_23, s127_26, s127_28, s127_29, s127_30, s127_33, s127_34, s127_37, s127_39, s127_40, s127_41, s127_44, s127_45, s127_48, s127_49, s127_51, s127_52, s127_54, s127_57, s127_58, s127_61, s127_63, s127_64, s127_65, s127_68, s127_70, s127_71, s127_72, s127_75, s127_76, s127_77, s127_78, s127_79, s127_81, s127_84, s127_85, s127_88, s127_89, s127_90, s127_91, s127_94, s127_97, s127_98, s127_101, s127_102, s127_105, s127_106, s127_107, s127_110, eq_self, bnd_l, bnd_r, Option.toList_some, Option.toList_none, List.cons_append, List.nil_append, Nat.add_zero, Nat.zero_add, ↓reduceIte, nI_add, nI_mul, nI_subI, lt_t, lt_f, eq_f, lt_m1, m1_lt, eq_m1, m1_eq, h0, meanF, hf]
  | succ n ih =>
    intro j hj o5
    rw [s127_10]
    have i1 := ih (j + 1) (by omega)
    have hle := dcF_le (σ 42) (σ 43) (10 * i) j
    by_cases hb : σ 42 (10 * i + j) = -1
    · simp only [dsF, dcF, hb, if_true] at i1
      simp (disch := omega) only [s127_0, s127_1, s127_2, s127_3, s127_4, s127_6, s127_7, s127_8, s127_12, s127_14, s127_15, s127_16, s127_18, s127_19, s127_22, s127_23, s127_26, s127_28, s127_29, s127_30, s127_33, s127_34, s127_37, s127_39, s127_40, s127_41, s127_44, s127_45, s127_48, s127_49, s127_51, s127_52, s127_54, s127_57, s127_58, s127_61, s127_63, s127_64, s127_65, s127_68, s127_70, s127_71, s127_72, s127_75, s127_76, s127_77, s127_78, s127_79, s127_81, s127_84, s127_85, s127_88, s127_89, s127_90, s127_91, s127_94, s127_97, s127_98, s127_101, s127_102, s127_105, s127_106, s127_107, s127_110, eq_self, bnd_l, bnd_r, Option.toList_some, Option.toList_none, List.cons_append, List.nil_append, Nat.add_zero, Nat.zero_add, ↓reduceIte, nI_add, nI_mul, nI_subI, lt_t, lt_f, eq_f, lt_m1, m1_lt, eq_m1, m1_eq, hb, i1]
      exact i1 _
    · by_cases hd : σ 43 (10 * i + j) = -1
      · simp only [dsF, dcF, hb, hd, if_true, if_false] at i1
        simp (disch := omega) only [s127_0, s127_1, s127_2, s127_3, s127_4, s127_6, s127_7, s127_8, s127_12, s127_14, s127_15, s127_16, s127_18, s127_19, s127_22, s127_23, s127_26, s127_28, s127_29, s127_30, s127_33, s127_34, s127_37, s127_39, s127_40, s127_41, s127_44, s127_45, s127_48, s127_49, s127_51, s127_52, s127_54, s127_57, s127_58, s127_61, s127_63, s127_64, s127_65, s127_68, s127_70, s127_71, s127_72, s127_75, s127_76, s127_77, s127_78, s127_79, s127_81, s127_84, s127_85, s127_88, s127_89, s127_90, s127_91, s127_94, s127_97, s127_98, s127_101, s127_102, s127_105, s127_106, s127_107, s127_110, eq_self, bnd_l, bnd_r, Option.toList_some, Option.toList_none, List.cons_append, List.nil_append, Nat.add_zero, Nat.zero_add, ↓reduceIte, nI_add, nI_mul, nI_subI, lt_t, lt_f, eq_f, lt_m1, m1_lt, eq_m1, m1_eq, hb, hd, i1]
        exact i1 _
      · simp only [dsF, dcF, hb, hd, if_false] at i1
        simp (disch := omega) only [s127_0, s127_1, s127_2, s127_3, s127_4, s127_6, s127_7, s127_8, s127_12, s127_14, s127_15, s127_16, s127_18, s127_19, s127_22, s127_23, s127_26, s127_28, s127_29, s127_30, s127_33, s127_34, s127_37, s127_39, s127_40, s127_41, s127_44, s127_45, s127_48, s127_49, s127_51, s127_52, s127_54, s127_57, s127_58, s127_61, s127_63, s127_64, s127_65, s127_68, s127_70, s127_71, s127_72, s127_75, s127_76, s127_77, s127_78, s127_79, s127_81, s127_84, s127_85, s127_88, s127_89, s127_90, s127_91, s127_94, s127_97, s127_98, s127_101, s127_102, s127_105, s127_106, s127_107, s127_110, eq_self, bnd_l, bnd_r, Option.toList_some, Option.toList_none, List.cons_append, List.nil_append, Nat.add_zero, Nat.zero_add, ↓reduceIte, nI_add, nI_mul, nI_subI, lt_t, lt_f, eq_f, lt_m1, m1_lt, eq_m1, m1_eq, hb, hd, i1]
        exact i1 _
theorem c_meanOf {i : Nat} (hi : i < 20) : exC X 127 [.ref 35, .int (nI i)] (WW σ t) = ans (meanF (σ 42) (σ 43) i) (WW σ t) := by
  rw [ent_127]
  have hL := l_meanOf (X := X) (σ := σ) (t := t) hi 10 0 (by omega) none
  simp only [dsF, dcF, Nat.add_zero] at hL
  simp (disch := omega) only [s127_0, s127_1, s127_2, s127_3, s127_4, s127_6, s127_7, s127_8, s127_12, s127_14, s127_15, s127_16, s127_18, s127_19, s127_22, s127_23, s127_26, s127_28, s127_29, s127_30, s127_33, s127_34, s127_37, s127_39, s127_40, s127_41, s127_44, s127_45, s127_48, s127_49, s127_51, s127_52, s127_54, s127_57, s127_58, s127_61, s127_63, s127_64, s127_65, s127_68, s127_70, s127_71, s127_72, s127_75, s127_76, s127_77, s127_78, s127_79, s127_81, s127_84, s127_85, s127_88, s127_89, s127_90, s127_91, s127_94, s127_97, s127_98, s127_101, s127_102, s127_105, s127_106, s127_107, s127_110, eq_self, bnd_l, bnd_r, Option.toList_some, Option.toList_none, List.cons_append, List.nil_append, Nat.add_zero, Nat.zero_add, ↓reduceIte, nI_add, nI_mul, nI_subI, lt_t, lt_f, eq_f, lt_m1, m1_lt, eq_m1, m1_eq, hL]
def ownF (sp bm hd : Nat → Int32) (c i : Nat) : Int32 :=
  if bm (10 * i + c) = -1 then (if hd (10 * i + c) = -1 then -1 else if hd (10 * i + c) + meanF bm hd i - startF sp c i < nI 0 then nI 0 else hd (10 * i + c) + meanF bm hd i - startF sp c i)
  else if bm (10 * i + c) - startF sp c i < nI 0 then nI 0 else bm (10 * i + c) - startF sp c i
theorem c_ownTime {c i : Nat} (hc : c < 10) (h1 : 1 ≤ i) (hi : i < 20) : exC X 128 [.ref 35, .int (nI c), .int (nI i)] (WW σ t) = ans (ownF (σ 40) (σ 42) (σ 43) c i) (WW σ t) := by
  rw [ent_128]
  have hs := c_startOf (X := X) (σ := σ) (t := t) hc h1 hi
  have hm := c_meanOf (X := X) (σ := σ) (t := t) hi
  by_cases hb : σ 42 (10 * i + c) = -1
  · by_cases hd : σ 43 (10 * i + c) = -1
    · simp (disch := omega) only [s128_0, s128_2, s128_3, s128_4, s128_5, s128_6, s128_7, s128_8, s128_11, s128_12, s128_13, s128_14, s128_17, s128_18, s128_21, s128_22, s128_23, s128_24, s128_27, s128_28, s128_29, s128_30, s128_33, s128_34, s128_35, s128_36, s128_39, s128_40, s128_43, s128_44, s128_45, s128_48, s128_49, s128_52, s128_53, s128_54, s128_55, s128_56, s128_59, s128_60, s128_61, s128_62, s128_63, s128_66, s128_67, s128_69, s128_71, s128_74, s128_75, s128_78, s128_80, eq_self, bnd_l, bnd_r, Option.toList_some, Option.toList_none, List.cons_append, List.nil_append, Nat.add_zero, Nat.zero_add, ↓reduceIte, nI_add, nI_mul, nI_subI, lt_t, lt_f, eq_f, lt_m1, m1_lt, eq_m1, m1_eq, hb, hd, ownF]
    · by_cases hn : σ 43 (10 * i + c) + meanF (σ 42) (σ 43) i - startF (σ 40) c i < nI 0
      · simp (disch := omega) only [s128_0, s128_2, s128_3, s128_4, s128_5, s128_6, s128_7, s128_8, s128_11, s128_12, s128_13, s128_14, s128_17, s128_18, s128_21, s128_22, s128_23, s128_24, s128_27, s128_28, s128_29, s128_30, s128_33, s128_34, s128_35, s128_36, s128_39, s128_40, s128_43, s128_44, s128_45, s128_48, s128_49, s128_52, s128_53, s128_54, s128_55, s128_56, s128_59, s128_60, s128_61, s128_62, s128_63, s128_66, s128_67, s128_69, s128_71, s128_74, s128_75, s128_78, s128_80, eq_self, bnd_l, bnd_r, Option.toList_some, Option.toList_none, List.cons_append, List.nil_append, Nat.add_zero, Nat.zero_add, ↓reduceIte, nI_add, nI_mul, nI_subI, lt_t, lt_f, eq_f, lt_m1, m1_lt, eq_m1, m1_eq, hb, hd, hs, hm, hn, ownF]
      · simp (disch := omega) only [s128_0, s128_2, s128_3, s128_4, s128_5, s128_6, s128_7, s128_8, s128_11, s128_12, s128_13, s128_14, s128_17, s128_18, s128_21, s128_22, s128_23, s128_24, s128_27, s128_28, s128_29, s128_30, s128_33, s128_34, s128_35, s128_36, s128_39, s128_40, s128_43, s128_44, s128_45, s128_48, s128_49, s128_52, s128_53, s128_54, s128_55, s128_56, s128_59, s128_60, s128_61, s128_62, s128_63, s128_66, s128_67, s128_69, s128_71, s128_74, s128_75, s128_78, s128_80, eq_self, bnd_l, bnd_r, Option.toList_some, Option.toList_none, List.cons_append, List.nil_append, Nat.add_zero, Nat.zero_add, ↓reduceIte, nI_add, nI_mul, nI_subI, lt_t, lt_f, eq_f, lt_m1, m1_lt, eq_m1, m1_eq, hb, hd, hs, hm, hn, ownF]
  · by_cases hn : σ 42 (10 * i + c) - startF (σ 40) c i < nI 0
    · simp (disch := omega) only [s128_0, s128_2, s128_3, s128_4, s128_5, s128_6, s128_7, s128_8, s128_11, s128_12, s128_13, s128_14, s128_17, s128_18, s128_21, s128_22, s128_23, s128_24, s128_27, s128_28, s128_29, s128_30, s128_33, s128_34, s128_35, s128_36, s128_39, s128_40, s128_43, s128_44, s128_45, s128_48, s128_49, s128_52, s128_53, s128_54, s128_55, s128_56, s128_59, s128_60, s128_61, s128_62, s128_63, s128_66, s128_67, s128_69, s128_71, s128_74, s128_75, s128_78, s128_80, eq_self, bnd_l, bnd_r, Option.toList_some, Option.toList_none, List.cons_append, List.nil_append, Nat.add_zero, Nat.zero_add, ↓reduceIte, nI_add, nI_mul, nI_subI, lt_t, lt_f, eq_f, lt_m1, m1_lt, eq_m1, m1_eq, hb, hs, hm, hn, ownF]
    · simp (disch := omega) only [s128_0, s128_2, s128_3, s128_4, s128_5, s128_6, s128_7, s128_8, s128_11, s128_12, s128_13, s128_14, s128_17, s128_18, s128_21, s128_22, s128_23, s128_24, s128_27, s128_28, s128_29, s128_30, s128_33, s128_34, s128_35, s128_36, s128_39, s128_40, s128_43, s128_44, s128_45, s128_48, s128_49, s128_52, s128_53, s128_54, s128_55, s128_56, s128_59, s128_60, s128_61, s128_62, s128_63, s128_66, s128_67, s128_69, s128_71, s128_74, s128_75, s128_78, s128_80, eq_self, bnd_l, bnd_r, Option.toList_some, Option.toList_none, List.cons_append, List.nil_append, Nat.add_zero, Nat.zero_add, ↓reduceIte, nI_add, nI_mul, nI_subI, lt_t, lt_f, eq_f, lt_m1, m1_lt, eq_m1, m1_eq, hb, hs, hm, hn, ownF]
/-- the car at a place of a leg, as a number -/
def carF (od : Nat → Int32) (g p : Nat) : Nat := cnt (od (10 * g + p))
/-- the own time of the car at a place, if it was not held up; none -/
def freF (sp bm hd hl od : Nat → Int32) (i g p : Nat) : Int32 := if hl (10 * i + carF od g p) = nI 0 then ownF sp bm hd (carF od g p) i else -1
def nxdF (fr : Nat → Int32) : Nat → Int32
  | 0 => -1
  | k + 1 => if fr k = -1 then nxdF fr k else fr k
/-- from k on, j places -/
def nxuF (fr : Nat → Int32) : Nat → Nat → Int32
  | _, 0 => -1
  | k, j + 1 => if fr k = -1 then nxuF fr (k + 1) j else fr k
/-- the order of a leg holds cars -/
def okO (od mn : Nat → Int32) (g : Nat) : Prop := okM (mn g) ∧ ∀ p, p < cnt (mn g) → od (10 * g + p) = nI (carF od g p) ∧ carF od g p < 10
theorem nz1 : nI 0 + (-1) = -1 := by decide +kernel
theorem l_nextD {i g : Nat} {at9 : Int32} (h1 : 1 ≤ i) (hi : i < 20) (hg : g < 20) (hO : okO (σ 38) (σ 39) g) : ∀ k, k < cnt (σ 39 g) → ∀ o6, exM X 129 12 [some (.ref 35), some (.int (nI i)), some (.int at9), some (.int (-1)), some (.int (nI g)), some (.int (nI k)), o6] [] (WW σ t) 0 0 = ans (nxdF (freF (σ 40) (σ 42) (σ 43) (σ 44) (σ 38) i g) (k + 1)) (WW σ t) := by
  have hlt := okM_lt hO.1
  have hle := okM_le hO.1
  intro k
  induction k with
  | zero =>
    intro hk o6
    obtain ⟨e1, e2⟩ := hO.2 0 hk
    simp only [Nat.add_zero] at e1
    have hk' : (0 < cnt (σ 39 g)) = True := eq_true hk
    rw [s129_12]
    have ho := c_ownTime (X := X) (σ := σ) (t := t) e2 h1 hi
    by_cases hh : σ 44 (10 * i + carF (σ 38) g 0) = nI 0
    · by_cases hw : ownF (σ 40) (σ 42) (σ 43) (carF (σ 38) g 0) i = -1
      · simp (disch := omega) only [s129_0, s129_1, s129_2, s129_5, s129_7, s129_8, s129_9, s129_10, s129_14, s129_17, s129_19, s129_20, s129_23, s129_25, s129_26, s129_29, s129_30, s129_33, s129_35, s129_37, s129_38, s129_40, s129_41, s129_42, s129_44, s129_45, s129_48, s129_50, s129_51, s129_52, s129_54, s129_55, s129_56, s129_59, s129_60, s129_62, s129_63, s129_66, s129_67, s129_70, s129_71, s129_73, s129_74, s129_77, s129_78, s129_80, s129_81, s129_82, s129_84, s129_87, s129_88, eq_self, bnd_l, bnd_r, Option.toList_some, Option.toList_none, List.cons_append, List.nil_append, Nat.add_zero, Nat.zero_add, ↓reduceIte, nI_add, nI_mul, nI_subI, lt_t, lt_f, eq_f, lt_m1, m1_lt, eq_m1, m1_eq, hlt, hk', e1, hh, ho, hw, nxdF, freF]
        rw [s129_12]
        simp (disch := omega) only [s129_0, s129_1, s129_2, s129_5, s129_7, s129_8, s129_9, s129_10, s129_14, s129_17, s129_19, s129_20, s129_23, s129_25, s129_26, s129_29, s129_30, s129_33, s129_35, s129_37, s129_38, s129_40, s129_41, s129_42, s129_44, s129_45, s129_48, s129_50, s129_51, s129_52, s129_54, s129_55, s129_56, s129_59, s129_60, s129_62, s129_63, s129_66, s129_67, s129_70, s129_71, s129_73, s129_74, s129_77, s129_78, s129_80, s129_81, s129_82, s129_84, s129_87, s129_88, eq_self, bnd_l, bnd_r, Option.toList_some, Option.toList_none, List.cons_append, List.nil_append, Nat.add_zero, Nat.zero_add, ↓reduceIte, nI_add, nI_mul, nI_subI, lt_t, lt_f, eq_f, lt_m1, m1_lt, eq_m1, m1_eq, nz1]
      · simp (disch := omega) only [s129_0, s129_1, s129_2, s129_5, s129_7, s129_8, s129_9, s129_10, s129_14, s129_17, s129_19, s129_20, s129_23, s129_25, s129_26, s129_29, s129_30, s129_33, s129_35, s129_37, s129_38, s129_40, s129_41, s129_42, s129_44, s129_45, s129_48, s129_50, s129_51, s129_52, s129_54, s129_55, s129_56, s129_59, s129_60, s129_62, s129_63, s129_66, s129_67, s129_70, s129_71, s129_73, s129_74, s129_77, s129_78, s129_80, s129_81, s129_82, s129_84, s129_87, s129_88, eq_self, bnd_l, bnd_r, Option.toList_some, Option.toList_none, List.cons_append, List.nil_append, Nat.add_zero, Nat.zero_add, ↓reduceIte, nI_add, nI_mul, nI_subI, lt_t, lt_f, eq_f, lt_m1, m1_lt, eq_m1, m1_eq, hlt, hk', e1, hh, ho, hw, nxdF, freF]
    · simp (disch := omega) only [s129_0, s129_1, s129_2, s129_5, s129_7, s129_8, s129_9, s129_10, s129_14, s129_17, s129_19, s129_20, s129_23, s129_25, s129_26, s129_29, s129_30, s129_33, s129_35, s129_37, s129_38, s129_40, s129_41, s129_42, s129_44, s129_45, s129_48, s129_50, s129_51, s129_52, s129_54, s129_55, s129_56, s129_59, s129_60, s129_62, s129_63, s129_66, s129_67, s129_70, s129_71, s129_73, s129_74, s129_77, s129_78, s129_80, s129_81, s129_82, s129_84, s129_87, s129_88, eq_self, bnd_l, bnd_r, Option.toList_some, Option.toList_none, List.cons_append, List.nil_append, Nat.add_zero, Nat.zero_add, ↓reduceIte, nI_add, nI_mul, nI_subI, lt_t, lt_f, eq_f, lt_m1, m1_lt, eq_m1, m1_eq, hlt, hk', e1, hh, nxdF, freF]
      rw [s129_12]
      simp (disch := omega) only [s129_0, s129_1, s129_2, s129_5, s129_7, s129_8, s129_9, s129_10, s129_14, s129_17, s129_19, s129_20, s129_23, s129_25, s129_26, s129_29, s129_30, s129_33, s129_35, s129_37, s129_38, s129_40, s129_41, s129_42, s129_44, s129_45, s129_48, s129_50, s129_51, s129_52, s129_54, s129_55, s129_56, s129_59, s129_60, s129_62, s129_63, s129_66, s129_67, s129_70, s129_71, s129_73, s129_74, s129_77, s129_78, s129_80, s129_81, s129_82, s129_84, s129_87, s129_88, eq_self, bnd_l, bnd_r, Option.toList_some, Option.toList_none, List.cons_append, List.nil_append, Nat.add_zero, Nat.zero_add, ↓reduceIte, nI_add, nI_mul, nI_subI, lt_t, lt_f, eq_f, lt_m1, m1_lt, eq_m1, m1_eq, nz1]
  | succ k ih =>
    intro hk o6
    obtain ⟨e1, e2⟩ := hO.2 (k + 1) hk
    have hk' : (k + 1 < cnt (σ 39 g)) = True := eq_true hk
    rw [s129_12]
    have ho := c_ownTime (X := X) (σ := σ) (t := t) e2 h1 hi
    have i1 := ih (by omega)
    by_cases hh : σ 44 (10 * i + carF (σ 38) g (k + 1)) = nI 0
    · by_cases hw : ownF (σ 40) (σ 42) (σ 43) (carF (σ 38) g (k + 1)) i = -1
      · rw [nxdF]
        simp (disch := omega) only [s129_0, s129_1, s129_2, s129_5, s129_7, s129_8, s129_9, s129_10, s129_14, s129_17, s129_19, s129_20, s129_23, s129_25, s129_26, s129_29, s129_30, s129_33, s129_35, s129_37, s129_38, s129_40, s129_41, s129_42, s129_44, s129_45, s129_48, s129_50, s129_51, s129_52, s129_54, s129_55, s129_56, s129_59, s129_60, s129_62, s129_63, s129_66, s129_67, s129_70, s129_71, s129_73, s129_74, s129_77, s129_78, s129_80, s129_81, s129_82, s129_84, s129_87, s129_88, eq_self, bnd_l, bnd_r, Option.toList_some, Option.toList_none, List.cons_append, List.nil_append, Nat.add_zero, Nat.zero_add, ↓reduceIte, nI_add, nI_mul, nI_subI, lt_t, lt_f, eq_f, lt_m1, m1_lt, eq_m1, m1_eq, hlt, hk', e1, hh, ho, hw, freF, nI_decI, Nat.add_sub_cancel]
        exact i1 _
      · rw [nxdF]
        simp (disch := omega) only [s129_0, s129_1, s129_2, s129_5, s129_7, s129_8, s129_9, s129_10, s129_14, s129_17, s129_19, s129_20, s129_23, s129_25, s129_26, s129_29, s129_30, s129_33, s129_35, s129_37, s129_38, s129_40, s129_41, s129_42, s129_44, s129_45, s129_48, s129_50, s129_51, s129_52, s129_54, s129_55, s129_56, s129_59, s129_60, s129_62, s129_63, s129_66, s129_67, s129_70, s129_71, s129_73, s129_74, s129_77, s129_78, s129_80, s129_81, s129_82, s129_84, s129_87, s129_88, eq_self, bnd_l, bnd_r, Option.toList_some, Option.toList_none, List.cons_append, List.nil_append, Nat.add_zero, Nat.zero_add, ↓reduceIte, nI_add, nI_mul, nI_subI, lt_t, lt_f, eq_f, lt_m1, m1_lt, eq_m1, m1_eq, hlt, hk', e1, hh, ho, hw, freF]
    · rw [nxdF]
      simp (disch := omega) only [s129_0, s129_1, s129_2, s129_5, s129_7, s129_8, s129_9, s129_10, s129_14, s129_17, s129_19, s129_20, s129_23, s129_25, s129_26, s129_29, s129_30, s129_33, s129_35, s129_37, s129_38, s129_40, s129_41, s129_42, s129_44, s129_45, s129_48, s129_50, s129_51, s129_52, s129_54, s129_55, s129_56, s129_59, s129_60, s129_62, s129_63, s129_66, s129_67, s129_70, s129_71, s129_73, s129_74, s129_77, s129_78, s129_80, s129_81, s129_82, s129_84, s129_87, s129_88, eq_self, bnd_l, bnd_r, Option.toList_some, Option.toList_none, List.cons_append, List.nil_append, Nat.add_zero, Nat.zero_add, ↓reduceIte, nI_add, nI_mul, nI_subI, lt_t, lt_f, eq_f, lt_m1, m1_lt, eq_m1, m1_eq, hlt, hk', e1, hh, freF, nI_decI, Nat.add_sub_cancel]
      exact i1 _
theorem l_nextU {i g : Nat} {at9 : Int32} (h1 : 1 ≤ i) (hi : i < 20) (hg : g < 20) (hO : okO (σ 38) (σ 39) g) : ∀ j k, k + j = cnt (σ 39 g) → ∀ o6, exM X 129 12 [some (.ref 35), some (.int (nI i)), some (.int at9), some (.int (nI 1)), some (.int (nI g)), some (.int (nI k)), o6] [] (WW σ t) 0 0 = ans (nxuF (freF (σ 40) (σ 42) (σ 43) (σ 44) (σ 38) i g) k j) (WW σ t) := by
  have hlt := okM_lt hO.1
  have hle := okM_le hO.1
  intro j
  induction j with
  | zero =>
    intro k hk o6
    have hk' : (k < cnt (σ 39 g)) = False := eq_false (by omega)
    simp (disch := omega) only [s129_0, s129_1, s129_2, s129_5, s129_7, s129_8, s129_9, s129_10, s129_12, s129_14, s129_17, s129_19, s129_20, s129_23, s129_25, s129_26, s129_29, s129_30, s129_33, s129_35, s129_37, s129_38, s129_40, s129_41, s129_42, s129_44, s129_45, s129_48, s129_50, s129_51, s129_52, s129_54, s129_55, s129_56, s129_59, s129_60, s129_62, s129_63, s129_66, s129_67, s129_70, s129_71, s129_73, s129_74, s129_77, s129_78, s129_80, s129_81, s129_82, s129_84, s129_87, s129_88, eq_self, bnd_l, bnd_r, Option.toList_some, Option.toList_none, List.cons_append, List.nil_append, Nat.add_zero, Nat.zero_add, ↓reduceIte, nI_add, nI_mul, nI_subI, lt_t, lt_f, eq_f, lt_m1, m1_lt, eq_m1, m1_eq, hlt, hk', nxuF]
  | succ j ih =>
    intro k hk o6
    obtain ⟨e1, e2⟩ := hO.2 k (by omega)
    have hk' : (k < cnt (σ 39 g)) = True := eq_true (by omega)
    rw [s129_12]
    have ho := c_ownTime (X := X) (σ := σ) (t := t) e2 h1 hi
    have i1 := ih (k + 1) (by omega)
    by_cases hh : σ 44 (10 * i + carF (σ 38) g k) = nI 0
    · by_cases hw : ownF (σ 40) (σ 42) (σ 43) (carF (σ 38) g k) i = -1
      · rw [nxuF]
        simp (disch := omega) only [s129_0, s129_1, s129_2, s129_5, s129_7, s129_8, s129_9, s129_10, s129_14, s129_17, s129_19, s129_20, s129_23, s129_25, s129_26, s129_29, s129_30, s129_33, s129_35, s129_37, s129_38, s129_40, s129_41, s129_42, s129_44, s129_45, s129_48, s129_50, s129_51, s129_52, s129_54, s129_55, s129_56, s129_59, s129_60, s129_62, s129_63, s129_66, s129_67, s129_70, s129_71, s129_73, s129_74, s129_77, s129_78, s129_80, s129_81, s129_82, s129_84, s129_87, s129_88, eq_self, bnd_l, bnd_r, Option.toList_some, Option.toList_none, List.cons_append, List.nil_append, Nat.add_zero, Nat.zero_add, ↓reduceIte, nI_add, nI_mul, nI_subI, lt_t, lt_f, eq_f, lt_m1, m1_lt, eq_m1, m1_eq, hlt, hk', e1, hh, ho, hw, freF]
        exact i1 _
      · rw [nxuF]
        simp (disch := omega) only [s129_0, s129_1, s129_2, s129_5, s129_7, s129_8, s129_9, s129_10, s129_14, s129_17, s129_19, s129_20, s129_23, s129_25, s129_26, s129_29, s129_30, s129_33, s129_35, s129_37, s129_38, s129_40, s129_41, s129_42, s129_44, s129_45, s129_48, s129_50, s129_51, s129_52, s129_54, s129_55, s129_56, s129_59, s129_60, s129_62, s129_63, s129_66, s129_67, s129_70, s129_71, s129_73, s129_74, s129_77, s129_78, s129_80, s129_81, s129_82, s129_84, s129_87, s129_88, eq_self, bnd_l, bnd_r, Option.toList_some, Option.toList_none, List.cons_append, List.nil_append, Nat.add_zero, Nat.zero_add, ↓reduceIte, nI_add, nI_mul, nI_subI, lt_t, lt_f, eq_f, lt_m1, m1_lt, eq_m1, m1_eq, hlt, hk', e1, hh, ho, hw, freF]
    · rw [nxuF]
      simp (disch := omega) only [s129_0, s129_1, s129_2, s129_5, s129_7, s129_8, s129_9, s129_10, s129_14, s129_17, s129_19, s129_20, s129_23, s129_25, s129_26, s129_29, s129_30, s129_33, s129_35, s129_37, s129_38, s129_40, s129_41, s129_42, s129_44, s129_45, s129_48, s129_50, s129_51, s129_52, s129_54, s129_55, s129_56, s129_59, s129_60, s129_62, s129_63, s129_66, s129_67, s129_70, s129_71, s129_73, s129_74, s129_77, s129_78, s129_80, s129_81, s129_82, s129_84, s129_87, s129_88, eq_self, bnd_l, bnd_r, Option.toList_some, Option.toList_none, List.cons_append, List.nil_append, Nat.add_zero, Nat.zero_add, ↓reduceIte, nI_add, nI_mul, nI_subI, lt_t, lt_f, eq_f, lt_m1, m1_lt, eq_m1, m1_eq, hlt, hk', e1, hh, freF]
      exact i1 _
theorem n2m : (-1 : Int32) + -1 < nI 0 := by decide +kernel
theorem n0m : (-1 : Int32) + nI 1 = nI 0 := by decide +kernel
/-- the next one ahead, from a place or none -/
theorem c_nextD {i : Nat} {at9 : Int32} (h1 : 1 ≤ i) (hi : i < 20) (h0 : σ 36 0 = nI 0) (hO : okO (σ 38) (σ 39) (legF (σ 36) i)) (ha : at9 = -1 ∨ ∃ a, a < cnt (σ 39 (legF (σ 36) i)) ∧ at9 = nI a) : exC X 129 [.ref 35, .int (nI i), .int at9, .int (-1)] (WW σ t) = ans (nxdF (freF (σ 40) (σ 42) (σ 43) (σ 44) (σ 38) i (legF (σ 36) i)) (cnt at9)) (WW σ t) := by
  rw [ent_129]
  have hle := okM_le hO.1
  have hg := legF_le (σ 36) i
  have hl := c_legOf (X := X) (σ := σ) (t := t) hi h0
  rcases ha with rfl | ⟨a, ha, rfl⟩
  · have := n2m
    simp (disch := omega) only [s129_0, s129_1, s129_2, s129_5, s129_7, s129_8, s129_9, s129_10, s129_12, s129_14, s129_17, s129_19, s129_20, s129_23, s129_25, s129_26, s129_29, s129_30, s129_33, s129_35, s129_37, s129_38, s129_40, s129_41, s129_42, s129_44, s129_45, s129_48, s129_50, s129_51, s129_52, s129_54, s129_55, s129_56, s129_59, s129_60, s129_62, s129_63, s129_66, s129_67, s129_70, s129_71, s129_73, s129_74, s129_77, s129_78, s129_80, s129_81, s129_82, s129_84, s129_87, s129_88, eq_self, bnd_l, bnd_r, Option.toList_some, Option.toList_none, List.cons_append, List.nil_append, Nat.add_zero, Nat.zero_add, ↓reduceIte, nI_add, nI_mul, nI_subI, lt_t, lt_f, eq_f, lt_m1, m1_lt, eq_m1, m1_eq, hl, eq_true n2m, cnt_m1, nxdF]
  · rw [cnt_nI (by omega)]
    cases a with
    | zero => simp (disch := omega) only [s129_0, s129_1, s129_2, s129_5, s129_7, s129_8, s129_9, s129_10, s129_12, s129_14, s129_17, s129_19, s129_20, s129_23, s129_25, s129_26, s129_29, s129_30, s129_33, s129_35, s129_37, s129_38, s129_40, s129_41, s129_42, s129_44, s129_45, s129_48, s129_50, s129_51, s129_52, s129_54, s129_55, s129_56, s129_59, s129_60, s129_62, s129_63, s129_66, s129_67, s129_70, s129_71, s129_73, s129_74, s129_77, s129_78, s129_80, s129_81, s129_82, s129_84, s129_87, s129_88, eq_self, bnd_l, bnd_r, Option.toList_some, Option.toList_none, List.cons_append, List.nil_append, Nat.add_zero, Nat.zero_add, ↓reduceIte, nI_add, nI_mul, nI_subI, lt_t, lt_f, eq_f, lt_m1, m1_lt, eq_m1, m1_eq, hl, nz1, m1_lt, nxdF]
    | succ a =>
      have hL := l_nextD (X := X) (t := t) (at9 := nI (a + 1)) h1 hi (by omega : legF (σ 36) i < 20) hO a (by omega) none
      simp (disch := omega) only [s129_0, s129_1, s129_2, s129_5, s129_7, s129_8, s129_9, s129_10, s129_14, s129_17, s129_19, s129_20, s129_23, s129_25, s129_26, s129_29, s129_30, s129_33, s129_35, s129_37, s129_38, s129_40, s129_41, s129_42, s129_44, s129_45, s129_48, s129_50, s129_51, s129_52, s129_54, s129_55, s129_56, s129_59, s129_60, s129_62, s129_63, s129_66, s129_67, s129_70, s129_71, s129_73, s129_74, s129_77, s129_78, s129_80, s129_81, s129_82, s129_84, s129_87, s129_88, eq_self, bnd_l, bnd_r, Option.toList_some, Option.toList_none, List.cons_append, List.nil_append, Nat.add_zero, Nat.zero_add, ↓reduceIte, nI_add, nI_mul, nI_subI, lt_t, lt_f, eq_f, lt_m1, m1_lt, eq_m1, m1_eq, hl, nI_decI, Nat.add_sub_cancel, hL]
theorem c_nextU {i : Nat} {at9 : Int32} (h1 : 1 ≤ i) (hi : i < 20) (h0 : σ 36 0 = nI 0) (hO : okO (σ 38) (σ 39) (legF (σ 36) i)) (ha : at9 = -1 ∨ ∃ a, a < cnt (σ 39 (legF (σ 36) i)) ∧ at9 = nI a) : exC X 129 [.ref 35, .int (nI i), .int at9, .int (nI 1)] (WW σ t) = ans (if at9 = -1 then nxuF (freF (σ 40) (σ 42) (σ 43) (σ 44) (σ 38) i (legF (σ 36) i)) 0 (cnt (σ 39 (legF (σ 36) i))) else nxuF (freF (σ 40) (σ 42) (σ 43) (σ 44) (σ 38) i (legF (σ 36) i)) (cnt at9 + 1) (cnt (σ 39 (legF (σ 36) i)) - (cnt at9 + 1))) (WW σ t) := by
  rw [ent_129]
  have hle := okM_le hO.1
  have hg := legF_le (σ 36) i
  have hl := c_legOf (X := X) (σ := σ) (t := t) hi h0
  rcases ha with rfl | ⟨a, ha, rfl⟩
  · have hL := l_nextU (X := X) (t := t) (at9 := -1) h1 hi (by omega : legF (σ 36) i < 20) hO (cnt (σ 39 (legF (σ 36) i))) 0 (by omega) none
    simp (disch := omega) only [s129_0, s129_1, s129_2, s129_5, s129_7, s129_8, s129_9, s129_10, s129_14, s129_17, s129_19, s129_20, s129_23, s129_25, s129_26, s129_29, s129_30, s129_33, s129_35, s129_37, s129_38, s129_40, s129_41, s129_42, s129_44, s129_45, s129_48, s129_50, s129_51, s129_52, s129_54, s129_55, s129_56, s129_59, s129_60, s129_62, s129_63, s129_66, s129_67, s129_70, s129_71, s129_73, s129_74, s129_77, s129_78, s129_80, s129_81, s129_82, s129_84, s129_87, s129_88, eq_self, bnd_l, bnd_r, Option.toList_some, Option.toList_none, List.cons_append, List.nil_append, Nat.add_zero, Nat.zero_add, ↓reduceIte, nI_add, nI_mul, nI_subI, lt_t, lt_f, eq_f, lt_m1, m1_lt, eq_m1, m1_eq, hl, n0m, hL]
  · have hL := l_nextU (X := X) (t := t) (at9 := nI a) h1 hi (by omega : legF (σ 36) i < 20) hO (cnt (σ 39 (legF (σ 36) i)) - (a + 1)) (a + 1) (by omega) none
    rw [cnt_nI (by omega)]
    simp (disch := omega) only [s129_0, s129_1, s129_2, s129_5, s129_7, s129_8, s129_9, s129_10, s129_14, s129_17, s129_19, s129_20, s129_23, s129_25, s129_26, s129_29, s129_30, s129_33, s129_35, s129_37, s129_38, s129_40, s129_41, s129_42, s129_44, s129_45, s129_48, s129_50, s129_51, s129_52, s129_54, s129_55, s129_56, s129_59, s129_60, s129_62, s129_63, s129_66, s129_67, s129_70, s129_71, s129_73, s129_74, s129_77, s129_78, s129_80, s129_81, s129_82, s129_84, s129_87, s129_88, eq_self, bnd_l, bnd_r, Option.toList_some, Option.toList_none, List.cons_append, List.nil_append, Nat.add_zero, Nat.zero_add, ↓reduceIte, nI_add, nI_mul, nI_subI, lt_t, lt_f, eq_f, lt_m1, m1_lt, eq_m1, m1_eq, hl, hL]
/-- the notional time -/
def notF (sp bm hd hl od mn : Nat → Int32) (g c i : Nat) : Int32 :=
  let p := plcF (fun k => od (10 * g + k)) (nI c) (cnt (mn g))
  let u := nxdF (freF sp bm hd hl od i g) (cnt p)
  let v := if p = -1 then nxuF (freF sp bm hd hl od i g) 0 (cnt (mn g)) else nxuF (freF sp bm hd hl od i g) (cnt p + 1) (cnt (mn g) - (cnt p + 1))
  if u = -1 then v else if v = -1 then u else (u + v) / nI 2
theorem plcF_or (o : Nat → Int32) (car : Int32) : ∀ n, plcF o car n = -1 ∨ ∃ a, a < n ∧ plcF o car n = nI a
  | 0 => Or.inl rfl
  | n + 1 => by
    unfold plcF
    split
    · exact Or.inr ⟨n, by omega, rfl⟩
    · rcases plcF_or o car n with h | ⟨a, ha, h⟩
      · exact Or.inl h
      · exact Or.inr ⟨a, by omega, h⟩
theorem c_notional {c i : Nat} (hc : c < 10) (h1 : 1 ≤ i) (hi : i < 20) (h0 : σ 36 0 = nI 0) (hO : okO (σ 38) (σ 39) (legF (σ 36) i)) : exC X 130 [.ref 35, .int (nI c), .int (nI i)] (WW σ t) = ans (notF (σ 40) (σ 42) (σ 43) (σ 44) (σ 38) (σ 39) (legF (σ 36) i) c i) (WW σ t) := by
  rw [ent_130]
  have hg := legF_le (σ 36) i
  have hl := c_legOf (X := X) (σ := σ) (t := t) hi h0
  have hp := c_placeIn (X := X) (σ := σ) (t := t) (leg := legF (σ 36) i) (car := nI c) (by omega) hO.1
  have hpo := plcF_or (fun k => σ 38 (10 * legF (σ 36) i + k)) (nI c) (cnt (σ 39 (legF (σ 36) i)))
  have hD := c_nextD (X := X) (t := t) h1 hi h0 hO hpo
  have hU := c_nextU (X := X) (t := t) h1 hi h0 hO hpo
  unfold notF
  dsimp only
  generalize hgp : plcF (fun k => σ 38 (10 * legF (σ 36) i + k)) (nI c) (cnt (σ 39 (legF (σ 36) i))) = p at *
  generalize hgu : nxdF (freF (σ 40) (σ 42) (σ 43) (σ 44) (σ 38) i (legF (σ 36) i)) (cnt p) = u at *
  generalize hgv : (if p = -1 then nxuF (freF (σ 40) (σ 42) (σ 43) (σ 44) (σ 38) i (legF (σ 36) i)) 0 (cnt (σ 39 (legF (σ 36) i))) else nxuF (freF (σ 40) (σ 42) (σ 43) (σ 44) (σ 38) i (legF (σ 36) i)) (cnt p + 1) (cnt (σ 39 (legF (σ 36) i)) - (cnt p + 1))) = v at *
  have h2 : ¬ nI 2 = 0 := nI_nz (by omega) (by omega)
  by_cases hu : u = -1
  · simp (disch := omega) only [s130_0, s130_1, s130_2, s130_3, s130_6, s130_7, s130_10, s130_11, s130_12, s130_13, s130_14, s130_15, s130_18, s130_20, s130_21, s130_22, s130_23, s130_24, s130_27, s130_29, s130_31, s130_32, s130_35, s130_37, s130_40, s130_42, s130_43, s130_46, s130_48, s130_51, s130_53, s130_55, s130_56, s130_57, s130_58, eq_self, bnd_l, bnd_r, Option.toList_some, Option.toList_none, List.cons_append, List.nil_append, Nat.add_zero, Nat.zero_add, ↓reduceIte, nI_add, nI_mul, nI_subI, lt_t, lt_f, eq_f, lt_m1, m1_lt, eq_m1, m1_eq, hl, hp, hD, hU, hu]
  · by_cases hv : v = -1
    · simp (disch := omega) only [s130_0, s130_1, s130_2, s130_3, s130_6, s130_7, s130_10, s130_11, s130_12, s130_13, s130_14, s130_15, s130_18, s130_20, s130_21, s130_22, s130_23, s130_24, s130_27, s130_29, s130_31, s130_32, s130_35, s130_37, s130_40, s130_42, s130_43, s130_46, s130_48, s130_51, s130_53, s130_55, s130_56, s130_57, s130_58, eq_self, bnd_l, bnd_r, Option.toList_some, Option.toList_none, List.cons_append, List.nil_append, Nat.add_zero, Nat.zero_add, ↓reduceIte, nI_add, nI_mul, nI_subI, lt_t, lt_f, eq_f, lt_m1, m1_lt, eq_m1, m1_eq, hl, hp, hD, hU, hu, hv]
    · simp (disch := omega) only [s130_0, s130_1, s130_2, s130_3, s130_6, s130_7, s130_10, s130_11, s130_12, s130_13, s130_14, s130_15, s130_18, s130_20, s130_21, s130_22, s130_23, s130_24, s130_27, s130_29, s130_31, s130_32, s130_35, s130_37, s130_40, s130_42, s130_43, s130_46, s130_48, s130_51, s130_53, s130_55, s130_56, s130_58, eq_self, bnd_l, bnd_r, Option.toList_some, Option.toList_none, List.cons_append, List.nil_append, Nat.add_zero, Nat.zero_add, ↓reduceIte, nI_add, nI_mul, nI_subI, lt_t, lt_f, eq_f, lt_m1, m1_lt, eq_m1, m1_eq, hl, hp, hD, hU, hu, hv, s130_57 h2, s130_58]
def timeF (sp bm hd hl aw od mn : Nat → Int32) (g c i : Nat) : Int32 :=
  if aw (10 * i + c) = -1 then (if hl (10 * i + c) = nI 0 then ownF sp bm hd c i else notF sp bm hd hl od mn g c i) else aw (10 * i + c)
theorem c_timeOf {c i : Nat} (hc : c < 10) (h1 : 1 ≤ i) (hi : i < 20) (h0 : σ 36 0 = nI 0) (hO : okO (σ 38) (σ 39) (legF (σ 36) i)) : exC X 131 [.ref 35, .int (nI c), .int (nI i)] (WW σ t) = ans (timeF (σ 40) (σ 42) (σ 43) (σ 44) (σ 45) (σ 38) (σ 39) (legF (σ 36) i) c i) (WW σ t) := by
  rw [ent_131]
  have hn := c_notional (X := X) (t := t) hc h1 hi h0 hO
  have ho := c_ownTime (X := X) (σ := σ) (t := t) hc h1 hi
  unfold timeF
  by_cases ha : σ 45 (10 * i + c) = -1
  · by_cases hh : σ 44 (10 * i + c) = nI 0
    · simp (disch := omega) only [s131_0, s131_2, s131_3, s131_4, s131_5, s131_6, s131_7, s131_8, s131_11, s131_12, s131_13, s131_14, s131_17, s131_18, s131_21, s131_22, s131_23, s131_26, s131_27, s131_30, s131_31, s131_32, s131_35, s131_36, s131_37, s131_38, s131_41, s131_44, s131_45, s131_46, s131_47, s131_50, eq_self, bnd_l, bnd_r, Option.toList_some, Option.toList_none, List.cons_append, List.nil_append, Nat.add_zero, Nat.zero_add, ↓reduceIte, nI_add, nI_mul, nI_subI, lt_t, lt_f, eq_f, lt_m1, m1_lt, eq_m1, m1_eq, ha, hh, ho]
    · simp (disch := omega) only [s131_0, s131_2, s131_3, s131_4, s131_5, s131_6, s131_7, s131_8, s131_11, s131_12, s131_13, s131_14, s131_17, s131_18, s131_21, s131_22, s131_23, s131_26, s131_27, s131_30, s131_31, s131_32, s131_35, s131_36, s131_37, s131_38, s131_41, s131_44, s131_45, s131_46, s131_47, s131_50, eq_self, bnd_l, bnd_r, Option.toList_some, Option.toList_none, List.cons_append, List.nil_append, Nat.add_zero, Nat.zero_add, ↓reduceIte, nI_add, nI_mul, nI_subI, lt_t, lt_f, eq_f, lt_m1, m1_lt, eq_m1, m1_eq, ha, hh, hn]
  · simp (disch := omega) only [s131_0, s131_2, s131_3, s131_4, s131_5, s131_6, s131_7, s131_8, s131_11, s131_12, s131_13, s131_14, s131_17, s131_18, s131_21, s131_22, s131_23, s131_26, s131_27, s131_30, s131_31, s131_32, s131_35, s131_36, s131_37, s131_38, s131_41, s131_44, s131_45, s131_46, s131_47, s131_50, eq_self, bnd_l, bnd_r, Option.toList_some, Option.toList_none, List.cons_append, List.nil_append, Nat.add_zero, Nat.zero_add, ↓reduceIte, nI_add, nI_mul, nI_subI, lt_t, lt_f, eq_f, lt_m1, m1_lt, eq_m1, m1_eq, ha]
end REF2
