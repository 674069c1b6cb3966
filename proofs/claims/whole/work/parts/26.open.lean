/-! THE REFERENCE: what reads ranks and the table; legs opened -/
section REF8
variable {X : rX} {h : rH} {σ : Nat → Nat → Int32} {t : rH}
/-- the place of a car in the ranks of the state -/
noncomputable def rnkR (z : Int32) (σ : Nat → Nat → Int32) (N c : Nat) : Int32 := rkF z (lay1 σ N) N c
theorem layR_55 {z : Int32} {N c : Nat} (hc : c < 10) : layR z σ N 55 c = rnkR z σ N c := by
  unfold layR lyW
  rw [sA_eq, ltF_lt hc]
  rfl
theorem q_car1 {a b : Int32} (ha : ¬ inR a 10) : exC X 146 [.ref 35, .int a, .int b] (WW σ t) = ans (nI 0) (WW (u2 σ 35 0 (nI 1)) t) := by
  rw [ent_146]
  have i0 := isCar_no (X := X) (h := WW σ t) ha
  simp (disch := omega) only [s146_0, s146_1, s146_2, s146_5, s146_8, s146_9, s146_12, s146_13, s146_14, s146_15, s146_18, s146_21, s146_22, s146_25, s146_26, s146_29, s146_32, s146_33, s146_34, s146_35, s146_36, s146_39, s146_40, s146_43, s146_44, s146_47, s146_48, s146_49, s146_52, s146_53, s146_54, s146_57, s146_58, s146_61, s146_62, s146_63, s146_66, s146_67, s146_68, s146_71, s146_72, s146_75, s146_76, s146_77, s146_80, s146_81, s146_84, s146_85, s146_88, s146_89, s146_92, s146_93, s146_94, s146_97, s146_98, s146_101, s146_102, s146_103, s146_104, s146_105, s146_108, s146_109, s146_110, s146_113, s146_114, s146_115, s146_118, s146_121, s146_122, s146_125, s146_126, s146_127, eq_self, bnd_l, bnd_r, Option.toList_some, Option.toList_none, List.cons_append, List.nil_append, Nat.add_zero, Nat.zero_add, ↓reduceIte, nI_add, nI_mul, nI_subI, lt_t, lt_f, eq_f, lt_m1, m1_lt, eq_m1, m1_eq, i0, c_holds]
theorem q_car2 {c : Nat} {b : Int32} (hc : c < 10) (hb : ¬ inR b 6) : exC X 146 [.ref 35, .int (nI c), .int b] (WW σ t) = ans (nI 0) (WW (u2 σ 35 0 (nI 2)) t) := by
  rw [ent_146]
  have i0 := isCar_in (X := X) (h := WW σ t) hc
  have i1 := isIn_no (X := X) (h := WW σ t) (b := 5) (by omega) hb
  simp (disch := omega) only [s146_0, s146_1, s146_2, s146_5, s146_8, s146_9, s146_12, s146_13, s146_14, s146_15, s146_18, s146_21, s146_22, s146_25, s146_26, s146_29, s146_32, s146_33, s146_34, s146_35, s146_36, s146_39, s146_40, s146_43, s146_44, s146_47, s146_48, s146_49, s146_52, s146_53, s146_54, s146_57, s146_58, s146_61, s146_62, s146_63, s146_66, s146_67, s146_68, s146_71, s146_72, s146_75, s146_76, s146_77, s146_80, s146_81, s146_84, s146_85, s146_88, s146_89, s146_92, s146_93, s146_94, s146_97, s146_98, s146_101, s146_102, s146_103, s146_104, s146_105, s146_108, s146_109, s146_110, s146_113, s146_114, s146_115, s146_118, s146_121, s146_122, s146_125, s146_126, s146_127, eq_self, bnd_l, bnd_r, Option.toList_some, Option.toList_none, List.cons_append, List.nil_append, Nat.add_zero, Nat.zero_add, ↓reduceIte, nI_add, nI_mul, nI_subI, lt_t, lt_f, eq_f, lt_m1, m1_lt, eq_m1, m1_eq, i0, i1, c_holds]
theorem isIn_5 {j : Nat} (hj : j ≤ 5) : exC X 109 [.int (nI j), .int (nI 0), .int (nI 5)] h = ans (nI 1) h := isIn_in (by omega) (by omega) (by omega)
theorem q_carA {c : Nat} (hc : c < 10) : exC X 146 [.ref 35, .int (nI c), .int (nI 0)] (WW σ t) = ans (σ 46 c) (WW (u2 σ 35 0 (nI 0)) t) := by
  rw [ent_146]
  have i0 := isCar_in (X := X) (h := WW σ t) hc
  have i1 := isIn_5 (X := X) (h := WW σ t) (j := 0) (by omega)
  simp (disch := omega) only [s146_0, s146_1, s146_2, s146_5, s146_8, s146_9, s146_12, s146_13, s146_14, s146_15, s146_18, s146_21, s146_22, s146_25, s146_26, s146_29, s146_32, s146_33, s146_34, s146_35, s146_36, s146_39, s146_40, s146_43, s146_44, s146_47, s146_48, s146_49, s146_52, s146_53, s146_54, s146_57, s146_58, s146_61, s146_62, s146_63, s146_66, s146_67, s146_68, s146_71, s146_72, s146_75, s146_76, s146_77, s146_80, s146_81, s146_84, s146_85, s146_88, s146_89, s146_92, s146_93, s146_94, s146_97, s146_98, s146_101, s146_102, s146_103, s146_104, s146_105, s146_108, s146_109, s146_110, s146_113, s146_114, s146_115, s146_118, s146_121, s146_122, s146_125, s146_126, s146_127, eq_self, bnd_l, bnd_r, Option.toList_some, Option.toList_none, List.cons_append, List.nil_append, Nat.add_zero, Nat.zero_add, ↓reduceIte, nI_add, nI_mul, nI_subI, lt_t, lt_f, eq_f, lt_m1, m1_lt, eq_m1, m1_eq, i0, i1, c_holds, u2_ne]
theorem q_carB {c : Nat} (hc : c < 10) : exC X 146 [.ref 35, .int (nI c), .int (nI 1)] (WW σ t) = ans (σ 47 c) (WW (u2 σ 35 0 (nI 0)) t) := by
  rw [ent_146]
  have i0 := isCar_in (X := X) (h := WW σ t) hc
  have i1 := isIn_5 (X := X) (h := WW σ t) (j := 1) (by omega)
  simp (disch := omega) only [s146_0, s146_1, s146_2, s146_5, s146_8, s146_9, s146_12, s146_13, s146_14, s146_15, s146_18, s146_21, s146_22, s146_25, s146_26, s146_29, s146_32, s146_33, s146_34, s146_35, s146_36, s146_39, s146_40, s146_43, s146_44, s146_47, s146_48, s146_49, s146_52, s146_53, s146_54, s146_57, s146_58, s146_61, s146_62, s146_63, s146_66, s146_67, s146_68, s146_71, s146_72, s146_75, s146_76, s146_77, s146_80, s146_81, s146_84, s146_85, s146_88, s146_89, s146_92, s146_93, s146_94, s146_97, s146_98, s146_101, s146_102, s146_103, s146_104, s146_105, s146_108, s146_109, s146_110, s146_113, s146_114, s146_115, s146_118, s146_121, s146_122, s146_125, s146_126, s146_127, eq_self, bnd_l, bnd_r, Option.toList_some, Option.toList_none, List.cons_append, List.nil_append, Nat.add_zero, Nat.zero_add, ↓reduceIte, nI_add, nI_mul, nI_subI, lt_t, lt_f, eq_f, lt_m1, m1_lt, eq_m1, m1_eq, i0, i1, c_holds, u2_ne]
theorem q_carC {c : Nat} (hc : c < 10) : exC X 146 [.ref 35, .int (nI c), .int (nI 2)] (WW σ t) = ans (if σ 48 c = nI 0 then nI 0 else nI 1) (WW (u2 σ 35 0 (nI 0)) t) := by
  rw [ent_146]
  have i0 := isCar_in (X := X) (h := WW σ t) hc
  have i1 := isIn_5 (X := X) (h := WW σ t) (j := 2) (by omega)
  by_cases h1 : σ 48 c = nI 0
  · simp (disch := omega) only [s146_0, s146_1, s146_2, s146_5, s146_8, s146_9, s146_12, s146_13, s146_14, s146_15, s146_18, s146_21, s146_22, s146_25, s146_26, s146_29, s146_32, s146_33, s146_34, s146_35, s146_36, s146_39, s146_40, s146_43, s146_44, s146_47, s146_48, s146_49, s146_52, s146_53, s146_54, s146_57, s146_58, s146_61, s146_62, s146_63, s146_66, s146_67, s146_68, s146_71, s146_72, s146_75, s146_76, s146_77, s146_80, s146_81, s146_84, s146_85, s146_88, s146_89, s146_92, s146_93, s146_94, s146_97, s146_98, s146_101, s146_102, s146_103, s146_104, s146_105, s146_108, s146_109, s146_110, s146_113, s146_114, s146_115, s146_118, s146_121, s146_122, s146_125, s146_126, s146_127, eq_self, bnd_l, bnd_r, Option.toList_some, Option.toList_none, List.cons_append, List.nil_append, Nat.add_zero, Nat.zero_add, ↓reduceIte, nI_add, nI_mul, nI_subI, lt_t, lt_f, eq_f, lt_m1, m1_lt, eq_m1, m1_eq, i0, i1, c_holds, u2_ne, h1]
  · simp (disch := omega) only [s146_0, s146_1, s146_2, s146_5, s146_8, s146_9, s146_12, s146_13, s146_14, s146_15, s146_18, s146_21, s146_22, s146_25, s146_26, s146_29, s146_32, s146_33, s146_34, s146_35, s146_36, s146_39, s146_40, s146_43, s146_44, s146_47, s146_48, s146_49, s146_52, s146_53, s146_54, s146_57, s146_58, s146_61, s146_62, s146_63, s146_66, s146_67, s146_68, s146_71, s146_72, s146_75, s146_76, s146_77, s146_80, s146_81, s146_84, s146_85, s146_88, s146_89, s146_92, s146_93, s146_94, s146_97, s146_98, s146_101, s146_102, s146_103, s146_104, s146_105, s146_108, s146_109, s146_110, s146_113, s146_114, s146_115, s146_118, s146_121, s146_122, s146_125, s146_126, s146_127, eq_self, bnd_l, bnd_r, Option.toList_some, Option.toList_none, List.cons_append, List.nil_append, Nat.add_zero, Nat.zero_add, ↓reduceIte, nI_add, nI_mul, nI_subI, lt_t, lt_f, eq_f, lt_m1, m1_lt, eq_m1, m1_eq, i0, i1, c_holds, u2_ne, h1]
theorem q_carD {c : Nat} (hc : c < 10) : exC X 146 [.ref 35, .int (nI c), .int (nI 3)] (WW σ t) = ans (if σ 49 c = nI 0 then nI 0 else nI 1) (WW (u2 σ 35 0 (nI 0)) t) := by
  rw [ent_146]
  have i0 := isCar_in (X := X) (h := WW σ t) hc
  have i1 := isIn_5 (X := X) (h := WW σ t) (j := 3) (by omega)
  by_cases h1 : σ 49 c = nI 0
  · simp (disch := omega) only [s146_0, s146_1, s146_2, s146_5, s146_8, s146_9, s146_12, s146_13, s146_14, s146_15, s146_18, s146_21, s146_22, s146_25, s146_26, s146_29, s146_32, s146_33, s146_34, s146_35, s146_36, s146_39, s146_40, s146_43, s146_44, s146_47, s146_48, s146_49, s146_52, s146_53, s146_54, s146_57, s146_58, s146_61, s146_62, s146_63, s146_66, s146_67, s146_68, s146_71, s146_72, s146_75, s146_76, s146_77, s146_80, s146_81, s146_84, s146_85, s146_88, s146_89, s146_92, s146_93, s146_94, s146_97, s146_98, s146_101, s146_102, s146_103, s146_104, s146_105, s146_108, s146_109, s146_110, s146_113, s146_114, s146_115, s146_118, s146_121, s146_122, s146_125, s146_126, s146_127, eq_self, bnd_l, bnd_r, Option.toList_some, Option.toList_none, List.cons_append, List.nil_append, Nat.add_zero, Nat.zero_add, ↓reduceIte, nI_add, nI_mul, nI_subI, lt_t, lt_f, eq_f, lt_m1, m1_lt, eq_m1, m1_eq, i0, i1, c_holds, u2_ne, h1]
  · simp (disch := omega) only [s146_0, s146_1, s146_2, s146_5, s146_8, s146_9, s146_12, s146_13, s146_14, s146_15, s146_18, s146_21, s146_22, s146_25, s146_26, s146_29, s146_32, s146_33, s146_34, s146_35, s146_36, s146_39, s146_40, s146_43, s146_44, s146_47, s146_48, s146_49, s146_52, s146_53, s146_54, s146_57, s146_58, s146_61, s146_62, s146_63, s146_66, s146_67, s146_68, s146_71, s146_72, s146_75, s146_76, s146_77, s146_80, s146_81, s146_84, s146_85, s146_88, s146_89, s146_92, s146_93, s146_94, s146_97, s146_98, s146_101, s146_102, s146_103, s146_104, s146_105, s146_108, s146_109, s146_110, s146_113, s146_114, s146_115, s146_118, s146_121, s146_122, s146_125, s146_126, s146_127, eq_self, bnd_l, bnd_r, Option.toList_some, Option.toList_none, List.cons_append, List.nil_append, Nat.add_zero, Nat.zero_add, ↓reduceIte, nI_add, nI_mul, nI_subI, lt_t, lt_f, eq_f, lt_m1, m1_lt, eq_m1, m1_eq, i0, i1, c_holds, u2_ne, h1]
theorem q_carE {N c : Nat} (hR : RK σ N) (hc : c < 10) : exC X 146 [.ref 35, .int (nI c), .int (nI 4)] (WW σ t) = ans (ttR σ N c) (WW (layR (nI 0) (u2 σ 35 0 (nI 0)) N) t) := by
  rw [ent_146]
  have i0 := isCar_in (X := X) (h := WW σ t) hc
  have i1 := isIn_5 (X := X) (h := WW σ t) (j := 4) (by omega)
  have i2 := r_laysRanks (X := X) (σ := (u2 σ 35 0 (nI 0))) (t := t) (z := nI 0) (N := N) (Or.inl rfl) hR
  have i3 : exC X 141 [.ref 35, .int (nI c)] (WW (layR (nI 0) (u2 σ 35 0 (nI 0)) N) t) = ans (ttR σ N c) (WW (layR (nI 0) (u2 σ 35 0 (nI 0)) N) t) := r_total (σ := layR (nI 0) (u2 σ 35 0 (nI 0)) N) (N := N) hR hc
  simp (disch := omega) only [s146_0, s146_1, s146_2, s146_5, s146_8, s146_9, s146_12, s146_13, s146_14, s146_15, s146_18, s146_21, s146_22, s146_25, s146_26, s146_29, s146_32, s146_33, s146_34, s146_35, s146_36, s146_39, s146_40, s146_43, s146_44, s146_47, s146_48, s146_49, s146_52, s146_53, s146_54, s146_57, s146_58, s146_61, s146_62, s146_63, s146_66, s146_67, s146_68, s146_71, s146_72, s146_75, s146_76, s146_77, s146_80, s146_81, s146_84, s146_85, s146_88, s146_89, s146_92, s146_93, s146_94, s146_97, s146_98, s146_101, s146_102, s146_103, s146_104, s146_105, s146_108, s146_109, s146_110, s146_113, s146_114, s146_115, s146_118, s146_121, s146_122, s146_125, s146_126, s146_127, eq_self, bnd_l, bnd_r, Option.toList_some, Option.toList_none, List.cons_append, List.nil_append, Nat.add_zero, Nat.zero_add, ↓reduceIte, nI_add, nI_mul, nI_subI, lt_t, lt_f, eq_f, lt_m1, m1_lt, eq_m1, m1_eq, i0, i1, i2, i3, c_holds]
theorem q_carF {N c : Nat} (hR : RK σ N) (hc : c < 10) : exC X 146 [.ref 35, .int (nI c), .int (nI 5)] (WW σ t) = ans (rnkR (nI 0) σ N c) (WW (layR (nI 0) (u2 σ 35 0 (nI 0)) N) t) := by
  rw [ent_146]
  have i0 := isCar_in (X := X) (h := WW σ t) hc
  have i1 := isIn_5 (X := X) (h := WW σ t) (j := 5) (by omega)
  have i2 := r_laysRanks (X := X) (σ := (u2 σ 35 0 (nI 0))) (t := t) (z := nI 0) (N := N) (Or.inl rfl) hR
  have i3 : layR (nI 0) (u2 σ 35 0 (nI 0)) N 55 c = rnkR (nI 0) σ N c := layR_55 hc
  simp (disch := omega) only [s146_0, s146_1, s146_2, s146_5, s146_8, s146_9, s146_12, s146_13, s146_14, s146_15, s146_18, s146_21, s146_22, s146_25, s146_26, s146_29, s146_32, s146_33, s146_34, s146_35, s146_36, s146_39, s146_40, s146_43, s146_44, s146_47, s146_48, s146_49, s146_52, s146_53, s146_54, s146_57, s146_58, s146_61, s146_62, s146_63, s146_66, s146_67, s146_68, s146_71, s146_72, s146_75, s146_76, s146_77, s146_80, s146_81, s146_84, s146_85, s146_88, s146_89, s146_92, s146_93, s146_94, s146_97, s146_98, s146_101, s146_102, s146_103, s146_104, s146_105, s146_108, s146_109, s146_110, s146_113, s146_114, s146_115, s146_118, s146_121, s146_122, s146_125, s146_126, s146_127, eq_self, bnd_l, bnd_r, Option.toList_some, Option.toList_none, List.cons_append, List.nil_append, Nat.add_zero, Nat.zero_add, ↓reduceIte, nI_add, nI_mul, nI_subI, lt_t, lt_f, eq_f, lt_m1, m1_lt, eq_m1, m1_eq, i0, i1, i2, i3, c_holds]
theorem q_anew1 {a : Int32} (ha : ¬ inR a 10) : exC X 147 [.ref 35, .int a] (WW σ t) = ans (nI 0) (WW (u2 σ 35 0 (nI 1)) t) := by
  rw [ent_147]
  have i0 := isCar_no (X := X) (h := WW σ t) ha
  simp (disch := omega) only [s147_0, s147_1, s147_2, s147_5, s147_8, s147_9, s147_12, s147_13, s147_16, s147_19, s147_20, s147_21, s147_24, s147_27, s147_28, eq_self, bnd_l, bnd_r, Option.toList_some, Option.toList_none, List.cons_append, List.nil_append, Nat.add_zero, Nat.zero_add, ↓reduceIte, nI_add, nI_mul, nI_subI, lt_t, lt_f, eq_f, lt_m1, m1_lt, eq_m1, m1_eq, i0, c_holds]
theorem q_anew0 {N c : Nat} (hR : RK σ N) (hc : c < 10) : exC X 147 [.ref 35, .int (nI c)] (WW σ t) = ans (ttR σ N c) (WW (u2 σ 35 0 (nI 0)) t) := by
  rw [ent_147]
  have i0 := isCar_in (X := X) (h := WW σ t) hc
  have i3 : exC X 141 [.ref 35, .int (nI c)] (WW (u2 σ 35 0 (nI 0)) t) = ans (ttR σ N c) (WW (u2 σ 35 0 (nI 0)) t) := r_total (σ := (u2 σ 35 0 (nI 0))) (N := N) hR hc
  simp (disch := omega) only [s147_0, s147_1, s147_2, s147_5, s147_8, s147_9, s147_12, s147_13, s147_16, s147_19, s147_20, s147_21, s147_24, s147_27, s147_28, eq_self, bnd_l, bnd_r, Option.toList_some, Option.toList_none, List.cons_append, List.nil_append, Nat.add_zero, Nat.zero_add, ↓reduceIte, nI_add, nI_mul, nI_subI, lt_t, lt_f, eq_f, lt_m1, m1_lt, eq_m1, m1_eq, i0, i3, c_holds]
theorem plcF_eq {o o' : Nat → Int32} {x : Int32} : ∀ n, (∀ k, k < n → o k = o' k) → plcF o x n = plcF o' x n
  | 0, _ => rfl
  | n + 1, h => by
    unfold plcF
    rw [h n (by omega), plcF_eq n fun k hk => h k (by omega)]
theorem q_ranked1 {a : Int32} (ha : ¬ inR a 10) : exC X 148 [.ref 35, .int a] (WW σ t) = ans (nI 0) (WW (u2 σ 35 0 (nI 1)) t) := by
  rw [ent_148]
  have i0 := isIn_no (X := X) (h := WW σ t) (b := 9) (by omega) ha
  simp (disch := omega) only [s148_0, s148_1, s148_2, s148_3, s148_5, s148_8, s148_11, s148_12, s148_15, s148_16, s148_19, s148_22, s148_23, s148_24, s148_25, s148_26, s148_29, s148_30, s148_31, s148_34, eq_self, bnd_l, bnd_r, Option.toList_some, Option.toList_none, List.cons_append, List.nil_append, Nat.add_zero, Nat.zero_add, ↓reduceIte, nI_add, nI_mul, nI_subI, lt_t, lt_f, eq_f, lt_m1, m1_lt, eq_m1, m1_eq, i0, c_holds]
theorem q_ranked0 {N p : Nat} (hR : RK σ N) (hp : p < 10) : exC X 148 [.ref 35, .int (nI p)] (WW σ t) = ans (plcF (rnkR (nI 0) σ N) (nI p) 10) (WW (layR (nI 0) (u2 σ 35 0 (nI 0)) N) t) := by
  rw [ent_148]
  have i0 : exC X 109 [.int (nI p), .int (nI 0), .int (nI 9)] (WW σ t) = ans (nI 1) (WW σ t) := isIn_in (by omega) (by omega) (by omega)
  have i2 := r_laysRanks (X := X) (σ := (u2 σ 35 0 (nI 0))) (t := t) (z := nI 0) (N := N) (Or.inl rfl) hR
  have i3 := r_withRank (X := X) (σ := layR (nI 0) (u2 σ 35 0 (nI 0)) N) (t := t) (at9 := nI p)
  rw [plcF_eq (o := layR (nI 0) (u2 σ 35 0 (nI 0)) N 55) (o' := rnkR (nI 0) σ N) 10 (fun k hk => layR_55 (σ := (u2 σ 35 0 (nI 0))) hk)] at i3
  simp (disch := omega) only [s148_0, s148_1, s148_2, s148_3, s148_5, s148_8, s148_11, s148_12, s148_15, s148_16, s148_19, s148_22, s148_23, s148_24, s148_25, s148_26, s148_29, s148_30, s148_31, s148_34, eq_self, bnd_l, bnd_r, Option.toList_some, Option.toList_none, List.cons_append, List.nil_append, Nat.add_zero, Nat.zero_add, ↓reduceIte, nI_add, nI_mul, nI_subI, lt_t, lt_f, eq_f, lt_m1, m1_lt, eq_m1, m1_eq, i0, i2, i3, c_holds]
theorem q_points1 {a : Int32} (ha : ¬ inR a 10) : exC X 152 [.ref 35, .int a] (WW σ t) = ans (nI 0) (WW (u2 σ 35 0 (nI 1)) t) := by
  rw [ent_152]
  have i0 := isCar_no (X := X) (h := WW σ t) ha
  simp (disch := omega) only [s152_0, s152_1, s152_2, s152_5, s152_8, s152_9, s152_12, s152_13, s152_16, s152_19, s152_20, s152_21, s152_24, s152_27, s152_28, eq_self, bnd_l, bnd_r, Option.toList_some, Option.toList_none, List.cons_append, List.nil_append, Nat.add_zero, Nat.zero_add, ↓reduceIte, nI_add, nI_mul, nI_subI, lt_t, lt_f, eq_f, lt_m1, m1_lt, eq_m1, m1_eq, i0, c_holds]
theorem q_points0 {r c : Nat} (hP : RP σ r) (hc : c < 10) : exC X 152 [.ref 35, .int (nI c)] (WW σ t) = ans (nI (sumV (σ 54) r c)) (WW (u2 σ 35 0 (nI 0)) t) := by
  rw [ent_152]
  have i0 := isCar_in (X := X) (h := WW σ t) hc
  have i3 : exC X 151 [.ref 35, .int (nI c)] (WW (u2 σ 35 0 (nI 0)) t) = ans (nI (sumV (σ 54) r c)) (WW (u2 σ 35 0 (nI 0)) t) := r_sumOf (σ := (u2 σ 35 0 (nI 0))) (r := r) hP hc
  simp (disch := omega) only [s152_0, s152_1, s152_2, s152_5, s152_8, s152_9, s152_12, s152_13, s152_16, s152_19, s152_20, s152_21, s152_24, s152_27, s152_28, eq_self, bnd_l, bnd_r, Option.toList_some, Option.toList_none, List.cons_append, List.nil_append, Nat.add_zero, Nat.zero_add, ↓reduceIte, nI_add, nI_mul, nI_subI, lt_t, lt_f, eq_f, lt_m1, m1_lt, eq_m1, m1_eq, i0, i3, c_holds]
theorem q_table1 {a : Int32} (ha : ¬ inR a 10) : exC X 155 [.ref 35, .int a] (WW σ t) = ans (nI 0) (WW (u2 σ 35 0 (nI 1)) t) := by
  rw [ent_155]
  have i0 := isIn_no (X := X) (h := WW σ t) (b := 9) (by omega) ha
  simp (disch := omega) only [s155_0, s155_1, s155_2, s155_3, s155_5, s155_8, s155_11, s155_12, s155_15, s155_16, s155_19, s155_22, s155_23, s155_24, s155_25, s155_26, s155_27, s155_29, s155_31, s155_34, s155_35, s155_37, s155_38, s155_42, s155_44, s155_47, s155_49, s155_51, s155_52, s155_55, s155_56, s155_58, s155_59, s155_62, s155_65, s155_66, s155_69, s155_70, s155_71, s155_73, s155_76, s155_79, s155_81, s155_82, s155_85, s155_86, s155_89, s155_90, s155_91, s155_94, s155_97, s155_98, eq_self, bnd_l, bnd_r, Option.toList_some, Option.toList_none, List.cons_append, List.nil_append, Nat.add_zero, Nat.zero_add, ↓reduceIte, nI_add, nI_mul, nI_subI, lt_t, lt_f, eq_f, lt_m1, m1_lt, eq_m1, m1_eq, i0, c_holds]
theorem q_table0 {r p : Nat} (hP : RP σ r) (hp : p < 10) : exC X 155 [.ref 35, .int (nI p)] (WW σ t) = ans (plcF (fun c => nI (tbN (σ 54) r c)) (nI p) 10) (WW (u2 σ 35 0 (nI 0)) t) := by
  rw [ent_155]
  have i0 : exC X 109 [.int (nI p), .int (nI 0), .int (nI 9)] (WW σ t) = ans (nI 1) (WW σ t) := isIn_in (by omega) (by omega) (by omega)
  have hL := l_table1 (X := X) (σ := (u2 σ 35 0 (nI 0))) (t := t) (at9 := nI p) (r := r) hP (Q := ans (plcF (fun c => nI (tbN (σ 54) r c)) (nI p) 10) (WW (u2 σ 35 0 (nI 0)) t)) (fun k s => by
    simp (disch := omega) only [s155_97, s155_98, eq_self, bnd_l, bnd_r, Option.toList_some, Option.toList_none, List.cons_append, List.nil_append, Nat.add_zero, Nat.zero_add, ↓reduceIte, nI_add, nI_mul, nI_subI, lt_t, lt_f, eq_f, lt_m1, m1_lt, eq_m1, m1_eq]
    rfl) 10 0 (by omega) none none
  rw [plcF] at hL
  simp (disch := omega) only [s155_0, s155_1, s155_2, s155_3, s155_5, s155_8, s155_11, s155_12, s155_15, s155_16, s155_19, s155_22, s155_23, s155_24, s155_25, s155_26, s155_27, eq_self, bnd_l, bnd_r, Option.toList_some, Option.toList_none, List.cons_append, List.nil_append, Nat.add_zero, Nat.zero_add, ↓reduceIte, nI_add, nI_mul, nI_subI, lt_t, lt_f, eq_f, lt_m1, m1_lt, eq_m1, m1_eq, i0, c_holds]
  exact hL
/-! legs opened -/
/-- the world with the cars of L in the order of leg i -/
def JO (σ : Nat → Nat → Int32) (i : Nat) (L : List Nat) : Nat → Nat → Int32 :=
  fun p => if p = 38 then (fun j => if 10 * i ≤ j ∧ j < 10 * i + L.length then nI (L.getD (j - 10 * i) 0) else σ 38 j) else if p = 39 then upd (σ 39) i (nI L.length) else σ p
theorem JO_39 {i : Nat} {L : List Nat} : JO σ i L 39 i = nI L.length := by
  unfold JO
  rw [if_neg (by omega), if_pos rfl, upd_eq]
theorem JO_ne {i p : Nat} {L : List Nat} (h1 : p ≠ 38) (h2 : p ≠ 39) : JO σ i L p = σ p := by
  unfold JO
  rw [if_neg h1, if_neg h2]
theorem JO_38 {i k : Nat} {L : List Nat} (hk : k < L.length) : JO σ i L 38 (10 * i + k) = nI (L.getD k 0) := by
  unfold JO
  rw [if_pos rfl, if_pos ⟨by omega, by omega⟩, Nat.add_sub_cancel_left]
theorem JO_nil {i : Nat} : u2 σ 39 i (nI 0) = JO σ i [] := by
  funext p
  unfold JO u2
  by_cases h1 : p = 38
  · subst h1
    rw [if_neg (by omega), if_pos rfl]
    funext j
    rw [if_neg (by simp)]
  · rw [if_neg h1]
    rfl
theorem JO_set {i k c : Nat} {L : List Nat} (hk : k < L.length) : u2 (JO σ i L) 38 (10 * i + k) (nI c) = JO σ i (L.set k c) := by
  funext p
  unfold u2
  by_cases h1 : p = 38
  · subst h1
    rw [if_pos rfl]
    funext j
    unfold upd
    by_cases h2 : j = 10 * i + k
    · subst h2
      rw [if_pos rfl, JO_38 (by rw [List.length_set]; exact hk)]
      congr 1
      simp [List.getD_eq_getElem?_getD, hk]
    · rw [if_neg h2]
      unfold JO
      rw [if_pos rfl, if_pos rfl, List.length_set]
      by_cases h3 : 10 * i ≤ j ∧ j < 10 * i + L.length
      · rw [if_pos h3, if_pos h3]
        congr 1
        rw [List.getD_eq_getElem?_getD, List.getD_eq_getElem?_getD, List.getElem?_set_ne (by omega)]
      · rw [if_neg h3, if_neg h3]
  · rw [if_neg h1]
    unfold JO
    rw [if_neg h1, if_neg h1, List.length_set]
theorem JO_add {i c : Nat} {L : List Nat} : u2 (u2 (JO σ i L) 38 (10 * i + L.length) (nI c)) 39 i (nI (L.length + 1)) = JO σ i (L ++ [c]) := by
  funext p
  unfold u2
  by_cases h1 : p = 39
  · subst h1
    rw [if_pos rfl]
    unfold JO
    rw [if_neg (by omega), if_neg (by omega), if_pos rfl, if_neg (by omega), if_pos rfl, upd_upd, List.length_append]
    rfl
  · rw [if_neg h1]
    by_cases h2 : p = 38
    · subst h2
      rw [if_pos rfl]
      funext j
      unfold upd
      by_cases h3 : j = 10 * i + L.length
      · subst h3
        rw [if_pos rfl, JO_38 (by rw [List.length_append]; exact Nat.lt_succ_self _)]
        congr 1
        simp [List.getD_eq_getElem?_getD]
      · rw [if_neg h3]
        unfold JO
        rw [if_pos rfl, if_pos rfl, List.length_append, List.length_singleton]
        by_cases h4 : 10 * i ≤ j ∧ j < 10 * i + L.length
        · rw [if_pos h4, if_pos ⟨h4.1, by omega⟩]
          congr 1
          rw [List.getD_eq_getElem?_getD, List.getD_eq_getElem?_getD, List.getElem?_append_left (by omega)]
        · rw [if_neg h4, if_neg (by omega)]
    · rw [if_neg h2]
      unfold JO
      rw [if_neg h2, if_neg h1, if_neg h2, if_neg h1]
theorem o_joins {i c : Nat} {L : List Nat} (hi : i < 20) (hL : L.length < 10) : exC X 115 [.ref 35, .int (nI i), .int (nI c)] (WW (JO σ i L) t) = ansV (WW (JO σ i (L ++ [c])) t) := by
  have := r_joins (X := X) (σ := JO σ i L) (t := t) (c := c) hi (n := L.length) JO_39 hL
  rw [JO_add] at this
  exact this
/-- the cars that are in the ranks, by their numbers -/
def numL (rk : Nat → Int32) (j : Nat) : List Nat := (List.range j).filter fun c => !decide (rk c = -1)
theorem numL_t {rk : Nat → Int32} {j : Nat} (h : ¬ rk j = -1) : numL rk (j + 1) = numL rk j ++ [j] := by
  unfold numL
  rw [List.range_succ, List.filter_append]
  simp [h]
theorem numL_f {rk : Nat → Int32} {j : Nat} (h : rk j = -1) : numL rk (j + 1) = numL rk j := by
  unfold numL
  rw [List.range_succ, List.filter_append]
  simp [h]
theorem numL_le {rk : Nat → Int32} {j : Nat} : (numL rk j).length ≤ j := by
  have := List.length_filter_le (fun c => !decide (rk c = -1)) (List.range j)
  rw [List.length_range] at this
  exact this
/-- the cars by their places -/
def rkL (rk : Nat → Int32) (j : Nat) : List Nat := (List.range j).filterMap fun p => if plcF rk (nI p) 10 = -1 then none else some (cnt (plcF rk (nI p) 10))
theorem rkL_t {rk : Nat → Int32} {j : Nat} (h : ¬ plcF rk (nI j) 10 = -1) : rkL rk (j + 1) = rkL rk j ++ [cnt (plcF rk (nI j) 10)] := by
  unfold rkL
  rw [List.range_succ, List.filterMap_append]
  simp [h]
theorem rkL_f {rk : Nat → Int32} {j : Nat} (h : plcF rk (nI j) 10 = -1) : rkL rk (j + 1) = rkL rk j := by
  unfold rkL
  rw [List.range_succ, List.filterMap_append]
  simp [h]
theorem rkL_le {rk : Nat → Int32} {j : Nat} : (rkL rk j).length ≤ j := by
  have := List.length_filterMap_le (fun p => if plcF rk (nI p) 10 = -1 then none else some (cnt (plcF rk (nI p) 10))) (List.range j)
  rw [List.length_range] at this
  exact this
theorem l_openN {i : Nat} {w o3 o4 : Value} {o6 o7 : Option Value} (hi : i < 20) {Q : Option rR} (hQ : exM X 116 142 [some (.ref 35), some (.int (nI i)), some w, some o3, some o4, some (.int (nI 10)), o6, o7] [] (WW (JO σ i (numL (σ 55) 10)) t) 0 0 = Q) :
    ∀ n j, j + n = 10 → exM X 116 111 [some (.ref 35), some (.int (nI i)), some w, some o3, some o4, some (.int (nI j)), o6, o7] [] (WW (JO σ i (numL (σ 55) j)) t) 0 0 = Q := by
  intro n
  induction n with
  | zero =>
    intro j hj
    have e : j = 10 := by omega
    subst e
    simp (disch := omega) only [s116_111, s116_113, s116_115, s116_118, s116_119, s116_122, s116_124, s116_125, s116_126, s116_129, s116_130, s116_131, s116_133, s116_136, s116_139, eq_self, bnd_l, bnd_r, Option.toList_some, Option.toList_none, List.cons_append, List.nil_append, Nat.add_zero, Nat.zero_add, ↓reduceIte, nI_add, nI_mul, nI_subI, lt_t, lt_f, eq_f, lt_m1, m1_lt, eq_m1, m1_eq]
    exact hQ
  | succ n ih =>
    intro j hj
    rw [s116_111]
    have i1 := ih (j + 1) (by omega)
    have hle := @numL_le (σ 55) j
    have hj2 := o_joins (X := X) (σ := σ) (t := t) (c := j) (L := numL (σ 55) j) hi (by omega)
    by_cases hr : σ 55 j = -1
    · rw [numL_f hr] at i1
      simp (disch := omega) only [s116_113, s116_115, s116_118, s116_119, s116_122, s116_124, s116_125, s116_126, s116_129, s116_130, s116_131, s116_133, s116_136, s116_139, eq_self, bnd_l, bnd_r, Option.toList_some, Option.toList_none, List.cons_append, List.nil_append, Nat.add_zero, Nat.zero_add, ↓reduceIte, nI_add, nI_mul, nI_subI, lt_t, lt_f, eq_f, lt_m1, m1_lt, eq_m1, m1_eq, JO_ne, hr]
      exact i1
    · rw [numL_t hr] at i1
      simp (disch := omega) only [s116_113, s116_115, s116_118, s116_119, s116_122, s116_124, s116_125, s116_126, s116_129, s116_130, s116_131, s116_133, s116_136, s116_139, eq_self, bnd_l, bnd_r, Option.toList_some, Option.toList_none, List.cons_append, List.nil_append, Nat.add_zero, Nat.zero_add, ↓reduceIte, nI_add, nI_mul, nI_subI, lt_t, lt_f, eq_f, lt_m1, m1_lt, eq_m1, m1_eq, JO_ne, hr, hj2]
      exact i1
theorem l_openR {i : Nat} {w : Int32} {o3 o4 : Value} {o7 : Option Value} (hi : i < 20) (hw : ¬ w = nI 0) {Q : Option rR} (hQ : ∀ o6, exM X 116 183 [some (.ref 35), some (.int (nI i)), some (.int w), some o3, some o4, some (.int (nI 10)), o6, o7] [] (WW (JO σ i (rkL (σ 55) 10)) t) 0 0 = Q) :
    ∀ n j, j + n = 10 → ∀ o6, exM X 116 145 [some (.ref 35), some (.int (nI i)), some (.int w), some o3, some o4, some (.int (nI j)), o6, o7] [] (WW (JO σ i (rkL (σ 55) j)) t) 0 0 = Q := by
  intro n
  induction n with
  | zero =>
    intro j hj o6
    have e : j = 10 := by omega
    subst e
    simp (disch := omega) only [s116_145, s116_147, s116_149, s116_152, s116_153, s116_156, s116_157, s116_159, s116_162, s116_164, s116_166, s116_167, s116_170, s116_171, s116_172, s116_174, s116_177, s116_180, eq_self, bnd_l, bnd_r, Option.toList_some, Option.toList_none, List.cons_append, List.nil_append, Nat.add_zero, Nat.zero_add, ↓reduceIte, nI_add, nI_mul, nI_subI, lt_t, lt_f, eq_f, lt_m1, m1_lt, eq_m1, m1_eq]
    exact hQ _
  | succ n ih =>
    intro j hj o6
    rw [s116_145]
    have i1 := ih (j + 1) (by omega)
    have hle := @rkL_le (σ 55) j
    have hr0 := r_withRank (X := X) (σ := JO σ i (rkL (σ 55) j)) (t := t) (at9 := nI j)
    rw [JO_ne (by omega) (by omega)] at hr0
    by_cases hr : plcF (σ 55) (nI j) 10 = -1
    · rw [rkL_f hr] at i1
      simp (disch := omega) only [s116_147, s116_149, s116_152, s116_153, s116_156, s116_157, s116_159, s116_162, s116_164, s116_166, s116_167, s116_170, s116_171, s116_172, s116_174, s116_177, s116_180, eq_self, bnd_l, bnd_r, Option.toList_some, Option.toList_none, List.cons_append, List.nil_append, Nat.add_zero, Nat.zero_add, ↓reduceIte, nI_add, nI_mul, nI_subI, lt_t, lt_f, eq_f, lt_m1, m1_lt, eq_m1, m1_eq, hw, hr0, hr]
      exact i1 _
    · obtain ⟨a, ha, e⟩ := (plcF_or (σ 55) (nI j) 10).resolve_left hr
      have hj2 := o_joins (X := X) (σ := σ) (t := t) (c := a) (L := rkL (σ 55) j) hi (by omega)
      rw [rkL_t hr, e, cnt_nI (by omega)] at i1
      simp (disch := omega) only [s116_147, s116_149, s116_152, s116_153, s116_156, s116_157, s116_159, s116_162, s116_164, s116_166, s116_167, s116_170, s116_171, s116_172, s116_174, s116_177, s116_180, eq_self, bnd_l, bnd_r, Option.toList_some, Option.toList_none, List.cons_append, List.nil_append, Nat.add_zero, Nat.zero_add, ↓reduceIte, nI_add, nI_mul, nI_subI, lt_t, lt_f, eq_f, lt_m1, m1_lt, eq_m1, m1_eq, hw, hr0, hr, e, hj2]
      exact i1 _
def rev5 (L : List Nat) : List Nat := (L.take 5).reverse ++ L.drop 5
theorem rev5_len {L : List Nat} : (rev5 L).length = L.length := by
  unfold rev5
  rw [List.length_append, List.length_reverse, List.length_take, List.length_drop]
  omega
theorem d02 : (nI 0 : Int32) / nI 2 = nI 0 := by decide +kernel
theorem d12 : (nI 1 : Int32) / nI 2 = nI 0 := by decide +kernel
theorem d22 : (nI 2 : Int32) / nI 2 = nI 1 := by decide +kernel
theorem d32 : (nI 3 : Int32) / nI 2 = nI 1 := by decide +kernel
theorem d42 : (nI 4 : Int32) / nI 2 = nI 2 := by decide +kernel
theorem d52 : (nI 5 : Int32) / nI 2 = nI 2 := by decide +kernel
theorem e20 : ¬ nI 2 = 0 := nI_nz (by omega) (by omega)
/-- not turned round -/
theorem l_openW {i : Nat} {w : Int32} {o3 o4 o5 : Value} {o6 o7 : Option Value} {L : List Nat} (hi : i < 20) (hw : ¬ w = nI 2) (hL : L.length ≤ 10) {Q : Option rR} (hQ : ∀ o5, exM X 116 290 [some (.ref 35), some (.int (nI i)), some (.int w), some o3, some o4, some o5, some (.int (nI 0)), o7] [] (WW (JO σ i L) t) 0 0 = Q) :
    exM X 116 183 [some (.ref 35), some (.int (nI i)), some (.int w), some o3, some o4, some o5, o6, o7] [] (WW (JO σ i L) t) 0 0 = Q := by
  have hk : L.length = 0 ∨ L.length = 1 ∨ L.length = 2 ∨ L.length = 3 ∨ L.length = 4 ∨ 5 ≤ L.length := by omega
  rcases hk with hk | hk | hk | hk | hk | hk
  · simp (disch := omega) only [s116_183, s116_184, s116_187, s116_188, s116_189, s116_190, s116_193, s116_194, s116_197, s116_198, s116_199, s116_202, s116_203, s116_205, s116_206, s116_208, s116_210, s116_212, s116_214, s116_217, s116_218, s116_219, s116_222, s116_223, s116_226, s116_228, s116_229, s116_230, s116_232, s116_233, s116_234, s116_236, s116_237, s116_240, s116_242, s116_243, s116_244, s116_246, s116_247, s116_248, s116_251, s116_253, s116_254, s116_255, s116_257, s116_258, s116_259, s116_260, s116_262, s116_263, s116_264, s116_265, s116_266, s116_269, s116_271, s116_272, s116_273, s116_275, s116_276, s116_277, s116_278, s116_280, s116_281, s116_283, s116_284, s116_287, eq_self, bnd_l, bnd_r, Option.toList_some, Option.toList_none, List.cons_append, List.nil_append, Nat.add_zero, Nat.zero_add, ↓reduceIte, nI_add, nI_mul, nI_subI, lt_t, lt_f, eq_f, lt_m1, m1_lt, eq_m1, m1_eq, JO_39, hk, s116_213 e20, d02]
    exact hQ _
  · simp (disch := omega) only [s116_183, s116_184, s116_187, s116_188, s116_189, s116_190, s116_193, s116_194, s116_197, s116_198, s116_199, s116_202, s116_203, s116_205, s116_206, s116_208, s116_210, s116_212, s116_214, s116_217, s116_218, s116_219, s116_222, s116_223, s116_226, s116_228, s116_229, s116_230, s116_232, s116_233, s116_234, s116_236, s116_237, s116_240, s116_242, s116_243, s116_244, s116_246, s116_247, s116_248, s116_251, s116_253, s116_254, s116_255, s116_257, s116_258, s116_259, s116_260, s116_262, s116_263, s116_264, s116_265, s116_266, s116_269, s116_271, s116_272, s116_273, s116_275, s116_276, s116_277, s116_278, s116_280, s116_281, s116_283, s116_284, s116_287, eq_self, bnd_l, bnd_r, Option.toList_some, Option.toList_none, List.cons_append, List.nil_append, Nat.add_zero, Nat.zero_add, ↓reduceIte, nI_add, nI_mul, nI_subI, lt_t, lt_f, eq_f, lt_m1, m1_lt, eq_m1, m1_eq, JO_39, hk, s116_213 e20, d12]
    exact hQ _
  · simp (disch := omega) only [s116_183, s116_184, s116_187, s116_188, s116_189, s116_190, s116_193, s116_194, s116_197, s116_198, s116_199, s116_202, s116_203, s116_205, s116_206, s116_208, s116_210, s116_212, s116_214, s116_217, s116_218, s116_219, s116_222, s116_223, s116_226, s116_228, s116_229, s116_230, s116_232, s116_233, s116_234, s116_236, s116_237, s116_240, s116_242, s116_243, s116_244, s116_246, s116_247, s116_248, s116_251, s116_253, s116_254, s116_255, s116_257, s116_258, s116_259, s116_260, s116_262, s116_263, s116_264, s116_265, s116_266, s116_269, s116_271, s116_272, s116_273, s116_275, s116_276, s116_277, s116_278, s116_280, s116_281, s116_283, s116_284, s116_287, eq_self, bnd_l, bnd_r, Option.toList_some, Option.toList_none, List.cons_append, List.nil_append, Nat.add_zero, Nat.zero_add, ↓reduceIte, nI_add, nI_mul, nI_subI, lt_t, lt_f, eq_f, lt_m1, m1_lt, eq_m1, m1_eq, JO_39, hk, s116_213 e20, d22, hw]
    exact hQ _
  · simp (disch := omega) only [s116_183, s116_184, s116_187, s116_188, s116_189, s116_190, s116_193, s116_194, s116_197, s116_198, s116_199, s116_202, s116_203, s116_205, s116_206, s116_208, s116_210, s116_212, s116_214, s116_217, s116_218, s116_219, s116_222, s116_223, s116_226, s116_228, s116_229, s116_230, s116_232, s116_233, s116_234, s116_236, s116_237, s116_240, s116_242, s116_243, s116_244, s116_246, s116_247, s116_248, s116_251, s116_253, s116_254, s116_255, s116_257, s116_258, s116_259, s116_260, s116_262, s116_263, s116_264, s116_265, s116_266, s116_269, s116_271, s116_272, s116_273, s116_275, s116_276, s116_277, s116_278, s116_280, s116_281, s116_283, s116_284, s116_287, eq_self, bnd_l, bnd_r, Option.toList_some, Option.toList_none, List.cons_append, List.nil_append, Nat.add_zero, Nat.zero_add, ↓reduceIte, nI_add, nI_mul, nI_subI, lt_t, lt_f, eq_f, lt_m1, m1_lt, eq_m1, m1_eq, JO_39, hk, s116_213 e20, d32, hw]
    exact hQ _
  · simp (disch := omega) only [s116_183, s116_184, s116_187, s116_188, s116_189, s116_190, s116_193, s116_194, s116_197, s116_198, s116_199, s116_202, s116_203, s116_205, s116_206, s116_208, s116_210, s116_212, s116_214, s116_217, s116_218, s116_219, s116_222, s116_223, s116_226, s116_228, s116_229, s116_230, s116_232, s116_233, s116_234, s116_236, s116_237, s116_240, s116_242, s116_243, s116_244, s116_246, s116_247, s116_248, s116_251, s116_253, s116_254, s116_255, s116_257, s116_258, s116_259, s116_260, s116_262, s116_263, s116_264, s116_265, s116_266, s116_269, s116_271, s116_272, s116_273, s116_275, s116_276, s116_277, s116_278, s116_280, s116_281, s116_283, s116_284, s116_287, eq_self, bnd_l, bnd_r, Option.toList_some, Option.toList_none, List.cons_append, List.nil_append, Nat.add_zero, Nat.zero_add, ↓reduceIte, nI_add, nI_mul, nI_subI, lt_t, lt_f, eq_f, lt_m1, m1_lt, eq_m1, m1_eq, JO_39, hk, s116_213 e20, d42, hw]
    exact hQ _
  · simp (disch := omega) only [s116_183, s116_184, s116_187, s116_188, s116_189, s116_190, s116_193, s116_194, s116_197, s116_198, s116_199, s116_202, s116_203, s116_205, s116_206, s116_208, s116_210, s116_212, s116_214, s116_217, s116_218, s116_219, s116_222, s116_223, s116_226, s116_228, s116_229, s116_230, s116_232, s116_233, s116_234, s116_236, s116_237, s116_240, s116_242, s116_243, s116_244, s116_246, s116_247, s116_248, s116_251, s116_253, s116_254, s116_255, s116_257, s116_258, s116_259, s116_260, s116_262, s116_263, s116_264, s116_265, s116_266, s116_269, s116_271, s116_272, s116_273, s116_275, s116_276, s116_277, s116_278, s116_280, s116_281, s116_283, s116_284, s116_287, eq_self, bnd_l, bnd_r, Option.toList_some, Option.toList_none, List.cons_append, List.nil_append, Nat.add_zero, Nat.zero_add, ↓reduceIte, nI_add, nI_mul, nI_subI, lt_t, lt_f, eq_f, lt_m1, m1_lt, eq_m1, m1_eq, JO_39, s116_213 e20, d52, hw]
    exact hQ _
end REF8
