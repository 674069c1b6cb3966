/-! THE LAW: its wrappers -/
theorem eq_m2 {a : Nat} (ha : a < 2 ^ 31) : (nI a = -2) = False := eq_false fun e => by
  have := congrArg Int32.toInt e
  rw [nI_toInt ha, show (-2 : Int32).toInt = -2 by decide +kernel] at this
  omega
theorem m1_m2 : ((-1 : Int32) = -2) = False := eq_false (by decide +kernel)
theorem m2_m1 : ((-2 : Int32) = -1) = False := eq_false (by decide +kernel)
theorem m1m1 : ((-1 : Int32) < -1) = False := eq_false (by decide +kernel)
theorem m1_z : ((-1 : Int32) < nI 0) = True := eq_true (by decide +kernel)
section WRP
variable {X : rX} {σ σ' : Nat → Nat → Int32} {t : rH}
/-- what a wrapper answers where the call throws -/
abbrev nay (h : rH) : Option rR := some (.inl (some (.int (-2))), h, 1, 6)
theorem w_items {a b : Int32} {v : Int32} (i1 : exC X 80 [.ref 0, .int a, .int b] (WW σ t) = ans v (WW σ' t)) : exC X 106 [.ref 0, .int a, .int b] (WW σ t) = ans v (WW σ' t) := by
  rw [ent_106]
  simp (disch := omega) only [s106_0, s106_1, s106_2, s106_3, t106_0, s106_6, s106_7, s106_8, s106_10, c10, c100, c6, eq_self, bnd_l, bnd_r, Option.toList_some, Option.toList_none, List.cons_append, List.nil_append, Nat.add_zero, Nat.zero_add, ↓reduceIte, nI_add, nI_mul, nI_subI, lt_t, lt_f, eq_f, lt_m1, m1_lt, eq_m1, m1_eq, i1]
theorem n_items {a b : Int32} (i1 : exC X 80 [.ref 0, .int a, .int b] (WW σ t) = exT 0 (WW σ t)) : exC X 106 [.ref 0, .int a, .int b] (WW σ t) = nay (WW σ t) := by
  rw [ent_106]
  simp (disch := omega) only [s106_0, s106_1, s106_2, s106_3, t106_0, s106_6, s106_7, s106_8, s106_10, c10, c100, c6, eq_self, bnd_l, bnd_r, Option.toList_some, Option.toList_none, List.cons_append, List.nil_append, Nat.add_zero, Nat.zero_add, ↓reduceIte, nI_add, nI_mul, nI_subI, lt_t, lt_f, eq_f, lt_m1, m1_lt, eq_m1, m1_eq, i1]
theorem w_opens {a b : Int32} {v : Int32} (i1 : exC X 81 [.ref 0, .int a, .int b] (WW σ t) = ans v (WW σ' t)) : exC X 107 [.ref 0, .int a, .int b] (WW σ t) = ans v (WW σ' t) := by
  rw [ent_107]
  simp (disch := omega) only [s107_0, s107_1, s107_2, s107_3, t107_0, s107_6, s107_7, s107_8, s107_10, c10, c100, c6, eq_self, bnd_l, bnd_r, Option.toList_some, Option.toList_none, List.cons_append, List.nil_append, Nat.add_zero, Nat.zero_add, ↓reduceIte, nI_add, nI_mul, nI_subI, lt_t, lt_f, eq_f, lt_m1, m1_lt, eq_m1, m1_eq, i1]
theorem n_opens {a b : Int32} (i1 : exC X 81 [.ref 0, .int a, .int b] (WW σ t) = exT 0 (WW σ t)) : exC X 107 [.ref 0, .int a, .int b] (WW σ t) = nay (WW σ t) := by
  rw [ent_107]
  simp (disch := omega) only [s107_0, s107_1, s107_2, s107_3, t107_0, s107_6, s107_7, s107_8, s107_10, c10, c100, c6, eq_self, bnd_l, bnd_r, Option.toList_some, Option.toList_none, List.cons_append, List.nil_append, Nat.add_zero, Nat.zero_add, ↓reduceIte, nI_add, nI_mul, nI_subI, lt_t, lt_f, eq_f, lt_m1, m1_lt, eq_m1, m1_eq, i1]
theorem w_stamps {a b c : Int32} {v : Int32} (i1 : exC X 84 [.ref 0, .int a, .int b, .int c] (WW σ t) = ans v (WW σ' t)) : exC X 108 [.ref 0, .int a, .int b, .int c] (WW σ t) = ans v (WW σ' t) := by
  rw [ent_108]
  simp (disch := omega) only [s108_0, s108_1, s108_2, s108_3, s108_4, t108_0, s108_7, s108_8, s108_10, s108_12, c10, c100, c6, eq_self, bnd_l, bnd_r, Option.toList_some, Option.toList_none, List.cons_append, List.nil_append, Nat.add_zero, Nat.zero_add, ↓reduceIte, nI_add, nI_mul, nI_subI, lt_t, lt_f, eq_f, lt_m1, m1_lt, eq_m1, m1_eq, i1]
theorem n_stamps {a b c : Int32} (i1 : exC X 84 [.ref 0, .int a, .int b, .int c] (WW σ t) = exT 0 (WW σ t)) : exC X 108 [.ref 0, .int a, .int b, .int c] (WW σ t) = nay (WW σ t) := by
  rw [ent_108]
  simp (disch := omega) only [s108_0, s108_1, s108_2, s108_3, s108_4, t108_0, s108_7, s108_8, s108_10, s108_12, c10, c100, c6, eq_self, bnd_l, bnd_r, Option.toList_some, Option.toList_none, List.cons_append, List.nil_append, Nat.add_zero, Nat.zero_add, ↓reduceIte, nI_add, nI_mul, nI_subI, lt_t, lt_f, eq_f, lt_m1, m1_lt, eq_m1, m1_eq, i1]
theorem w_delays {a b c : Int32} {v : Int32} (i1 : exC X 85 [.ref 0, .int a, .int b, .int c] (WW σ t) = ans v (WW σ' t)) : exC X 109 [.ref 0, .int a, .int b, .int c] (WW σ t) = ans v (WW σ' t) := by
  rw [ent_109]
  simp (disch := omega) only [s109_0, s109_1, s109_2, s109_3, s109_4, t109_0, s109_7, s109_8, s109_10, s109_12, c10, c100, c6, eq_self, bnd_l, bnd_r, Option.toList_some, Option.toList_none, List.cons_append, List.nil_append, Nat.add_zero, Nat.zero_add, ↓reduceIte, nI_add, nI_mul, nI_subI, lt_t, lt_f, eq_f, lt_m1, m1_lt, eq_m1, m1_eq, i1]
theorem n_delays {a b c : Int32} (i1 : exC X 85 [.ref 0, .int a, .int b, .int c] (WW σ t) = exT 0 (WW σ t)) : exC X 109 [.ref 0, .int a, .int b, .int c] (WW σ t) = nay (WW σ t) := by
  rw [ent_109]
  simp (disch := omega) only [s109_0, s109_1, s109_2, s109_3, s109_4, t109_0, s109_7, s109_8, s109_10, s109_12, c10, c100, c6, eq_self, bnd_l, bnd_r, Option.toList_some, Option.toList_none, List.cons_append, List.nil_append, Nat.add_zero, Nat.zero_add, ↓reduceIte, nI_add, nI_mul, nI_subI, lt_t, lt_f, eq_f, lt_m1, m1_lt, eq_m1, m1_eq, i1]
theorem w_finishes {a b c d : Int32} (i1 : exC X 86 [.ref 0, .int a, .int b, .int c, .int d] (WW σ t) = ansV (WW σ' t)) : exC X 110 [.ref 0, .int a, .int b, .int c, .int d] (WW σ t) = ans (nI 0) (WW σ' t) := by
  rw [ent_110]
  simp (disch := omega) only [s110_0, s110_1, s110_2, s110_3, s110_4, s110_6, t110_0, s110_9, s110_10, s110_11, s110_13, s110_15, c10, c100, c6, eq_self, bnd_l, bnd_r, Option.toList_some, Option.toList_none, List.cons_append, List.nil_append, Nat.add_zero, Nat.zero_add, ↓reduceIte, nI_add, nI_mul, nI_subI, lt_t, lt_f, eq_f, lt_m1, m1_lt, eq_m1, m1_eq, i1]
theorem n_finishes {a b c d : Int32} (i1 : exC X 86 [.ref 0, .int a, .int b, .int c, .int d] (WW σ t) = exT 0 (WW σ t)) : exC X 110 [.ref 0, .int a, .int b, .int c, .int d] (WW σ t) = nay (WW σ t) := by
  rw [ent_110]
  simp (disch := omega) only [s110_0, s110_1, s110_2, s110_3, s110_4, s110_6, t110_0, s110_9, s110_10, s110_11, s110_13, s110_15, c10, c100, c6, eq_self, bnd_l, bnd_r, Option.toList_some, Option.toList_none, List.cons_append, List.nil_append, Nat.add_zero, Nat.zero_add, ↓reduceIte, nI_add, nI_mul, nI_subI, lt_t, lt_f, eq_f, lt_m1, m1_lt, eq_m1, m1_eq, i1]
theorem w_helds {a b c : Int32} {v : Int32} (i1 : exC X 87 [.ref 0, .int a, .int b, .int c] (WW σ t) = ans v (WW σ' t)) : exC X 111 [.ref 0, .int a, .int b, .int c] (WW σ t) = ans v (WW σ' t) := by
  rw [ent_111]
  simp (disch := omega) only [s111_0, s111_1, s111_2, s111_3, s111_4, t111_0, s111_7, s111_8, s111_10, s111_12, c10, c100, c6, eq_self, bnd_l, bnd_r, Option.toList_some, Option.toList_none, List.cons_append, List.nil_append, Nat.add_zero, Nat.zero_add, ↓reduceIte, nI_add, nI_mul, nI_subI, lt_t, lt_f, eq_f, lt_m1, m1_lt, eq_m1, m1_eq, i1]
theorem n_helds {a b c : Int32} (i1 : exC X 87 [.ref 0, .int a, .int b, .int c] (WW σ t) = exT 0 (WW σ t)) : exC X 111 [.ref 0, .int a, .int b, .int c] (WW σ t) = nay (WW σ t) := by
  rw [ent_111]
  simp (disch := omega) only [s111_0, s111_1, s111_2, s111_3, s111_4, t111_0, s111_7, s111_8, s111_10, s111_12, c10, c100, c6, eq_self, bnd_l, bnd_r, Option.toList_some, Option.toList_none, List.cons_append, List.nil_append, Nat.add_zero, Nat.zero_add, ↓reduceIte, nI_add, nI_mul, nI_subI, lt_t, lt_f, eq_f, lt_m1, m1_lt, eq_m1, m1_eq, i1]
theorem w_awards {a b c : Int32} {v : Int32} (i1 : exC X 88 [.ref 0, .int a, .int b, .int c] (WW σ t) = ans v (WW σ' t)) : exC X 112 [.ref 0, .int a, .int b, .int c] (WW σ t) = ans v (WW σ' t) := by
  rw [ent_112]
  simp (disch := omega) only [s112_0, s112_1, s112_2, s112_3, s112_4, t112_0, s112_7, s112_8, s112_10, s112_12, c10, c100, c6, eq_self, bnd_l, bnd_r, Option.toList_some, Option.toList_none, List.cons_append, List.nil_append, Nat.add_zero, Nat.zero_add, ↓reduceIte, nI_add, nI_mul, nI_subI, lt_t, lt_f, eq_f, lt_m1, m1_lt, eq_m1, m1_eq, i1]
theorem n_awards {a b c : Int32} (i1 : exC X 88 [.ref 0, .int a, .int b, .int c] (WW σ t) = exT 0 (WW σ t)) : exC X 112 [.ref 0, .int a, .int b, .int c] (WW σ t) = nay (WW σ t) := by
  rw [ent_112]
  simp (disch := omega) only [s112_0, s112_1, s112_2, s112_3, s112_4, t112_0, s112_7, s112_8, s112_10, s112_12, c10, c100, c6, eq_self, bnd_l, bnd_r, Option.toList_some, Option.toList_none, List.cons_append, List.nil_append, Nat.add_zero, Nat.zero_add, ↓reduceIte, nI_add, nI_mul, nI_subI, lt_t, lt_f, eq_f, lt_m1, m1_lt, eq_m1, m1_eq, i1]
theorem w_allocates {a b : Int32} {v : Int32} (i1 : exC X 90 [.ref 0, .int a, .int b] (WW σ t) = ans v (WW σ' t)) : exC X 113 [.ref 0, .int a, .int b] (WW σ t) = ans v (WW σ' t) := by
  rw [ent_113]
  simp (disch := omega) only [s113_0, s113_1, s113_2, s113_3, t113_0, s113_6, s113_7, s113_8, s113_10, c10, c100, c6, eq_self, bnd_l, bnd_r, Option.toList_some, Option.toList_none, List.cons_append, List.nil_append, Nat.add_zero, Nat.zero_add, ↓reduceIte, nI_add, nI_mul, nI_subI, lt_t, lt_f, eq_f, lt_m1, m1_lt, eq_m1, m1_eq, i1]
theorem n_allocates {a b : Int32} (i1 : exC X 90 [.ref 0, .int a, .int b] (WW σ t) = exT 0 (WW σ t)) : exC X 113 [.ref 0, .int a, .int b] (WW σ t) = nay (WW σ t) := by
  rw [ent_113]
  simp (disch := omega) only [s113_0, s113_1, s113_2, s113_3, t113_0, s113_6, s113_7, s113_8, s113_10, c10, c100, c6, eq_self, bnd_l, bnd_r, Option.toList_some, Option.toList_none, List.cons_append, List.nil_append, Nat.add_zero, Nat.zero_add, ↓reduceIte, nI_add, nI_mul, nI_subI, lt_t, lt_f, eq_f, lt_m1, m1_lt, eq_m1, m1_eq, i1]
theorem w_retires {a b : Int32} (i1 : exC X 92 [.ref 0, .int a, .int b] (WW σ t) = ansV (WW σ' t)) : exC X 114 [.ref 0, .int a, .int b] (WW σ t) = ans (nI 0) (WW σ' t) := by
  rw [ent_114]
  simp (disch := omega) only [s114_0, s114_1, s114_2, s114_3, t114_0, s114_6, s114_7, s114_8, s114_9, s114_11, c10, c100, c6, eq_self, bnd_l, bnd_r, Option.toList_some, Option.toList_none, List.cons_append, List.nil_append, Nat.add_zero, Nat.zero_add, ↓reduceIte, nI_add, nI_mul, nI_subI, lt_t, lt_f, eq_f, lt_m1, m1_lt, eq_m1, m1_eq, i1]
theorem n_retires {a b : Int32} (i1 : exC X 92 [.ref 0, .int a, .int b] (WW σ t) = exT 0 (WW σ t)) : exC X 114 [.ref 0, .int a, .int b] (WW σ t) = nay (WW σ t) := by
  rw [ent_114]
  simp (disch := omega) only [s114_0, s114_1, s114_2, s114_3, t114_0, s114_6, s114_7, s114_8, s114_9, s114_11, c10, c100, c6, eq_self, bnd_l, bnd_r, Option.toList_some, Option.toList_none, List.cons_append, List.nil_append, Nat.add_zero, Nat.zero_add, ↓reduceIte, nI_add, nI_mul, nI_subI, lt_t, lt_f, eq_f, lt_m1, m1_lt, eq_m1, m1_eq, i1]
theorem n_closes (i1 : exC X 96 [.ref 0] (WW σ t) = exT 0 (WW σ t)) : exC X 115 [.ref 0] (WW σ t) = nay (WW σ t) := by
  rw [ent_115]
  simp (disch := omega) only [s115_0, s115_1, t115_0, s115_4, s115_5, s115_6, s115_8, c10, c100, c6, eq_self, bnd_l, bnd_r, Option.toList_some, Option.toList_none, List.cons_append, List.nil_append, Nat.add_zero, Nat.zero_add, ↓reduceIte, nI_add, nI_mul, nI_subI, lt_t, lt_f, eq_f, lt_m1, m1_lt, eq_m1, m1_eq, i1]
theorem w_closes {v : Int32} {h : rH} {k s : Nat} (i1 : exC X 96 [.ref 0] (WW σ t) = some (.inl (some (.int v)), h, k, s)) : exC X 115 [.ref 0] (WW σ t) = some (.inl (some (.int v)), h, k, s) := by
  rw [ent_115]
  simp (disch := omega) only [s115_0, s115_1, t115_0, s115_4, s115_5, s115_6, s115_8, c10, c100, c6, eq_self, bnd_l, bnd_r, Option.toList_some, Option.toList_none, List.cons_append, List.nil_append, Nat.add_zero, Nat.zero_add, ↓reduceIte, nI_add, nI_mul, nI_subI, lt_t, lt_f, eq_f, lt_m1, m1_lt, eq_m1, m1_eq, i1]
/-- a place of the script -/
theorem w_draw {h : rH} {i : Nat} (hX : X.1 < 2 ^ 31) (hi : i < X.1) : ∃ j, j < 2 ^ 31 ∧ exC X 105 [.ref 100000, .int (nI i)] h = ans (nI j) h := by
  obtain ⟨j, hj, ej⟩ := pk_andE (X.2 i) (m := nI 2147483647) 31 (by decide +kernel)
  refine ⟨j, hj, ?_⟩
  rw [ent_105]
  simp (disch := omega) only [s105_0, s105_1, s105_2, s105_3, s105_6, s105_7, s105_8, s105_9, s105_11, s105_12, s105_15, s105_17, s105_18, s105_19, s105_20, s105_21, s105_23, s105_24, c10, c100, c6, eq_self, bnd_l, bnd_r, Option.toList_some, Option.toList_none, List.cons_append, List.nil_append, Nat.add_zero, Nat.zero_add, ↓reduceIte, nI_add, nI_mul, nI_subI, lt_t, lt_f, eq_f, lt_m1, m1_lt, eq_m1, m1_eq, ej]
end WRP
