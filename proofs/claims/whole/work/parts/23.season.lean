/-! THE REFERENCE: the championship -/
theorem sub_z {x y : Nat} (hx : x < 2 ^ 30) (hy : y < 2 ^ 30) : (nI x - nI y = nI 0) = (x = y) := by
  by_cases h : x = y
  · subst h
    rw [Int32.sub_self]
    simp [nIz]
  · rw [eq_false h]
    refine eq_false fun e => h ?_
    have e2 : nI x = nI y := by
      have := congrArg (fun z => z + nI y) e
      simp only [Int32.sub_add_cancel, ← nIz, Int32.zero_add] at this
      exact this
    exact (nI_eq (by omega) (by omega)).mp e2
theorem sub_toInt {x y : Nat} (hx : x < 2 ^ 30) (hy : y < 2 ^ 30) : (nI x - nI y).toInt = (x : Int) - (y : Int) := by
  rw [Int32.toInt_sub, nI_toInt (by omega), nI_toInt (by omega)]
  exact Int.bmod_eq_of_le (by omega) (by omega)
theorem sub_l {x y : Nat} (hx : x < 2 ^ 30) (hy : y < 2 ^ 30) : (nI x - nI y < nI 0) = (x < y) := by
  by_cases h : x < y
  · rw [eq_true h]
    refine eq_true ?_
    rw [Int32.lt_iff_toInt_lt, sub_toInt hx hy, nI_toInt (by omega)]
    omega
  · rw [eq_false h]
    refine eq_false fun e => h ?_
    rw [Int32.lt_iff_toInt_lt, sub_toInt hx hy, nI_toInt (by omega)] at e
    omega
/-- points for a place -/
def ptsN (p : Nat) : Nat := [25, 18, 15, 12, 10, 8, 6, 4, 2, 1].getD p 0
theorem ptsN_le : ∀ p, ptsN p ≤ 25
  | 0 | 1 | 2 | 3 | 4 | 5 | 6 | 7 | 8 | 9 => by decide
  | n + 10 => by simp [ptsN]
def ptV (x : Int32) : Nat := if x = -1 then 0 else ptsN (cnt x)
theorem ptV_le (x : Int32) : ptV x ≤ 25 := by
  unfold ptV
  split
  · omega
  · exact ptsN_le _
/-- a place in the ranks, or none -/
def okP (x : Int32) : Prop := x = -1 ∨ ∃ p, p < 10 ∧ x = nI p
section REF5
variable {X : rX} {h : rH} {σ : Nat → Nat → Int32} {t : rH}
theorem r_points {x : Int32} (hx : okP x) : exC X 150 [.int x] h = ans (nI (ptV x)) h := by
  rw [ent_150]
  rcases hx with rfl | ⟨p, hp, rfl⟩
  · have hd := s150_1_d (X := X) (k := 0) (s := 0) (x := -1) (ls := [some (.int (-1))]) (st := []) (h := h) (by rw [m1_toInt]; omega)
    simp (disch := omega) only [s150_0, s150_1_0, s150_1_1, s150_1_2, s150_1_3, s150_1_4, s150_1_5, s150_1_6, s150_1_7, s150_1_8, s150_1_d, s150_52, s150_54, s150_55, s150_57, s150_58, s150_60, s150_61, s150_63, s150_64, s150_66, s150_67, s150_69, s150_70, s150_72, s150_73, s150_74, s150_75, s150_76, s150_77, s150_78, s150_79, s150_82, s150_83, s150_86, s150_87, eq_self, bnd_l, bnd_r, Option.toList_some, Option.toList_none, List.cons_append, List.nil_append, Nat.add_zero, Nat.zero_add, ↓reduceIte, nI_add, nI_mul, nI_subI, lt_t, lt_f, eq_f, lt_m1, m1_lt, eq_m1, m1_eq, hd]
    rfl
  · rw [show ptV (nI p) = ptsN p by unfold ptV; rw [if_neg (by rw [eq_m1 (by omega)]; exact id), cnt_nI (by omega)]]
    match p, hp with
    | 0, _ => simp (disch := omega) only [s150_0, s150_1_0, s150_1_1, s150_1_2, s150_1_3, s150_1_4, s150_1_5, s150_1_6, s150_1_7, s150_1_8, s150_1_d, s150_52, s150_54, s150_55, s150_57, s150_58, s150_60, s150_61, s150_63, s150_64, s150_66, s150_67, s150_69, s150_70, s150_72, s150_73, s150_74, s150_75, s150_76, s150_77, s150_78, s150_79, s150_82, s150_83, s150_86, s150_87, eq_self, bnd_l, bnd_r, Option.toList_some, Option.toList_none, List.cons_append, List.nil_append, Nat.add_zero, Nat.zero_add, ↓reduceIte, nI_add, nI_mul, nI_subI, lt_t, lt_f, eq_f, lt_m1, m1_lt, eq_m1, m1_eq]; rfl
    | 1, _ => simp (disch := omega) only [s150_0, s150_1_0, s150_1_1, s150_1_2, s150_1_3, s150_1_4, s150_1_5, s150_1_6, s150_1_7, s150_1_8, s150_1_d, s150_52, s150_54, s150_55, s150_57, s150_58, s150_60, s150_61, s150_63, s150_64, s150_66, s150_67, s150_69, s150_70, s150_72, s150_73, s150_74, s150_75, s150_76, s150_77, s150_78, s150_79, s150_82, s150_83, s150_86, s150_87, eq_self, bnd_l, bnd_r, Option.toList_some, Option.toList_none, List.cons_append, List.nil_append, Nat.add_zero, Nat.zero_add, ↓reduceIte, nI_add, nI_mul, nI_subI, lt_t, lt_f, eq_f, lt_m1, m1_lt, eq_m1, m1_eq]; rfl
    | 2, _ => simp (disch := omega) only [s150_0, s150_1_0, s150_1_1, s150_1_2, s150_1_3, s150_1_4, s150_1_5, s150_1_6, s150_1_7, s150_1_8, s150_1_d, s150_52, s150_54, s150_55, s150_57, s150_58, s150_60, s150_61, s150_63, s150_64, s150_66, s150_67, s150_69, s150_70, s150_72, s150_73, s150_74, s150_75, s150_76, s150_77, s150_78, s150_79, s150_82, s150_83, s150_86, s150_87, eq_self, bnd_l, bnd_r, Option.toList_some, Option.toList_none, List.cons_append, List.nil_append, Nat.add_zero, Nat.zero_add, ↓reduceIte, nI_add, nI_mul, nI_subI, lt_t, lt_f, eq_f, lt_m1, m1_lt, eq_m1, m1_eq]; rfl
    | 3, _ => simp (disch := omega) only [s150_0, s150_1_0, s150_1_1, s150_1_2, s150_1_3, s150_1_4, s150_1_5, s150_1_6, s150_1_7, s150_1_8, s150_1_d, s150_52, s150_54, s150_55, s150_57, s150_58, s150_60, s150_61, s150_63, s150_64, s150_66, s150_67, s150_69, s150_70, s150_72, s150_73, s150_74, s150_75, s150_76, s150_77, s150_78, s150_79, s150_82, s150_83, s150_86, s150_87, eq_self, bnd_l, bnd_r, Option.toList_some, Option.toList_none, List.cons_append, List.nil_append, Nat.add_zero, Nat.zero_add, ↓reduceIte, nI_add, nI_mul, nI_subI, lt_t, lt_f, eq_f, lt_m1, m1_lt, eq_m1, m1_eq]; rfl
    | 4, _ => simp (disch := omega) only [s150_0, s150_1_0, s150_1_1, s150_1_2, s150_1_3, s150_1_4, s150_1_5, s150_1_6, s150_1_7, s150_1_8, s150_1_d, s150_52, s150_54, s150_55, s150_57, s150_58, s150_60, s150_61, s150_63, s150_64, s150_66, s150_67, s150_69, s150_70, s150_72, s150_73, s150_74, s150_75, s150_76, s150_77, s150_78, s150_79, s150_82, s150_83, s150_86, s150_87, eq_self, bnd_l, bnd_r, Option.toList_some, Option.toList_none, List.cons_append, List.nil_append, Nat.add_zero, Nat.zero_add, ↓reduceIte, nI_add, nI_mul, nI_subI, lt_t, lt_f, eq_f, lt_m1, m1_lt, eq_m1, m1_eq]; rfl
    | 5, _ => simp (disch := omega) only [s150_0, s150_1_0, s150_1_1, s150_1_2, s150_1_3, s150_1_4, s150_1_5, s150_1_6, s150_1_7, s150_1_8, s150_1_d, s150_52, s150_54, s150_55, s150_57, s150_58, s150_60, s150_61, s150_63, s150_64, s150_66, s150_67, s150_69, s150_70, s150_72, s150_73, s150_74, s150_75, s150_76, s150_77, s150_78, s150_79, s150_82, s150_83, s150_86, s150_87, eq_self, bnd_l, bnd_r, Option.toList_some, Option.toList_none, List.cons_append, List.nil_append, Nat.add_zero, Nat.zero_add, ↓reduceIte, nI_add, nI_mul, nI_subI, lt_t, lt_f, eq_f, lt_m1, m1_lt, eq_m1, m1_eq]; rfl
    | 6, _ => simp (disch := omega) only [s150_0, s150_1_0, s150_1_1, s150_1_2, s150_1_3, s150_1_4, s150_1_5, s150_1_6, s150_1_7, s150_1_8, s150_1_d, s150_52, s150_54, s150_55, s150_57, s150_58, s150_60, s150_61, s150_63, s150_64, s150_66, s150_67, s150_69, s150_70, s150_72, s150_73, s150_74, s150_75, s150_76, s150_77, s150_78, s150_79, s150_82, s150_83, s150_86, s150_87, eq_self, bnd_l, bnd_r, Option.toList_some, Option.toList_none, List.cons_append, List.nil_append, Nat.add_zero, Nat.zero_add, ↓reduceIte, nI_add, nI_mul, nI_subI, lt_t, lt_f, eq_f, lt_m1, m1_lt, eq_m1, m1_eq]; rfl
    | 7, _ => simp (disch := omega) only [s150_0, s150_1_0, s150_1_1, s150_1_2, s150_1_3, s150_1_4, s150_1_5, s150_1_6, s150_1_7, s150_1_8, s150_1_d, s150_52, s150_54, s150_55, s150_57, s150_58, s150_60, s150_61, s150_63, s150_64, s150_66, s150_67, s150_69, s150_70, s150_72, s150_73, s150_74, s150_75, s150_76, s150_77, s150_78, s150_79, s150_82, s150_83, s150_86, s150_87, eq_self, bnd_l, bnd_r, Option.toList_some, Option.toList_none, List.cons_append, List.nil_append, Nat.add_zero, Nat.zero_add, ↓reduceIte, nI_add, nI_mul, nI_subI, lt_t, lt_f, eq_f, lt_m1, m1_lt, eq_m1, m1_eq]; rfl
    | 8, _ => simp (disch := omega) only [s150_0, s150_1_0, s150_1_1, s150_1_2, s150_1_3, s150_1_4, s150_1_5, s150_1_6, s150_1_7, s150_1_8, s150_1_d, s150_52, s150_54, s150_55, s150_57, s150_58, s150_60, s150_61, s150_63, s150_64, s150_66, s150_67, s150_69, s150_70, s150_72, s150_73, s150_74, s150_75, s150_76, s150_77, s150_78, s150_79, s150_82, s150_83, s150_86, s150_87, eq_self, bnd_l, bnd_r, Option.toList_some, Option.toList_none, List.cons_append, List.nil_append, Nat.add_zero, Nat.zero_add, ↓reduceIte, nI_add, nI_mul, nI_subI, lt_t, lt_f, eq_f, lt_m1, m1_lt, eq_m1, m1_eq]; rfl
    | 9, _ =>
      have hd := s150_1_d (X := X) (k := 0) (s := 0) (x := nI 9) (ls := [some (.int (nI 9))]) (st := []) (h := h) (by rw [nI_toInt (by omega)]; omega)
      simp (disch := omega) only [s150_0, s150_1_0, s150_1_1, s150_1_2, s150_1_3, s150_1_4, s150_1_5, s150_1_6, s150_1_7, s150_1_8, s150_1_d, s150_52, s150_54, s150_55, s150_57, s150_58, s150_60, s150_61, s150_63, s150_64, s150_66, s150_67, s150_69, s150_70, s150_72, s150_73, s150_74, s150_75, s150_76, s150_77, s150_78, s150_79, s150_82, s150_83, s150_86, s150_87, eq_self, bnd_l, bnd_r, Option.toList_some, Option.toList_none, List.cons_append, List.nil_append, Nat.add_zero, Nat.zero_add, ↓reduceIte, nI_add, nI_mul, nI_subI, lt_t, lt_f, eq_f, lt_m1, m1_lt, eq_m1, m1_eq, hd]
      rfl
/-- what the championship needs of the state -/
def RP (σ : Nat → Nat → Int32) (r : Nat) : Prop := r ≤ 6 ∧ σ 35 20 = nI r ∧ ∀ k, k < r → ∀ c, c < 10 → okP (σ 54 (10 * k + c))
def smN (pl : Nat → Int32) (c : Nat) : Nat → Nat
  | 0 => 0
  | k + 1 => smN pl c k + ptV (pl (10 * k + c))
def lsN (pl : Nat → Int32) (c : Nat) : Nat → Nat
  | 0 => 100
  | k + 1 => if ptV (pl (10 * k + c)) < lsN pl c k then ptV (pl (10 * k + c)) else lsN pl c k
theorem smN_le (pl : Nat → Int32) (c : Nat) : ∀ k, smN pl c k ≤ 25 * k
  | 0 => Nat.le_refl _
  | k + 1 => by
    have := smN_le pl c k
    have := ptV_le (pl (10 * k + c))
    unfold smN
    omega
theorem lsN_le (pl : Nat → Int32) (c : Nat) : ∀ k, lsN pl c k ≤ 100
  | 0 => Nat.le_refl _
  | k + 1 => by
    have := lsN_le pl c k
    unfold lsN
    split <;> omega
theorem lsN_sm (pl : Nat → Int32) (c k : Nat) : lsN pl c (k + 1) ≤ smN pl c (k + 1) := by
  unfold lsN smN
  split <;> omega
def sumV (pl : Nat → Int32) (r c : Nat) : Nat := if r < 3 then smN pl c r else smN pl c r - lsN pl c r
theorem sumV_le (pl : Nat → Int32) {r c : Nat} (hr : r ≤ 6) : sumV pl r c ≤ 150 := by
  have := smN_le pl c r
  unfold sumV
  split <;> omega
theorem l_sumOf {r c : Nat} (hP : RP σ r) (hc : c < 10) {Q : Option rR} (hQ : ans (nI (sumV (σ 54) r c)) (WW σ t) = Q) : ∀ n j, j + n = r → ∀ o5, exM X 151 8 [some (.ref 35), some (.int (nI c)), some (.int (nI (smN (σ 54) c j))), some (.int (nI (lsN (σ 54) c j))), some (.int (nI j)), o5] [] (WW σ t) 0 0 = Q := by
  have hr := hP.1
  have hr1 := hP.2.1
  intro n
  induction n with
  | zero =>
    intro j hj o5
    have e : j = r := by omega
    subst e
    have h1 := smN_le (σ 54) c j
    have h2 := lsN_le (σ 54) c j
    by_cases h3 : j < 3
    · simp (disch := omega) only [s151_0, s151_1, s151_2, s151_4, s151_5, s151_6, s151_8, s151_10, s151_11, s151_14, s151_17, s151_18, s151_21, s151_23, s151_25, s151_26, s151_27, s151_28, s151_29, s151_32, s151_34, s151_35, s151_37, s151_38, s151_39, s151_41, s151_42, s151_45, s151_47, s151_50, s151_51, s151_52, s151_55, s151_58, s151_59, s151_62, s151_63, s151_66, s151_67, s151_70, s151_71, s151_72, s151_73, eq_self, bnd_l, bnd_r, Option.toList_some, Option.toList_none, List.cons_append, List.nil_append, Nat.add_zero, Nat.zero_add, ↓reduceIte, nI_add, nI_mul, nI_subI, lt_t, lt_f, eq_f, lt_m1, m1_lt, eq_m1, m1_eq, hr1]
      rw [← hQ, sumV, if_pos h3]
    · have h4 : lsN (σ 54) c j ≤ smN (σ 54) c j := by
        obtain ⟨i, rfl⟩ : ∃ i, j = i + 1 := ⟨j - 1, by omega⟩
        exact lsN_sm _ _ _
      simp (disch := omega) only [s151_0, s151_1, s151_2, s151_4, s151_5, s151_6, s151_8, s151_10, s151_11, s151_14, s151_17, s151_18, s151_21, s151_23, s151_25, s151_26, s151_27, s151_28, s151_29, s151_32, s151_34, s151_35, s151_37, s151_38, s151_39, s151_41, s151_42, s151_45, s151_47, s151_50, s151_51, s151_52, s151_55, s151_58, s151_59, s151_62, s151_63, s151_66, s151_67, s151_70, s151_71, s151_72, s151_73, eq_self, bnd_l, bnd_r, Option.toList_some, Option.toList_none, List.cons_append, List.nil_append, Nat.add_zero, Nat.zero_add, ↓reduceIte, nI_add, nI_mul, nI_subI, lt_t, lt_f, eq_f, lt_m1, m1_lt, eq_m1, m1_eq, hr1]
      rw [← hQ, sumV, if_neg h3]
  | succ n ih =>
    intro j hj o5
    rw [s151_8]
    have i1 := ih (j + 1) (by omega)
    have h1 := smN_le (σ 54) c j
    have h2 := lsN_le (σ 54) c j
    have h5 := ptV_le (σ 54 (10 * j + c))
    have hp := r_points (X := X) (h := WW σ t) (hP.2.2 j (by omega) c hc)
    by_cases h3 : ptV (σ 54 (10 * j + c)) < lsN (σ 54) c j
    · rw [smN, lsN, if_pos h3] at i1
      simp (disch := omega) only [s151_0, s151_1, s151_2, s151_4, s151_5, s151_6, s151_10, s151_11, s151_14, s151_17, s151_18, s151_21, s151_23, s151_25, s151_26, s151_27, s151_28, s151_29, s151_32, s151_34, s151_35, s151_37, s151_38, s151_39, s151_41, s151_42, s151_45, s151_47, s151_50, s151_51, s151_52, s151_55, s151_58, s151_59, s151_62, s151_63, s151_66, s151_67, s151_70, s151_71, s151_72, s151_73, eq_self, bnd_l, bnd_r, Option.toList_some, Option.toList_none, List.cons_append, List.nil_append, Nat.add_zero, Nat.zero_add, ↓reduceIte, nI_add, nI_mul, nI_subI, lt_t, lt_f, eq_f, lt_m1, m1_lt, eq_m1, m1_eq, hr1, hp]
      exact i1 _
    · rw [smN, lsN, if_neg h3] at i1
      simp (disch := omega) only [s151_0, s151_1, s151_2, s151_4, s151_5, s151_6, s151_10, s151_11, s151_14, s151_17, s151_18, s151_21, s151_23, s151_25, s151_26, s151_27, s151_28, s151_29, s151_32, s151_34, s151_35, s151_37, s151_38, s151_39, s151_41, s151_42, s151_45, s151_47, s151_50, s151_51, s151_52, s151_55, s151_58, s151_59, s151_62, s151_63, s151_66, s151_67, s151_70, s151_71, s151_72, s151_73, eq_self, bnd_l, bnd_r, Option.toList_some, Option.toList_none, List.cons_append, List.nil_append, Nat.add_zero, Nat.zero_add, ↓reduceIte, nI_add, nI_mul, nI_subI, lt_t, lt_f, eq_f, lt_m1, m1_lt, eq_m1, m1_eq, hr1, hp]
      exact i1 _
theorem r_sumOf {r c : Nat} (hP : RP σ r) (hc : c < 10) : exC X 151 [.ref 35, .int (nI c)] (WW σ t) = ans (nI (sumV (σ 54) r c)) (WW σ t) := by
  rw [ent_151]
  have hL := l_sumOf (X := X) (t := t) hP hc rfl r 0 (by omega) none
  rw [smN, lsN] at hL
  simp (disch := omega) only [s151_0, s151_1, s151_2, s151_4, s151_5, s151_6, s151_10, s151_11, s151_14, s151_17, s151_18, s151_21, s151_23, s151_25, s151_26, s151_27, s151_28, s151_29, s151_32, s151_34, s151_35, s151_37, s151_38, s151_39, s151_41, s151_42, s151_45, s151_47, s151_50, s151_51, s151_52, s151_55, s151_58, s151_59, s151_62, s151_63, s151_66, s151_67, s151_70, s151_71, s151_72, s151_73, eq_self, bnd_l, bnd_r, Option.toList_some, Option.toList_none, List.cons_append, List.nil_append, Nat.add_zero, Nat.zero_add, ↓reduceIte, nI_add, nI_mul, nI_subI, lt_t, lt_f, eq_f, lt_m1, m1_lt, eq_m1, m1_eq]
  exact hL
def ofN (pl : Nat → Int32) (c a : Nat) : Nat → Nat
  | 0 => 0
  | k + 1 => ofN pl c a k + if pl (10 * k + c) = nI a then 1 else 0
theorem ofN_le (pl : Nat → Int32) (c a : Nat) : ∀ k, ofN pl c a k ≤ k
  | 0 => Nat.le_refl _
  | k + 1 => by
    have := ofN_le pl c a k
    unfold ofN
    split <;> omega
theorem l_often {r c a : Nat} (hP : RP σ r) (hc : c < 10) {Q : Option rR} (hQ : ans (nI (ofN (σ 54) c a r)) (WW σ t) = Q) : ∀ n j, j + n = r → exM X 153 5 [some (.ref 35), some (.int (nI c)), some (.int (nI a)), some (.int (nI (ofN (σ 54) c a j))), some (.int (nI j))] [] (WW σ t) 0 0 = Q := by
  have hr := hP.1
  have hr1 := hP.2.1
  intro n
  induction n with
  | zero =>
    intro j hj
    have e : j = r := by omega
    subst e
    simp (disch := omega) only [s153_0, s153_1, s153_2, s153_3, s153_5, s153_7, s153_8, s153_11, s153_14, s153_15, s153_16, s153_19, s153_21, s153_23, s153_24, s153_25, s153_26, s153_27, s153_28, s153_31, s153_32, s153_35, s153_36, s153_37, s153_38, s153_41, s153_44, s153_45, eq_self, bnd_l, bnd_r, Option.toList_some, Option.toList_none, List.cons_append, List.nil_append, Nat.add_zero, Nat.zero_add, ↓reduceIte, nI_add, nI_mul, nI_subI, lt_t, lt_f, eq_f, lt_m1, m1_lt, eq_m1, m1_eq, hr1]
    exact hQ
  | succ n ih =>
    intro j hj
    rw [s153_5]
    have i1 := ih (j + 1) (by omega)
    by_cases h3 : σ 54 (10 * j + c) = nI a
    · rw [ofN, if_pos h3] at i1
      simp (disch := omega) only [s153_0, s153_1, s153_2, s153_3, s153_7, s153_8, s153_11, s153_14, s153_15, s153_16, s153_19, s153_21, s153_23, s153_24, s153_25, s153_26, s153_27, s153_28, s153_31, s153_32, s153_35, s153_36, s153_37, s153_38, s153_41, s153_44, s153_45, eq_self, bnd_l, bnd_r, Option.toList_some, Option.toList_none, List.cons_append, List.nil_append, Nat.add_zero, Nat.zero_add, ↓reduceIte, nI_add, nI_mul, nI_subI, lt_t, lt_f, eq_f, lt_m1, m1_lt, eq_m1, m1_eq, hr1, h3]
      exact i1
    · rw [ofN, if_neg h3] at i1
      simp (disch := omega) only [s153_0, s153_1, s153_2, s153_3, s153_7, s153_8, s153_11, s153_14, s153_15, s153_16, s153_19, s153_21, s153_23, s153_24, s153_25, s153_26, s153_27, s153_28, s153_31, s153_32, s153_35, s153_36, s153_37, s153_38, s153_41, s153_44, s153_45, eq_self, bnd_l, bnd_r, Option.toList_some, Option.toList_none, List.cons_append, List.nil_append, Nat.add_zero, Nat.zero_add, ↓reduceIte, nI_add, nI_mul, nI_subI, lt_t, lt_f, eq_f, lt_m1, m1_lt, eq_m1, m1_eq, hr1, h3]
      exact i1
theorem r_often {r c a : Nat} (hP : RP σ r) (hc : c < 10) : exC X 153 [.ref 35, .int (nI c), .int (nI a)] (WW σ t) = ans (nI (ofN (σ 54) c a r)) (WW σ t) := by
  rw [ent_153]
  have hL := l_often (X := X) (t := t) (a := a) hP hc rfl r 0 (by omega)
  rw [ofN] at hL
  simp (disch := omega) only [s153_0, s153_1, s153_2, s153_3, s153_7, s153_8, s153_11, s153_14, s153_15, s153_16, s153_19, s153_21, s153_23, s153_24, s153_25, s153_26, s153_27, s153_28, s153_31, s153_32, s153_35, s153_36, s153_37, s153_38, s153_41, s153_44, s153_45, eq_self, bnd_l, bnd_r, Option.toList_some, Option.toList_none, List.cons_append, List.nil_append, Nat.add_zero, Nat.zero_add, ↓reduceIte, nI_add, nI_mul, nI_subI, lt_t, lt_f, eq_f, lt_m1, m1_lt, eq_m1, m1_eq]
  exact hL
/-- what is compared last, after the first j places: the other's, the one's -/
def prF (pl : Nat → Int32) (r a b : Nat) : Nat → Nat × Nat
  | 0 => (sumV pl r b, sumV pl r a)
  | j + 1 => if (prF pl r a b j).1 = (prF pl r a b j).2 then (ofN pl b j r, ofN pl a j r) else prF pl r a b j
theorem prF_stay {pl : Nat → Int32} {r a b j : Nat} (h : ¬ (prF pl r a b j).1 = (prF pl r a b j).2) : ∀ n, prF pl r a b (j + n) = prF pl r a b j
  | 0 => rfl
  | n + 1 => by rw [← Nat.add_assoc, prF, prF_stay h n, if_neg h]
theorem prF_le {pl : Nat → Int32} {r a b : Nat} (hr : r ≤ 6) : ∀ j, (prF pl r a b j).1 ≤ 150 ∧ (prF pl r a b j).2 ≤ 150
  | 0 => ⟨sumV_le pl hr, sumV_le pl hr⟩
  | j + 1 => by
    unfold prF
    split
    · have := ofN_le pl b j r
      have := ofN_le pl a j r
      exact ⟨by dsimp only; omega, by dsimp only; omega⟩
    · exact prF_le hr j
/-- whether one is ahead of another in the table -/
def btR (pl : Nat → Int32) (r a b : Nat) : Prop := (prF pl r a b 10).1 < (prF pl r a b 10).2 ∨ ((prF pl r a b 10).1 = (prF pl r a b 10).2 ∧ a < b)
theorem l_isBetter {r a b : Nat} (hP : RP σ r) (ha : a < 10) (hb : b < 10) {Q : Option rR} (hQ : ∀ o4, exM X 154 48 [some (.ref 35), some (.int (nI a)), some (.int (nI b)), some (.int (nI (prF (σ 54) r a b 10).1 - nI (prF (σ 54) r a b 10).2)), o4] [] (WW σ t) 0 0 = Q) : ∀ n j, j + n = 10 → exM X 154 15 [some (.ref 35), some (.int (nI a)), some (.int (nI b)), some (.int (nI (prF (σ 54) r a b j).1 - nI (prF (σ 54) r a b j).2)), some (.int (nI j))] [] (WW σ t) 0 0 = Q := by
  intro n
  induction n with
  | zero =>
    intro j hj
    have e : j = 10 := by omega
    subst e
    simp (disch := omega) only [s154_15, s154_17, s154_19, s154_22, s154_23, s154_26, s154_27, s154_28, s154_30, s154_33, s154_34, s154_35, s154_37, s154_40, s154_41, s154_42, s154_45, ↓reduceIte, lt_f]
    exact hQ _
  | succ n ih =>
    intro j hj
    rw [s154_15]
    have i1 := ih (j + 1) (by omega)
    have hle := prF_le (pl := σ 54) (a := a) (b := b) hP.1 j
    have h1 := r_often (X := X) (σ := σ) (t := t) (a := j) hP ha
    have h2 := r_often (X := X) (σ := σ) (t := t) (a := j) hP hb
    by_cases h0 : (prF (σ 54) r a b j).1 = (prF (σ 54) r a b j).2
    · rw [prF, if_pos h0] at i1
      have hz := sub_z (x := (prF (σ 54) r a b j).1) (y := (prF (σ 54) r a b j).2) (by omega) (by omega)
      rw [eq_true h0] at hz
      simp (disch := omega) only [s154_17, s154_19, s154_22, s154_23, s154_26, s154_27, s154_28, s154_30, s154_33, s154_34, s154_35, s154_37, s154_40, s154_41, s154_42, s154_45, ↓reduceIte, lt_t, hz, h1, h2, bnd_l, Option.toList_some, List.cons_append, List.nil_append, Nat.add_zero, nI_add]
      exact i1
    · have hs := prF_stay h0 (n + 1)
      rw [hj] at hs
      rw [hs] at hQ
      have hz := sub_z (x := (prF (σ 54) r a b j).1) (y := (prF (σ 54) r a b j).2) (by omega) (by omega)
      rw [eq_false h0] at hz
      simp (disch := omega) only [s154_17, s154_19, s154_22, s154_23, s154_26, s154_27, s154_28, s154_30, s154_33, s154_34, s154_35, s154_37, s154_40, s154_41, s154_42, s154_45, ↓reduceIte, lt_t, hz]
      exact hQ _
theorem r_isBetter {r a b : Nat} (hP : RP σ r) (ha : a < 10) (hb : b < 10) : (btR (σ 54) r a b → exC X 154 [.ref 35, .int (nI a), .int (nI b)] (WW σ t) = ans (nI 1) (WW σ t)) ∧ (¬ btR (σ 54) r a b → exC X 154 [.ref 35, .int (nI a), .int (nI b)] (WW σ t) = ans (nI 0) (WW σ t)) := by
  rw [ent_154]
  have key : ∀ Q, (∀ o4, exM X 154 48 [some (.ref 35), some (.int (nI a)), some (.int (nI b)), some (.int (nI (prF (σ 54) r a b 10).1 - nI (prF (σ 54) r a b 10).2)), o4] [] (WW σ t) 0 0 = Q) → exM X 154 0 [some (.ref 35), some (.int (nI a)), some (.int (nI b)), none, none] [] (WW σ t) 0 0 = Q := by
    intro Q hQ
    have hL := l_isBetter (X := X) (t := t) hP ha hb hQ 10 0 (by omega)
    rw [prF] at hL
    have h1 := r_sumOf (X := X) (σ := σ) (t := t) hP ha
    have h2 := r_sumOf (X := X) (σ := σ) (t := t) hP hb
    simp (disch := omega) only [s154_0, s154_1, s154_2, s154_5, s154_6, s154_7, s154_10, s154_11, s154_12, s154_13, h1, h2, bnd_l, Option.toList_some, List.cons_append, List.nil_append, Nat.add_zero]
    exact hL
  have hle := prF_le (pl := σ 54) (a := a) (b := b) hP.1 10
  have hz := sub_z (x := (prF (σ 54) r a b 10).1) (y := (prF (σ 54) r a b 10).2) (by omega) (by omega)
  have hl := sub_l (x := (prF (σ 54) r a b 10).1) (y := (prF (σ 54) r a b 10).2) (by omega) (by omega)
  constructor
  · intro hp
    refine key _ fun o4 => ?_
    rcases hp with h1 | ⟨h1, h2⟩
    · rw [eq_true h1] at hl
      simp (disch := omega) only [s154_48, s154_49, s154_52, s154_53, s154_56, s154_57, s154_58, s154_61, s154_62, s154_65, s154_66z0, s154_66z1, ↓reduceIte, hl]
    · rw [eq_true h1] at hz
      rw [eq_false (show ¬ (prF (σ 54) r a b 10).1 < (prF (σ 54) r a b 10).2 by omega)] at hl
      simp (disch := omega) only [s154_48, s154_49, s154_52, s154_53, s154_56, s154_57, s154_58, s154_61, s154_62, s154_65, s154_66z0, s154_66z1, ↓reduceIte, hl, hz, lt_t]
  · intro hn
    refine key _ fun o4 => ?_
    have h1 : ¬ (prF (σ 54) r a b 10).1 < (prF (σ 54) r a b 10).2 := fun z => hn (Or.inl z)
    rw [eq_false h1] at hl
    by_cases h2 : (prF (σ 54) r a b 10).1 = (prF (σ 54) r a b 10).2
    · have h3 : ¬ a < b := fun z => hn (Or.inr ⟨h2, z⟩)
      rw [eq_true h2] at hz
      simp (disch := omega) only [s154_48, s154_49, s154_52, s154_53, s154_56, s154_57, s154_58, s154_61, s154_62, s154_65, s154_66z0, s154_66z1, ↓reduceIte, hl, hz, lt_f]
    · rw [eq_false h2] at hz
      simp (disch := omega) only [s154_48, s154_49, s154_52, s154_53, s154_56, s154_57, s154_58, s154_61, s154_62, s154_65, s154_66z0, s154_66z1, ↓reduceIte, hl, hz]
/-- how many are ahead in the table -/
noncomputable def tbN (pl : Nat → Int32) (r c : Nat) : Nat := cnF (fun o => o ≠ c ∧ btR pl r o c) 10
theorem l_table2 {r c : Nat} {at9 fd : Int32} (hP : RP σ r) (hc : c < 10) {Q : Option rR} (hQ : exM X 155 79 [some (.ref 35), some (.int at9), some (.int fd), some (.int (nI c)), some (.int (nI (tbN (σ 54) r c))), some (.int (nI 10))] [] (WW σ t) 0 0 = Q) :
    ∀ n j, j + n = 10 → exM X 155 40 [some (.ref 35), some (.int at9), some (.int fd), some (.int (nI c)), some (.int (nI (cnF (fun o => o ≠ c ∧ btR (σ 54) r o c) j))), some (.int (nI j))] [] (WW σ t) 0 0 = Q := by
  intro n
  induction n with
  | zero =>
    intro j hj
    have e : j = 10 := by omega
    subst e
    simp (disch := omega) only [s155_40, s155_42, s155_44, eq_self, bnd_l, bnd_r, Option.toList_some, Option.toList_none, List.cons_append, List.nil_append, Nat.add_zero, Nat.zero_add, ↓reduceIte, nI_add, nI_mul, nI_subI, lt_t, lt_f, eq_f, lt_m1, m1_lt, eq_m1, m1_eq]
    exact hQ
  | succ n ih =>
    intro j hj
    rw [s155_40]
    have i1 := ih (j + 1) (by omega)
    have hle := cnF_le (fun o => o ≠ c ∧ btR (σ 54) r o c) j
    by_cases hjc : j = c
    · subst hjc
      rw [cnF_f (fun q => q.1 rfl)] at i1
      simp (disch := omega) only [s155_42, s155_44, s155_47, s155_49, s155_51, s155_52, s155_55, s155_56, s155_58, s155_59, s155_62, s155_65, s155_66, s155_69, s155_70, s155_71, s155_73, s155_76, eq_self, bnd_l, bnd_r, Option.toList_some, Option.toList_none, List.cons_append, List.nil_append, Nat.add_zero, Nat.zero_add, ↓reduceIte, nI_add, nI_mul, nI_subI, lt_t, lt_f, eq_f, lt_m1, m1_lt, eq_m1, m1_eq]
      exact i1
    · have ib := r_isBetter (X := X) (σ := σ) (t := t) hP (by omega : j < 10) hc
      by_cases hb : btR (σ 54) r j c
      · have ib1 := ib.1 hb
        rw [cnF_t ⟨hjc, hb⟩] at i1
        simp (disch := omega) only [s155_42, s155_44, s155_47, s155_49, s155_51, s155_52, s155_55, s155_56, s155_58, s155_59, s155_62, s155_65, s155_66, s155_69, s155_70, s155_71, s155_73, s155_76, eq_self, bnd_l, bnd_r, Option.toList_some, Option.toList_none, List.cons_append, List.nil_append, Nat.add_zero, Nat.zero_add, ↓reduceIte, nI_add, nI_mul, nI_subI, lt_t, lt_f, eq_f, lt_m1, m1_lt, eq_m1, m1_eq, ib1]
        exact i1
      · have ib1 := ib.2 hb
        rw [cnF_f (fun q => hb q.2)] at i1
        simp (disch := omega) only [s155_42, s155_44, s155_47, s155_49, s155_51, s155_52, s155_55, s155_56, s155_58, s155_59, s155_62, s155_65, s155_66, s155_69, s155_70, s155_71, s155_73, s155_76, eq_self, bnd_l, bnd_r, Option.toList_some, Option.toList_none, List.cons_append, List.nil_append, Nat.add_zero, Nat.zero_add, ↓reduceIte, nI_add, nI_mul, nI_subI, lt_t, lt_f, eq_f, lt_m1, m1_lt, eq_m1, m1_eq, ib1]
        exact i1
theorem l_table1 {r : Nat} {at9 : Int32} (hP : RP σ r) {Q : Option rR} (hQ : ∀ k s, exM X 155 97 [some (.ref 35), some (.int at9), some (.int (plcF (fun c => nI (tbN (σ 54) r c)) at9 10)), some (.int (nI 10)), k, s] [] (WW σ t) 0 0 = Q) :
    ∀ n j, j + n = 10 → ∀ o4 o5, exM X 155 28 [some (.ref 35), some (.int at9), some (.int (plcF (fun c => nI (tbN (σ 54) r c)) at9 j)), some (.int (nI j)), o4, o5] [] (WW σ t) 0 0 = Q := by
  intro n
  induction n with
  | zero =>
    intro j hj o4 o5
    have e : j = 10 := by omega
    subst e
    simp (disch := omega) only [s155_28, s155_29, s155_31, eq_self, bnd_l, bnd_r, Option.toList_some, Option.toList_none, List.cons_append, List.nil_append, Nat.add_zero, Nat.zero_add, ↓reduceIte, nI_add, nI_mul, nI_subI, lt_t, lt_f, eq_f, lt_m1, m1_lt, eq_m1, m1_eq]
    exact hQ _ _
  | succ n ih =>
    intro j hj o4 o5
    rw [s155_28]
    have i1 := ih (j + 1) (by omega)
    have hL : ∀ Q, exM X 155 79 [some (.ref 35), some (.int at9), some (.int (plcF (fun c => nI (tbN (σ 54) r c)) at9 j)), some (.int (nI j)), some (.int (nI (tbN (σ 54) r j))), some (.int (nI 10))] [] (WW σ t) 0 0 = Q → _ := fun Q q => l_table2 (X := X) (t := t) (at9 := at9) (fd := plcF (fun c => nI (tbN (σ 54) r c)) at9 j) hP (by omega : j < 10) (Q := Q) q 10 0 (by omega)
    rw [plcF] at i1
    simp only [cnF] at hL
    by_cases h1 : nI (tbN (σ 54) r j) = at9
    · rw [if_pos h1] at i1
      simp (disch := omega) only [s155_29, s155_31, s155_34, s155_35, s155_37, s155_38, eq_self, bnd_l, bnd_r, Option.toList_some, Option.toList_none, List.cons_append, List.nil_append, Nat.add_zero, Nat.zero_add, ↓reduceIte, nI_add, nI_mul, nI_subI, lt_t, lt_f, eq_f, lt_m1, m1_lt, eq_m1, m1_eq]
      exact hL Q (by simp (disch := omega) only [s155_79, s155_81, s155_82, s155_85, s155_86, s155_89, s155_90, s155_91, s155_94, eq_self, bnd_l, bnd_r, Option.toList_some, Option.toList_none, List.cons_append, List.nil_append, Nat.add_zero, Nat.zero_add, ↓reduceIte, nI_add, nI_mul, nI_subI, lt_t, lt_f, eq_f, lt_m1, m1_lt, eq_m1, m1_eq, h1]; exact i1 _ _)
    · rw [if_neg h1] at i1
      simp (disch := omega) only [s155_29, s155_31, s155_34, s155_35, s155_37, s155_38, eq_self, bnd_l, bnd_r, Option.toList_some, Option.toList_none, List.cons_append, List.nil_append, Nat.add_zero, Nat.zero_add, ↓reduceIte, nI_add, nI_mul, nI_subI, lt_t, lt_f, eq_f, lt_m1, m1_lt, eq_m1, m1_eq]
      exact hL Q (by simp (disch := omega) only [s155_79, s155_81, s155_82, s155_85, s155_86, s155_89, s155_90, s155_91, s155_94, eq_self, bnd_l, bnd_r, Option.toList_some, Option.toList_none, List.cons_append, List.nil_append, Nat.add_zero, Nat.zero_add, ↓reduceIte, nI_add, nI_mul, nI_subI, lt_t, lt_f, eq_f, lt_m1, m1_lt, eq_m1, m1_eq, h1]; exact i1 _ _)
/-- whether an item may be added -/
def canP (σ : Nat → Nat → Int32) (N : Nat) (its : Int32) : Prop := N < 20 ∧ (N = 0 → its = nI 0) ∧ (0 < N → σ 36 (N - 1) = nI 2 → its = nI 1) ∧ σ 39 0 = -1
theorem r_canAdd {N : Nat} {its : Int32} (hN : σ 35 1 = nI N) (hN2 : N ≤ 20) : (canP σ N its → exC X 112 [.ref 35, .int its] (WW σ t) = ans (nI 1) (WW σ t)) ∧ (¬ canP σ N its → exC X 112 [.ref 35, .int its] (WW σ t) = ans (nI 0) (WW σ t)) := by
  rw [ent_112]
  constructor
  · rintro ⟨h1, h2, h3, h4⟩
    by_cases h0 : N = 0
    · subst h0
      have h5 := h2 rfl
      subst h5
      simp (disch := omega) only [s112_0, s112_1, s112_4, s112_7, s112_8, s112_11, s112_12, s112_15, s112_16, s112_17, s112_18, s112_21, s112_24, s112_25, s112_28, s112_29, s112_32, s112_33, s112_34, s112_35, s112_36, s112_39, s112_40, s112_41, s112_44, s112_45, s112_48, s112_49, s112_50, s112_51, s112_54, s112_56, s112_59, s112_60, s112_63, s112_64, s112_67, s112_68, s112_71, s112_72, s112_73, s112_74, s112_77, s112_78, s112_81, s112_82z0, s112_82z1, eq_self, bnd_l, bnd_r, Option.toList_some, Option.toList_none, List.cons_append, List.nil_append, Nat.add_zero, Nat.zero_add, ↓reduceIte, nI_add, nI_mul, nI_subI, lt_t, lt_f, eq_f, lt_m1, m1_lt, eq_m1, m1_eq, hN, h4]
    · by_cases hk : σ 36 (N - 1) = nI 2
      · have h5 := h3 (by omega) hk
        subst h5
        simp (disch := omega) only [s112_0, s112_1, s112_4, s112_7, s112_8, s112_11, s112_12, s112_15, s112_16, s112_17, s112_18, s112_21, s112_24, s112_25, s112_28, s112_29, s112_32, s112_33, s112_34, s112_35, s112_36, s112_39, s112_40, s112_41, s112_44, s112_45, s112_48, s112_49, s112_50, s112_51, s112_54, s112_56, s112_59, s112_60, s112_63, s112_64, s112_67, s112_68, s112_71, s112_72, s112_73, s112_74, s112_77, s112_78, s112_81, s112_82z0, s112_82z1, eq_self, bnd_l, bnd_r, Option.toList_some, Option.toList_none, List.cons_append, List.nil_append, Nat.add_zero, Nat.zero_add, ↓reduceIte, nI_add, nI_mul, nI_subI, lt_t, lt_f, eq_f, lt_m1, m1_lt, eq_m1, m1_eq, hN, h4, hk]
      · simp (disch := omega) only [s112_0, s112_1, s112_4, s112_7, s112_8, s112_11, s112_12, s112_15, s112_16, s112_17, s112_18, s112_21, s112_24, s112_25, s112_28, s112_29, s112_32, s112_33, s112_34, s112_35, s112_36, s112_39, s112_40, s112_41, s112_44, s112_45, s112_48, s112_49, s112_50, s112_51, s112_54, s112_56, s112_59, s112_60, s112_63, s112_64, s112_67, s112_68, s112_71, s112_72, s112_73, s112_74, s112_77, s112_78, s112_81, s112_82z0, s112_82z1, eq_self, bnd_l, bnd_r, Option.toList_some, Option.toList_none, List.cons_append, List.nil_append, Nat.add_zero, Nat.zero_add, ↓reduceIte, nI_add, nI_mul, nI_subI, lt_t, lt_f, eq_f, lt_m1, m1_lt, eq_m1, m1_eq, hN, h4, hk]
  · intro hn
    by_cases h1 : N < 20
    · by_cases h0 : N = 0
      · subst h0
        by_cases h2 : its = nI 0
        · subst h2
          have h4 : ¬ σ 39 0 = -1 := fun z => hn ⟨by omega, fun _ => rfl, fun q => by omega, z⟩
          simp (disch := omega) only [s112_0, s112_1, s112_4, s112_7, s112_8, s112_11, s112_12, s112_15, s112_16, s112_17, s112_18, s112_21, s112_24, s112_25, s112_28, s112_29, s112_32, s112_33, s112_34, s112_35, s112_36, s112_39, s112_40, s112_41, s112_44, s112_45, s112_48, s112_49, s112_50, s112_51, s112_54, s112_56, s112_59, s112_60, s112_63, s112_64, s112_67, s112_68, s112_71, s112_72, s112_73, s112_74, s112_77, s112_78, s112_81, s112_82z0, s112_82z1, eq_self, bnd_l, bnd_r, Option.toList_some, Option.toList_none, List.cons_append, List.nil_append, Nat.add_zero, Nat.zero_add, ↓reduceIte, nI_add, nI_mul, nI_subI, lt_t, lt_f, eq_f, lt_m1, m1_lt, eq_m1, m1_eq, hN, h4]
        · simp (disch := omega) only [s112_0, s112_1, s112_4, s112_7, s112_8, s112_11, s112_12, s112_15, s112_16, s112_17, s112_18, s112_21, s112_24, s112_25, s112_28, s112_29, s112_32, s112_33, s112_34, s112_35, s112_36, s112_39, s112_40, s112_41, s112_44, s112_45, s112_48, s112_49, s112_50, s112_51, s112_54, s112_56, s112_59, s112_60, s112_63, s112_64, s112_67, s112_68, s112_71, s112_72, s112_73, s112_74, s112_77, s112_78, s112_81, s112_82z0, s112_82z1, eq_self, bnd_l, bnd_r, Option.toList_some, Option.toList_none, List.cons_append, List.nil_append, Nat.add_zero, Nat.zero_add, ↓reduceIte, nI_add, nI_mul, nI_subI, lt_t, lt_f, eq_f, lt_m1, m1_lt, eq_m1, m1_eq, hN, h2]
      · by_cases hk : σ 36 (N - 1) = nI 2
        · by_cases h2 : its = nI 1
          · subst h2
            have h4 : ¬ σ 39 0 = -1 := fun z => hn ⟨h1, fun q => absurd q h0, fun _ _ => rfl, z⟩
            simp (disch := omega) only [s112_0, s112_1, s112_4, s112_7, s112_8, s112_11, s112_12, s112_15, s112_16, s112_17, s112_18, s112_21, s112_24, s112_25, s112_28, s112_29, s112_32, s112_33, s112_34, s112_35, s112_36, s112_39, s112_40, s112_41, s112_44, s112_45, s112_48, s112_49, s112_50, s112_51, s112_54, s112_56, s112_59, s112_60, s112_63, s112_64, s112_67, s112_68, s112_71, s112_72, s112_73, s112_74, s112_77, s112_78, s112_81, s112_82z0, s112_82z1, eq_self, bnd_l, bnd_r, Option.toList_some, Option.toList_none, List.cons_append, List.nil_append, Nat.add_zero, Nat.zero_add, ↓reduceIte, nI_add, nI_mul, nI_subI, lt_t, lt_f, eq_f, lt_m1, m1_lt, eq_m1, m1_eq, hN, hk, h4]
          · simp (disch := omega) only [s112_0, s112_1, s112_4, s112_7, s112_8, s112_11, s112_12, s112_15, s112_16, s112_17, s112_18, s112_21, s112_24, s112_25, s112_28, s112_29, s112_32, s112_33, s112_34, s112_35, s112_36, s112_39, s112_40, s112_41, s112_44, s112_45, s112_48, s112_49, s112_50, s112_51, s112_54, s112_56, s112_59, s112_60, s112_63, s112_64, s112_67, s112_68, s112_71, s112_72, s112_73, s112_74, s112_77, s112_78, s112_81, s112_82z0, s112_82z1, eq_self, bnd_l, bnd_r, Option.toList_some, Option.toList_none, List.cons_append, List.nil_append, Nat.add_zero, Nat.zero_add, ↓reduceIte, nI_add, nI_mul, nI_subI, lt_t, lt_f, eq_f, lt_m1, m1_lt, eq_m1, m1_eq, hN, hk, h2]
        · have h4 : ¬ σ 39 0 = -1 := fun z => hn ⟨h1, fun q => absurd q h0, fun _ q => absurd q hk, z⟩
          simp (disch := omega) only [s112_0, s112_1, s112_4, s112_7, s112_8, s112_11, s112_12, s112_15, s112_16, s112_17, s112_18, s112_21, s112_24, s112_25, s112_28, s112_29, s112_32, s112_33, s112_34, s112_35, s112_36, s112_39, s112_40, s112_41, s112_44, s112_45, s112_48, s112_49, s112_50, s112_51, s112_54, s112_56, s112_59, s112_60, s112_63, s112_64, s112_67, s112_68, s112_71, s112_72, s112_73, s112_74, s112_77, s112_78, s112_81, s112_82z0, s112_82z1, eq_self, bnd_l, bnd_r, Option.toList_some, Option.toList_none, List.cons_append, List.nil_append, Nat.add_zero, Nat.zero_add, ↓reduceIte, nI_add, nI_mul, nI_subI, lt_t, lt_f, eq_f, lt_m1, m1_lt, eq_m1, m1_eq, hN, hk, h4]
    · have h5 : N = 20 := by omega
      subst h5
      by_cases hk : σ 36 19 = nI 2
      · by_cases h2 : its = nI 1
        · simp (disch := omega) only [s112_0, s112_1, s112_4, s112_7, s112_8, s112_11, s112_12, s112_15, s112_16, s112_17, s112_18, s112_21, s112_24, s112_25, s112_28, s112_29, s112_32, s112_33, s112_34, s112_35, s112_36, s112_39, s112_40, s112_41, s112_44, s112_45, s112_48, s112_49, s112_50, s112_51, s112_54, s112_56, s112_59, s112_60, s112_63, s112_64, s112_67, s112_68, s112_71, s112_72, s112_73, s112_74, s112_77, s112_78, s112_81, s112_82z0, s112_82z1, eq_self, bnd_l, bnd_r, Option.toList_some, Option.toList_none, List.cons_append, List.nil_append, Nat.add_zero, Nat.zero_add, ↓reduceIte, nI_add, nI_mul, nI_subI, lt_t, lt_f, eq_f, lt_m1, m1_lt, eq_m1, m1_eq, hN, hk, h2]
        · simp (disch := omega) only [s112_0, s112_1, s112_4, s112_7, s112_8, s112_11, s112_12, s112_15, s112_16, s112_17, s112_18, s112_21, s112_24, s112_25, s112_28, s112_29, s112_32, s112_33, s112_34, s112_35, s112_36, s112_39, s112_40, s112_41, s112_44, s112_45, s112_48, s112_49, s112_50, s112_51, s112_54, s112_56, s112_59, s112_60, s112_63, s112_64, s112_67, s112_68, s112_71, s112_72, s112_73, s112_74, s112_77, s112_78, s112_81, s112_82z0, s112_82z1, eq_self, bnd_l, bnd_r, Option.toList_some, Option.toList_none, List.cons_append, List.nil_append, Nat.add_zero, Nat.zero_add, ↓reduceIte, nI_add, nI_mul, nI_subI, lt_t, lt_f, eq_f, lt_m1, m1_lt, eq_m1, m1_eq, hN, hk, h2]
      · simp (disch := omega) only [s112_0, s112_1, s112_4, s112_7, s112_8, s112_11, s112_12, s112_15, s112_16, s112_17, s112_18, s112_21, s112_24, s112_25, s112_28, s112_29, s112_32, s112_33, s112_34, s112_35, s112_36, s112_39, s112_40, s112_41, s112_44, s112_45, s112_48, s112_49, s112_50, s112_51, s112_54, s112_56, s112_59, s112_60, s112_63, s112_64, s112_67, s112_68, s112_71, s112_72, s112_73, s112_74, s112_77, s112_78, s112_81, s112_82z0, s112_82z1, eq_self, bnd_l, bnd_r, Option.toList_some, Option.toList_none, List.cons_append, List.nil_append, Nat.add_zero, Nat.zero_add, ↓reduceIte, nI_add, nI_mul, nI_subI, lt_t, lt_f, eq_f, lt_m1, m1_lt, eq_m1, m1_eq, hN, hk]
end REF5
