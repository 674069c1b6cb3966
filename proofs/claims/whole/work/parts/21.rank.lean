/-! THE REFERENCE: ranks -/
section REF3
variable {X : rX} {h : rH} {σ : Nat → Nat → Int32} {t : rH}
theorem isCar_in {c : Nat} (hc : c < 10) : exC X 110 [.int (nI c)] h = ans (nI 1) h := by
  rw [c_isCar, if_neg (nI_nlt (by omega) (by omega)), if_neg (nI_nlt (by omega) (by omega))]
theorem isCar_no {v : Int32} (hv : ¬ inR v 10) : exC X 110 [.int v] h = ans (nI 0) h := by
  rw [c_isCar]
  rcases inR_not (n := 9) (by omega) hv with h1 | ⟨h1, h2⟩
  · rw [if_pos h1]
  · rw [if_neg h1, if_pos h2]
theorem isIn_in {a b j : Nat} (ha : a ≤ j) (hb : j ≤ b) (hb2 : b < 2 ^ 31) : exC X 109 [.int (nI j), .int (nI a), .int (nI b)] h = ans (nI 1) h := by
  rw [c_isIn, if_neg (nI_nlt (by omega) (by omega)), if_neg (nI_nlt (by omega) (by omega))]
theorem isIn_no {v : Int32} {b : Nat} (hb : b < 2 ^ 31) (hv : ¬ inR v (b + 1)) : exC X 109 [.int v, .int (nI 0), .int (nI b)] h = ans (nI 0) h := by
  rw [c_isIn]
  rcases inR_not hb hv with h1 | ⟨h1, h2⟩
  · rw [if_pos h1]
  · rw [if_neg h1, if_pos h2]
theorem isItem_in {i N : Nat} (hN : σ 35 1 = nI N) (hN2 : N ≤ 20) (hi : i < N) : exC X 111 [.ref 35, .int (nI i)] (WW σ t) = ans (nI 1) (WW σ t) := by
  rw [c_isItem, hN, nI_subI (by omega), if_neg (nI_nlt (by omega) (by omega)), if_neg (nI_nlt (by omega) (by omega))]
theorem isItem_no {v : Int32} {N : Nat} (hN : σ 35 1 = nI N) (hN2 : N ≤ 20) (hv : ¬ inR v N) : exC X 111 [.ref 35, .int v] (WW σ t) = ans (nI 0) (WW σ t) := by
  rw [c_isItem, hN]
  by_cases h0 : N = 0
  · subst h0
    by_cases h1 : v < nI 0
    · rw [if_pos h1]
    · rw [if_neg h1]
      rw [show nI 0 - nI 1 = -1 by decide +kernel, if_pos]
      rw [Int32.lt_iff_toInt_lt] at h1 ⊢
      rw [m1_toInt]
      rw [nI_toInt (by omega)] at h1
      omega
  · obtain ⟨M, rfl⟩ : ∃ M, N = M + 1 := ⟨N - 1, by omega⟩
    rcases inR_not (n := M) (by omega) hv with h1 | ⟨h1, h2⟩
    · rw [if_pos h1]
    · rw [if_neg h1, nI_subI (by omega), Nat.add_sub_cancel, if_pos h2]
/-- the whole row p replaced -/
def sA (σ : Nat → Nat → Int32) (p : Nat) (f : Nat → Int32) : Nat → Nat → Int32 := fun a => if a = p then f else σ a
theorem u2_sA {σ : Nat → Nat → Int32} {p i : Nat} {f : Nat → Int32} {x : Int32} : u2 (sA σ p f) p i x = sA σ p (upd f i x) := by
  funext a
  unfold u2 sA
  by_cases h : a = p <;> simp [h]
theorem u2_def {σ : Nat → Nat → Int32} {p i : Nat} {x : Int32} : u2 σ p i x = sA σ p (upd (σ p) i x) := rfl
theorem sA_self {σ : Nat → Nat → Int32} {p : Nat} : sA σ p (σ p) = σ := by
  funext a
  unfold sA
  by_cases h : a = p
  · rw [if_pos h, h]
  · rw [if_neg h]
theorem sA_eq {σ : Nat → Nat → Int32} {p : Nat} {f : Nat → Int32} : sA σ p f p = f := if_pos rfl
theorem sA_ne {σ : Nat → Nat → Int32} {p q : Nat} {f : Nat → Int32} (h : q ≠ p) : sA σ p f q = σ q := if_neg h
theorem sA_sA {σ : Nat → Nat → Int32} {p : Nat} {f g : Nat → Int32} : sA (sA σ p f) p g = sA σ p g := by
  funext a
  unfold sA
  by_cases h : a = p <;> simp [h]
/-- the first j of a, behind them b -/
def ltF (j : Nat) (a b : Nat → Int32) : Nat → Int32 := fun i => if i < j then a i else b i
theorem ltF_0 (a b : Nat → Int32) : ltF 0 a b = b := by
  funext i
  simp [ltF]
theorem upd_ltF (j : Nat) (a b : Nat → Int32) : upd (ltF j a b) j (a j) = ltF (j + 1) a b := by
  funext i
  unfold upd ltF
  by_cases h : i = j
  · subst h; simp
  · rw [if_neg h]
    by_cases h2 : i < j
    · rw [if_pos h2, if_pos (by omega)]
    · rw [if_neg h2, if_neg (by omega)]
theorem ltF_lt {j i : Nat} {a b : Nat → Int32} (h : i < j) : ltF j a b i = a i := if_pos h
theorem ltF_ge {j i : Nat} {a b : Nat → Int32} (h : ¬ i < j) : ltF j a b i = b i := if_neg h
/-- what the reference's times need of its state -/
def RK (σ : Nat → Nat → Int32) (N : Nat) : Prop := N ≤ 20 ∧ σ 35 1 = nI N ∧ (0 < N → σ 36 0 = nI 0) ∧ ∀ g, g < 20 → okO (σ 38) (σ 39) g
/-- the time of a car in a stage -/
def tmR (σ : Nat → Nat → Int32) (i c : Nat) : Int32 := timeF (σ 40) (σ 42) (σ 43) (σ 44) (σ 45) (σ 38) (σ 39) (legF (σ 36) i) c i
theorem stage_pos {N i : Nat} (hR : RK σ N) (hi : i < N) (hk : σ 36 i = nI 2) : 1 ≤ i := by
  by_cases e : i = 0
  · subst e
    rw [hR.2.2.1 hi, eq_f (by omega) (by omega) (by omega)] at hk
    exact hk.elim
  · omega
theorem r_time {N c i : Nat} (hR : RK σ N) (hc : c < 10) (hi : i < N) (hk : σ 36 i = nI 2) : exC X 131 [.ref 35, .int (nI c), .int (nI i)] (WW σ t) = ans (tmR σ i c) (WW σ t) := by
  have hN := hR.1
  have hg := legF_le (σ 36) i
  exact c_timeOf hc (stage_pos hR hi hk) (by omega) (hR.2.2.1 (by omega)) (hR.2.2.2 _ (by omega))
/-- the best of the first j -/
def bstF (tm : Nat → Int32) : Nat → Int32
  | 0 => -1
  | j + 1 => if tm j = -1 then bstF tm j else if bstF tm j = -1 then tm j else if tm j < bstF tm j then tm j else bstF tm j
theorem l_bestOf {N i : Nat} {Q : Option rR} (hQ : ans (bstF (tmR σ i) 10) (WW σ t) = Q) (hR : RK σ N) (hi : i < N) (hk : σ 36 i = nI 2) : ∀ n j, j + n = 10 → ∀ o4, exM X 140 4 [some (.ref 35), some (.int (nI i)), some (.int (bstF (tmR σ i) j)), some (.int (nI j)), o4] [] (WW σ t) 0 0 = Q := by
  have hN := hR.1
  intro n
  induction n with
  | zero =>
    intro j hj o4
    have e : j = 10 := by omega
    subst e
    simp (disch := omega) only [s140_0, s140_1, s140_2, s140_3, s140_4, s140_5, s140_7, s140_10, s140_11, s140_12, s140_13, s140_16, s140_18, s140_20, s140_21, s140_24, s140_25, s140_26, s140_29, s140_31, s140_32, s140_35, s140_37, s140_40, s140_41, s140_42, s140_45, s140_48, s140_49, eq_self, bnd_l, bnd_r, Option.toList_some, Option.toList_none, List.cons_append, List.nil_append, Nat.add_zero, Nat.zero_add, ↓reduceIte, nI_add, nI_mul, nI_subI, lt_t, lt_f, eq_f, lt_m1, m1_lt, eq_m1, m1_eq]
    exact hQ
  | succ n ih =>
    intro j hj o4
    rw [s140_4]
    have i1 := ih (j + 1) (by omega)
    have ht := r_time (X := X) (t := t) hR (by omega : j < 10) hi hk
    by_cases h1 : tmR σ i j = -1
    · simp only [bstF, h1, if_true] at i1
      simp (disch := omega) only [s140_0, s140_1, s140_2, s140_3, s140_5, s140_7, s140_10, s140_11, s140_12, s140_13, s140_16, s140_18, s140_20, s140_21, s140_24, s140_25, s140_26, s140_29, s140_31, s140_32, s140_35, s140_37, s140_40, s140_41, s140_42, s140_45, s140_48, s140_49, eq_self, bnd_l, bnd_r, Option.toList_some, Option.toList_none, List.cons_append, List.nil_append, Nat.add_zero, Nat.zero_add, ↓reduceIte, nI_add, nI_mul, nI_subI, lt_t, lt_f, eq_f, lt_m1, m1_lt, eq_m1, m1_eq, ht, h1]
      exact i1 _
    · by_cases h2 : bstF (tmR σ i) j = -1
      · simp only [bstF, h1, h2, if_true, if_false] at i1
        simp (disch := omega) only [s140_0, s140_1, s140_2, s140_3, s140_5, s140_7, s140_10, s140_11, s140_12, s140_13, s140_16, s140_18, s140_20, s140_21, s140_24, s140_25, s140_26, s140_29, s140_31, s140_32, s140_35, s140_37, s140_40, s140_41, s140_42, s140_45, s140_48, s140_49, eq_self, bnd_l, bnd_r, Option.toList_some, Option.toList_none, List.cons_append, List.nil_append, Nat.add_zero, Nat.zero_add, ↓reduceIte, nI_add, nI_mul, nI_subI, lt_t, lt_f, eq_f, lt_m1, m1_lt, eq_m1, m1_eq, ht, h1, h2]
        exact i1 _
      · by_cases h3 : tmR σ i j < bstF (tmR σ i) j
        · simp only [bstF, h1, h2, h3, if_true, if_false] at i1
          simp (disch := omega) only [s140_0, s140_1, s140_2, s140_3, s140_5, s140_7, s140_10, s140_11, s140_12, s140_13, s140_16, s140_18, s140_20, s140_21, s140_24, s140_25, s140_26, s140_29, s140_31, s140_32, s140_35, s140_37, s140_40, s140_41, s140_42, s140_45, s140_48, s140_49, eq_self, bnd_l, bnd_r, Option.toList_some, Option.toList_none, List.cons_append, List.nil_append, Nat.add_zero, Nat.zero_add, ↓reduceIte, nI_add, nI_mul, nI_subI, lt_t, lt_f, eq_f, lt_m1, m1_lt, eq_m1, m1_eq, ht, h1, h2, h3]
          exact i1 _
        · simp only [bstF, h1, h2, h3, if_false] at i1
          simp (disch := omega) only [s140_0, s140_1, s140_2, s140_3, s140_5, s140_7, s140_10, s140_11, s140_12, s140_13, s140_16, s140_18, s140_20, s140_21, s140_24, s140_25, s140_26, s140_29, s140_31, s140_32, s140_35, s140_37, s140_40, s140_41, s140_42, s140_45, s140_48, s140_49, eq_self, bnd_l, bnd_r, Option.toList_some, Option.toList_none, List.cons_append, List.nil_append, Nat.add_zero, Nat.zero_add, ↓reduceIte, nI_add, nI_mul, nI_subI, lt_t, lt_f, eq_f, lt_m1, m1_lt, eq_m1, m1_eq, ht, h1, h2, h3]
          exact i1 _
theorem r_best {N i : Nat} (hR : RK σ N) (hi : i < N) (hk : σ 36 i = nI 2) : exC X 140 [.ref 35, .int (nI i)] (WW σ t) = ans (bstF (tmR σ i) 10) (WW σ t) := by
  rw [ent_140]
  have hL := l_bestOf (X := X) (t := t) rfl hR hi hk 10 0 (by omega) none
  rw [show bstF (tmR σ i) 0 = -1 from rfl] at hL
  simp (disch := omega) only [s140_0, s140_1, s140_2, s140_3, s140_5, s140_7, s140_10, s140_11, s140_12, s140_13, s140_16, s140_18, s140_20, s140_21, s140_24, s140_25, s140_26, s140_29, s140_31, s140_32, s140_35, s140_37, s140_40, s140_41, s140_42, s140_45, s140_48, s140_49, eq_self, bnd_l, bnd_r, Option.toList_some, Option.toList_none, List.cons_append, List.nil_append, Nat.add_zero, Nat.zero_add, ↓reduceIte, nI_add, nI_mul, nI_subI, lt_t, lt_f, eq_f, lt_m1, m1_lt, eq_m1, m1_eq, hL]
/-- what a stage adds to a total -/
def addF (tm : Nat → Nat → Int32) (i c : Nat) : Int32 := if tm i c = -1 then (if bstF (tm i) 10 = -1 then nI 0 else bstF (tm i) 10 + nI 6000) else tm i c
def totF (kd : Nat → Int32) (tm : Nat → Nat → Int32) (pen : Int32) (c : Nat) : Nat → Int32
  | 0 => pen
  | i + 1 => if kd i = nI 2 then totF kd tm pen c i + addF tm i c else totF kd tm pen c i
theorem l_totalOf {N c : Nat} (hR : RK σ N) (hc : c < 10) : ∀ n j, j + n = N → ∀ o4 o5, exM X 141 9 [some (.ref 35), some (.int (nI c)), some (.int (totF (σ 36) (tmR σ) (σ 46 c) c j)), some (.int (nI j)), o4, o5] [] (WW σ t) 0 0 = ans (totF (σ 36) (tmR σ) (σ 46 c) c N) (WW σ t) := by
  have hN := hR.1
  have hN1 := hR.2.1
  intro n
  induction n with
  | zero =>
    intro j hj o4 o5
    have e : j = N := by omega
    subst e
    simp (disch := omega) only [s141_0, s141_1, s141_4, s141_5, s141_6, s141_7, s141_8, s141_9, s141_10, s141_11, s141_14, s141_17, s141_18, s141_21, s141_22, s141_23, s141_24, s141_27, s141_28, s141_29, s141_30, s141_33, s141_35, s141_36, s141_37, s141_40, s141_42, s141_43, s141_45, s141_46, s141_49, s141_51, s141_54, s141_56, s141_57, s141_60, s141_61, s141_64, s141_66, s141_69, s141_70, s141_71, s141_72, s141_75, s141_78, s141_79, eq_self, bnd_l, bnd_r, Option.toList_some, Option.toList_none, List.cons_append, List.nil_append, Nat.add_zero, Nat.zero_add, ↓reduceIte, nI_add, nI_mul, nI_subI, lt_t, lt_f, eq_f, lt_m1, m1_lt, eq_m1, m1_eq, hN1]
  | succ n ih =>
    intro j hj o4 o5
    rw [s141_9]
    have i1 := ih (j + 1) (by omega)
    by_cases hk : σ 36 j = nI 2
    · have ht := r_time (X := X) (t := t) hR hc (by omega : j < N) hk
      have hb := r_best (X := X) (t := t) hR (by omega : j < N) hk
      by_cases h1 : tmR σ j c = -1
      · by_cases h2 : bstF (tmR σ j) 10 = -1
        · simp only [totF, addF, hk, h1, h2, if_true] at i1
          simp (disch := omega) only [s141_0, s141_1, s141_4, s141_5, s141_6, s141_7, s141_8, s141_10, s141_11, s141_14, s141_17, s141_18, s141_21, s141_22, s141_23, s141_24, s141_27, s141_28, s141_29, s141_30, s141_33, s141_35, s141_36, s141_37, s141_40, s141_42, s141_43, s141_45, s141_46, s141_49, s141_51, s141_54, s141_56, s141_57, s141_60, s141_61, s141_64, s141_66, s141_69, s141_70, s141_71, s141_72, s141_75, s141_78, s141_79, eq_self, bnd_l, bnd_r, Option.toList_some, Option.toList_none, List.cons_append, List.nil_append, Nat.add_zero, Nat.zero_add, ↓reduceIte, nI_add, nI_mul, nI_subI, lt_t, lt_f, eq_f, lt_m1, m1_lt, eq_m1, m1_eq, hN1, hk, ht, hb, h1, h2]
          exact i1 _ _
        · simp only [totF, addF, hk, h1, h2, if_true, if_false] at i1
          simp (disch := omega) only [s141_0, s141_1, s141_4, s141_5, s141_6, s141_7, s141_8, s141_10, s141_11, s141_14, s141_17, s141_18, s141_21, s141_22, s141_23, s141_24, s141_27, s141_28, s141_29, s141_30, s141_33, s141_35, s141_36, s141_37, s141_40, s141_42, s141_43, s141_45, s141_46, s141_49, s141_51, s141_54, s141_56, s141_57, s141_60, s141_61, s141_64, s141_66, s141_69, s141_70, s141_71, s141_72, s141_75, s141_78, s141_79, eq_self, bnd_l, bnd_r, Option.toList_some, Option.toList_none, List.cons_append, List.nil_append, Nat.add_zero, Nat.zero_add, ↓reduceIte, nI_add, nI_mul, nI_subI, lt_t, lt_f, eq_f, lt_m1, m1_lt, eq_m1, m1_eq, hN1, hk, ht, hb, h1, h2]
          exact i1 _ _
      · simp only [totF, addF, hk, h1, if_true, if_false] at i1
        simp (disch := omega) only [s141_0, s141_1, s141_4, s141_5, s141_6, s141_7, s141_8, s141_10, s141_11, s141_14, s141_17, s141_18, s141_21, s141_22, s141_23, s141_24, s141_27, s141_28, s141_29, s141_30, s141_33, s141_35, s141_36, s141_37, s141_40, s141_42, s141_43, s141_45, s141_46, s141_49, s141_51, s141_54, s141_56, s141_57, s141_60, s141_61, s141_64, s141_66, s141_69, s141_70, s141_71, s141_72, s141_75, s141_78, s141_79, eq_self, bnd_l, bnd_r, Option.toList_some, Option.toList_none, List.cons_append, List.nil_append, Nat.add_zero, Nat.zero_add, ↓reduceIte, nI_add, nI_mul, nI_subI, lt_t, lt_f, eq_f, lt_m1, m1_lt, eq_m1, m1_eq, hN1, hk, ht, hb, h1]
        exact i1 _ _
    · simp only [totF, hk, if_false] at i1
      simp (disch := omega) only [s141_0, s141_1, s141_4, s141_5, s141_6, s141_7, s141_8, s141_10, s141_11, s141_14, s141_17, s141_18, s141_21, s141_22, s141_23, s141_24, s141_27, s141_28, s141_29, s141_30, s141_33, s141_35, s141_36, s141_37, s141_40, s141_42, s141_43, s141_45, s141_46, s141_49, s141_51, s141_54, s141_56, s141_57, s141_60, s141_61, s141_64, s141_66, s141_69, s141_70, s141_71, s141_72, s141_75, s141_78, s141_79, eq_self, bnd_l, bnd_r, Option.toList_some, Option.toList_none, List.cons_append, List.nil_append, Nat.add_zero, Nat.zero_add, ↓reduceIte, nI_add, nI_mul, nI_subI, lt_t, lt_f, eq_f, lt_m1, m1_lt, eq_m1, m1_eq, hN1, hk]
      exact i1 _ _
/-- a car's total -/
def ttR (σ : Nat → Nat → Int32) (N c : Nat) : Int32 := totF (σ 36) (tmR σ) (σ 46 c) c N
theorem r_total {N c : Nat} (hR : RK σ N) (hc : c < 10) : exC X 141 [.ref 35, .int (nI c)] (WW σ t) = ans (ttR σ N c) (WW σ t) := by
  rw [ent_141]
  have hL := l_totalOf (X := X) (t := t) hR hc N 0 (by omega) none none
  simp only [totF] at hL
  simp (disch := omega) only [s141_0, s141_1, s141_4, s141_5, s141_6, s141_7, s141_8, s141_10, s141_11, s141_14, s141_17, s141_18, s141_21, s141_22, s141_23, s141_24, s141_27, s141_28, s141_29, s141_30, s141_33, s141_35, s141_36, s141_37, s141_40, s141_42, s141_43, s141_45, s141_46, s141_49, s141_51, s141_54, s141_56, s141_57, s141_60, s141_61, s141_64, s141_66, s141_69, s141_70, s141_71, s141_72, s141_75, s141_78, s141_79, eq_self, bnd_l, bnd_r, Option.toList_some, Option.toList_none, List.cons_append, List.nil_append, Nat.add_zero, Nat.zero_add, ↓reduceIte, nI_add, nI_mul, nI_subI, lt_t, lt_f, eq_f, lt_m1, m1_lt, eq_m1, m1_eq, hL]
  rfl
/-- whether a car is ranked -/
def rkP (σ : Nat → Nat → Int32) (c : Nat) : Prop := ¬ σ 40 c = -1 ∧ σ 48 c = nI 0 ∧ σ 49 c = nI 0
theorem r_isRanked {c : Nat} (hc : c < 10) : (rkP σ c → exC X 142 [.ref 35, .int (nI c)] (WW σ t) = ans (nI 1) (WW σ t)) ∧ (¬ rkP σ c → exC X 142 [.ref 35, .int (nI c)] (WW σ t) = ans (nI 0) (WW σ t)) := by
  rw [ent_142]
  constructor
  · rintro ⟨h1, h2, h3⟩
    simp (disch := omega) only [s142_0, s142_1, s142_4, s142_5, s142_6, s142_7, s142_10, s142_11, s142_14, s142_15, s142_16, s142_19, s142_20, s142_23, s142_24, s142_25, s142_28, s142_29, s142_32, s142_33z0, s142_33z1, eq_self, bnd_l, bnd_r, Option.toList_some, Option.toList_none, List.cons_append, List.nil_append, Nat.add_zero, Nat.zero_add, ↓reduceIte, nI_add, nI_mul, nI_subI, lt_t, lt_f, eq_f, lt_m1, m1_lt, eq_m1, m1_eq, h1, h2, h3]
  · intro hn
    by_cases h1 : σ 40 c = -1
    · simp (disch := omega) only [s142_0, s142_1, s142_4, s142_5, s142_6, s142_7, s142_10, s142_11, s142_14, s142_15, s142_16, s142_19, s142_20, s142_23, s142_24, s142_25, s142_28, s142_29, s142_32, s142_33z0, s142_33z1, eq_self, bnd_l, bnd_r, Option.toList_some, Option.toList_none, List.cons_append, List.nil_append, Nat.add_zero, Nat.zero_add, ↓reduceIte, nI_add, nI_mul, nI_subI, lt_t, lt_f, eq_f, lt_m1, m1_lt, eq_m1, m1_eq, h1]
    · by_cases h2 : σ 48 c = nI 0
      · have h3 : ¬ σ 49 c = nI 0 := fun z => hn ⟨h1, h2, z⟩
        simp (disch := omega) only [s142_0, s142_1, s142_4, s142_5, s142_6, s142_7, s142_10, s142_11, s142_14, s142_15, s142_16, s142_19, s142_20, s142_23, s142_24, s142_25, s142_28, s142_29, s142_32, s142_33z0, s142_33z1, eq_self, bnd_l, bnd_r, Option.toList_some, Option.toList_none, List.cons_append, List.nil_append, Nat.add_zero, Nat.zero_add, ↓reduceIte, nI_add, nI_mul, nI_subI, lt_t, lt_f, eq_f, lt_m1, m1_lt, eq_m1, m1_eq, h1, h2, h3]
      · simp (disch := omega) only [s142_0, s142_1, s142_4, s142_5, s142_6, s142_7, s142_10, s142_11, s142_14, s142_15, s142_16, s142_19, s142_20, s142_23, s142_24, s142_25, s142_28, s142_29, s142_32, s142_33z0, s142_33z1, eq_self, bnd_l, bnd_r, Option.toList_some, Option.toList_none, List.cons_append, List.nil_append, Nat.add_zero, Nat.zero_add, ↓reduceIte, nI_add, nI_mul, nI_subI, lt_t, lt_f, eq_f, lt_m1, m1_lt, eq_m1, m1_eq, h1, h2]
def farF (x : Int32) : Int32 := if x = -1 then nI 1000000000 else x
/-- by how much a car is behind another one, of the first i items -/
def offF (kd : Nat → Int32) (tm : Nat → Nat → Int32) (o0 : Int32) (a b : Nat) : Nat → Int32
  | 0 => o0
  | i + 1 => if offF kd tm o0 a b i = nI 0 then (if kd i = nI 2 then farF (tm i a) - farF (tm i b) else offF kd tm o0 a b i) else offF kd tm o0 a b i
theorem offF_stay {kd : Nat → Int32} {tm : Nat → Nat → Int32} {o0 : Int32} {a b i : Nat} (h : ¬ offF kd tm o0 a b i = nI 0) : ∀ j, offF kd tm o0 a b (i + j) = offF kd tm o0 a b i
  | 0 => rfl
  | j + 1 => by
    rw [← Nat.add_assoc, offF, offF_stay h j, if_neg h]
def ahdR (σ : Nat → Nat → Int32) (N a b : Nat) : Prop := offF (σ 36) (tmR σ) (σ 56 a - σ 56 b) a b N < nI 0 ∨ (offF (σ 36) (tmR σ) (σ 56 a - σ 56 b) a b N = nI 0 ∧ a < b)
theorem l_isAhead {N a b : Nat} (hR : RK σ N) (ha : a < 10) (hb : b < 10) (Q : Option rR) (hQ : ∀ o4 o5 o6, exM X 143 93 [some (.ref 35), some (.int (nI a)), some (.int (nI b)), some (.int (offF (σ 36) (tmR σ) (σ 56 a - σ 56 b) a b N)), o4, o5, o6] [] (WW σ t) 0 0 = Q) :
    ∀ n j, j + n = N → ∀ o5 o6, exM X 143 17 [some (.ref 35), some (.int (nI a)), some (.int (nI b)), some (.int (offF (σ 36) (tmR σ) (σ 56 a - σ 56 b) a b j)), some (.int (nI j)), o5, o6] [] (WW σ t) 0 0 = Q := by
  have hN := hR.1
  have hN1 := hR.2.1
  intro n
  induction n with
  | zero =>
    intro j hj o5 o6
    have e : j = N := by omega
    subst e
    simp (disch := omega) only [s143_17, s143_19, s143_20, s143_23, s143_26, s143_27, s143_30, s143_31, s143_34, s143_36, s143_37, s143_38, s143_41, s143_42, s143_43, s143_45, s143_48, s143_50, s143_51, s143_52, s143_54, s143_57, s143_59, s143_61, s143_62, s143_65, s143_67, s143_70, s143_72, s143_74, s143_75, s143_78, s143_80, s143_83, s143_85, s143_86, s143_87, s143_90, eq_self, bnd_l, bnd_r, Option.toList_some, Option.toList_none, List.cons_append, List.nil_append, Nat.add_zero, Nat.zero_add, ↓reduceIte, nI_add, nI_mul, nI_subI, lt_t, lt_f, eq_f, lt_m1, m1_lt, eq_m1, m1_eq, hN1]
    exact hQ _ _ _
  | succ n ih =>
    intro j hj o5 o6
    rw [s143_17]
    have i1 := ih (j + 1) (by omega)
    by_cases h0 : offF (σ 36) (tmR σ) (σ 56 a - σ 56 b) a b j = nI 0
    · by_cases hk : σ 36 j = nI 2
      · have h1 := r_time (X := X) (t := t) hR ha (by omega : j < N) hk
        have h2 := r_time (X := X) (t := t) hR hb (by omega : j < N) hk
        simp only [offF, h0, hk, if_true] at i1
        by_cases h3 : tmR σ j a = -1
        · by_cases h4 : tmR σ j b = -1
          · simp only [farF, h3, h4, if_true] at i1
            simp (disch := omega) only [s143_19, s143_20, s143_23, s143_26, s143_27, s143_30, s143_31, s143_34, s143_36, s143_37, s143_38, s143_41, s143_42, s143_43, s143_45, s143_48, s143_50, s143_51, s143_52, s143_54, s143_57, s143_59, s143_61, s143_62, s143_65, s143_67, s143_70, s143_72, s143_74, s143_75, s143_78, s143_80, s143_83, s143_85, s143_86, s143_87, s143_90, eq_self, bnd_l, bnd_r, Option.toList_some, Option.toList_none, List.cons_append, List.nil_append, Nat.add_zero, Nat.zero_add, ↓reduceIte, nI_add, nI_mul, nI_subI, lt_t, lt_f, eq_f, lt_m1, m1_lt, eq_m1, m1_eq, hN1, h0, hk, h1, h2, h3, h4]
            exact i1 _ _
          · simp only [farF, h3, h4, if_true, if_false] at i1
            simp (disch := omega) only [s143_19, s143_20, s143_23, s143_26, s143_27, s143_30, s143_31, s143_34, s143_36, s143_37, s143_38, s143_41, s143_42, s143_43, s143_45, s143_48, s143_50, s143_51, s143_52, s143_54, s143_57, s143_59, s143_61, s143_62, s143_65, s143_67, s143_70, s143_72, s143_74, s143_75, s143_78, s143_80, s143_83, s143_85, s143_86, s143_87, s143_90, eq_self, bnd_l, bnd_r, Option.toList_some, Option.toList_none, List.cons_append, List.nil_append, Nat.add_zero, Nat.zero_add, ↓reduceIte, nI_add, nI_mul, nI_subI, lt_t, lt_f, eq_f, lt_m1, m1_lt, eq_m1, m1_eq, hN1, h0, hk, h1, h2, h3, h4]
            exact i1 _ _
        · by_cases h4 : tmR σ j b = -1
          · simp only [farF, h3, h4, if_true, if_false] at i1
            simp (disch := omega) only [s143_19, s143_20, s143_23, s143_26, s143_27, s143_30, s143_31, s143_34, s143_36, s143_37, s143_38, s143_41, s143_42, s143_43, s143_45, s143_48, s143_50, s143_51, s143_52, s143_54, s143_57, s143_59, s143_61, s143_62, s143_65, s143_67, s143_70, s143_72, s143_74, s143_75, s143_78, s143_80, s143_83, s143_85, s143_86, s143_87, s143_90, eq_self, bnd_l, bnd_r, Option.toList_some, Option.toList_none, List.cons_append, List.nil_append, Nat.add_zero, Nat.zero_add, ↓reduceIte, nI_add, nI_mul, nI_subI, lt_t, lt_f, eq_f, lt_m1, m1_lt, eq_m1, m1_eq, hN1, h0, hk, h1, h2, h3, h4]
            exact i1 _ _
          · simp only [farF, h3, h4, if_false] at i1
            simp (disch := omega) only [s143_19, s143_20, s143_23, s143_26, s143_27, s143_30, s143_31, s143_34, s143_36, s143_37, s143_38, s143_41, s143_42, s143_43, s143_45, s143_48, s143_50, s143_51, s143_52, s143_54, s143_57, s143_59, s143_61, s143_62, s143_65, s143_67, s143_70, s143_72, s143_74, s143_75, s143_78, s143_80, s143_83, s143_85, s143_86, s143_87, s143_90, eq_self, bnd_l, bnd_r, Option.toList_some, Option.toList_none, List.cons_append, List.nil_append, Nat.add_zero, Nat.zero_add, ↓reduceIte, nI_add, nI_mul, nI_subI, lt_t, lt_f, eq_f, lt_m1, m1_lt, eq_m1, m1_eq, hN1, h0, hk, h1, h2, h3, h4]
            exact i1 _ _
      · simp only [offF, h0, hk, if_true, if_false] at i1
        simp (disch := omega) only [s143_19, s143_20, s143_23, s143_26, s143_27, s143_30, s143_31, s143_34, s143_36, s143_37, s143_38, s143_41, s143_42, s143_43, s143_45, s143_48, s143_50, s143_51, s143_52, s143_54, s143_57, s143_59, s143_61, s143_62, s143_65, s143_67, s143_70, s143_72, s143_74, s143_75, s143_78, s143_80, s143_83, s143_85, s143_86, s143_87, s143_90, eq_self, bnd_l, bnd_r, Option.toList_some, Option.toList_none, List.cons_append, List.nil_append, Nat.add_zero, Nat.zero_add, ↓reduceIte, nI_add, nI_mul, nI_subI, lt_t, lt_f, eq_f, lt_m1, m1_lt, eq_m1, m1_eq, hN1, h0, hk]
        exact i1 _ _
    · have hs := offF_stay h0 (n + 1)
      rw [hj] at hs
      rw [hs] at hQ
      simp (disch := omega) only [s143_19, s143_20, s143_23, s143_26, s143_27, s143_30, s143_31, s143_34, s143_36, s143_37, s143_38, s143_41, s143_42, s143_43, s143_45, s143_48, s143_50, s143_51, s143_52, s143_54, s143_57, s143_59, s143_61, s143_62, s143_65, s143_67, s143_70, s143_72, s143_74, s143_75, s143_78, s143_80, s143_83, s143_85, s143_86, s143_87, s143_90, eq_self, bnd_l, bnd_r, Option.toList_some, Option.toList_none, List.cons_append, List.nil_append, Nat.add_zero, Nat.zero_add, ↓reduceIte, nI_add, nI_mul, nI_subI, lt_t, lt_f, eq_f, lt_m1, m1_lt, eq_m1, m1_eq, hN1, h0]
      exact hQ _ _ _
theorem r_isAhead {N a b : Nat} (hR : RK σ N) (ha : a < 10) (hb : b < 10) : (ahdR σ N a b → exC X 143 [.ref 35, .int (nI a), .int (nI b)] (WW σ t) = ans (nI 1) (WW σ t)) ∧ (¬ ahdR σ N a b → exC X 143 [.ref 35, .int (nI a), .int (nI b)] (WW σ t) = ans (nI 0) (WW σ t)) := by
  rw [ent_143]
  have key : ∀ Q, (∀ o4 o5 o6, exM X 143 93 [some (.ref 35), some (.int (nI a)), some (.int (nI b)), some (.int (offF (σ 36) (tmR σ) (σ 56 a - σ 56 b) a b N)), o4, o5, o6] [] (WW σ t) 0 0 = Q) → exM X 143 0 [some (.ref 35), some (.int (nI a)), some (.int (nI b)), none, none, none, none] [] (WW σ t) 0 0 = Q := by
    intro Q hQ
    have hL := l_isAhead (X := X) (t := t) hR ha hb Q hQ N 0 (by omega) none none
    simp only [offF] at hL
    simp (disch := omega) only [s143_0, s143_1, s143_4, s143_5, s143_6, s143_7, s143_10, s143_11, s143_12, s143_13, s143_14, s143_15, eq_self, bnd_l, bnd_r, Option.toList_some, Option.toList_none, List.cons_append, List.nil_append, Nat.add_zero, Nat.zero_add, ↓reduceIte, nI_add, nI_mul, nI_subI, lt_t, lt_f, eq_f, lt_m1, m1_lt, eq_m1, m1_eq]
    exact hL
  constructor
  · intro hp
    refine key _ fun o4 o5 o6 => ?_
    rcases hp with h1 | ⟨h1, h2⟩
    · simp (disch := omega) only [s143_93, s143_94, s143_97, s143_98, s143_101, s143_102, s143_103, s143_106, s143_107, s143_110, s143_111z0, s143_111z1, eq_self, bnd_l, bnd_r, Option.toList_some, Option.toList_none, List.cons_append, List.nil_append, Nat.add_zero, Nat.zero_add, ↓reduceIte, nI_add, nI_mul, nI_subI, lt_t, lt_f, eq_f, lt_m1, m1_lt, eq_m1, m1_eq, h1]
    · rw [h1]
      simp (disch := omega) only [s143_93, s143_94, s143_97, s143_98, s143_101, s143_102, s143_103, s143_106, s143_107, s143_110, s143_111z0, s143_111z1, eq_self, bnd_l, bnd_r, Option.toList_some, Option.toList_none, List.cons_append, List.nil_append, Nat.add_zero, Nat.zero_add, ↓reduceIte, nI_add, nI_mul, nI_subI, lt_t, lt_f, eq_f, lt_m1, m1_lt, eq_m1, m1_eq]
  · intro hn
    refine key _ fun o4 o5 o6 => ?_
    have h1 : ¬ offF (σ 36) (tmR σ) (σ 56 a - σ 56 b) a b N < nI 0 := fun z => hn (Or.inl z)
    by_cases h2 : offF (σ 36) (tmR σ) (σ 56 a - σ 56 b) a b N = nI 0
    · have h3 : ¬ a < b := fun z => hn (Or.inr ⟨h2, z⟩)
      rw [h2]
      simp (disch := omega) only [s143_93, s143_94, s143_97, s143_98, s143_101, s143_102, s143_103, s143_106, s143_107, s143_110, s143_111z0, s143_111z1, eq_self, bnd_l, bnd_r, Option.toList_some, Option.toList_none, List.cons_append, List.nil_append, Nat.add_zero, Nat.zero_add, ↓reduceIte, nI_add, nI_mul, nI_subI, lt_t, lt_f, eq_f, lt_m1, m1_lt, eq_m1, m1_eq]
    · simp (disch := omega) only [s143_93, s143_94, s143_97, s143_98, s143_101, s143_102, s143_103, s143_106, s143_107, s143_110, s143_111z0, s143_111z1, eq_self, bnd_l, bnd_r, Option.toList_some, Option.toList_none, List.cons_append, List.nil_append, Nat.add_zero, Nat.zero_add, ↓reduceIte, nI_add, nI_mul, nI_subI, lt_t, lt_f, eq_f, lt_m1, m1_lt, eq_m1, m1_eq, h1, h2]
end REF3
