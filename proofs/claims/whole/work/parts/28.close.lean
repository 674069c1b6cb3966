/-! THE REFERENCE: the rally closed, one begun -/
theorem nI_div {a b : Nat} (ha : a < 2 ^ 31) (hb : b < 2 ^ 31) : nI a / nI b = nI (a / b) := by
  refine Int32.toInt_inj.mp ?_
  have h1 : a / b < 2 ^ 31 := Nat.lt_of_le_of_lt (Nat.div_le_self a b) ha
  rw [Int32.toInt_div, nI_toInt ha, nI_toInt hb, nI_toInt h1]
  have e : ((a : Int).tdiv (b : Int)) = ((a / b : Nat) : Int) := by
    exact (Int.ofNat_tdiv a b).symm
  rw [e]
  generalize a / b = q at *
  exact Int.bmod_eq_of_le (by omega) (by omega)
section REF10
variable {X : rX} {h : rH} {σ : Nat → Nat → Int32} {t : rH}
theorem q_thrown : exC X 107 [.ref 35] (WW σ t) = ans (σ 35 0) (WW σ t) := by
  rw [ent_107]
  simp (disch := omega) only [s107_0, s107_1, s107_4, eq_self, bnd_l, bnd_r, Option.toList_some, Option.toList_none, List.cons_append, List.nil_append, Nat.add_zero, Nat.zero_add, ↓reduceIte, nI_add, nI_mul, nI_subI, lt_t, lt_f, eq_f, lt_m1, m1_lt, eq_m1, m1_eq]
/-- the cards and stages begun anew, the first k cells -/
def bgA (σ : Nat → Nat → Int32) (k : Nat) : Nat → Nat → Int32 := fun p =>
  if p = 40 ∨ p = 42 ∨ p = 43 ∨ p = 45 then ltF k (fun _ => -1) (σ p)
  else if p = 41 ∨ p = 44 then ltF k (fun _ => nI 0) (σ p)
  else if p = 39 then (fun g => if 10 * g < k then -1 else σ 39 g) else σ p
def bgB (σ : Nat → Nat → Int32) (k : Nat) : Nat → Nat → Int32 := fun p => if p = 51 ∨ p = 52 then ltF k (fun _ => nI 0) (σ p) else σ p
def bgC (σ : Nat → Nat → Int32) (k : Nat) : Nat → Nat → Int32 := fun p => if p = 46 ∨ p = 47 ∨ p = 48 ∨ p = 49 ∨ p = 50 ∨ p = 53 then ltF k (fun _ => nI 0) (σ p) else σ p
theorem ltF_z (a b : Nat → Int32) : ltF 0 a b = b := ltF_0 a b
theorem bgA_0 : bgA σ 0 = σ := by
  funext p
  unfold bgA
  split
  · exact ltF_0 _ _
  · split
    · exact ltF_0 _ _
    · split
      · rename_i h1 h2 h3
        subst h3
        funext g
        rw [if_neg (by omega)]
      · rfl
theorem bgB_0 : bgB σ 0 = σ := by
  funext p
  unfold bgB
  split
  · exact ltF_0 _ _
  · rfl
theorem bgC_0 : bgC σ 0 = σ := by
  funext p
  unfold bgC
  split
  · exact ltF_0 _ _
  · rfl
theorem bgA_s {k : Nat} : u2 (u2 (u2 (u2 (u2 (u2 (u2 (bgA σ k) 40 k (-1)) 41 k (nI 0)) 42 k (-1)) 43 k (-1)) 44 k (nI 0)) 45 k (-1)) 39 (k / 10) (-1) = bgA σ (k + 1) := by
  funext p
  by_cases h : p = 39
  · subst h
    show upd (fun g => if 10 * g < k then -1 else σ 39 g) (k / 10) (-1) = fun g => if 10 * g < k + 1 then -1 else σ 39 g
    funext g
    unfold upd
    by_cases h1 : g = k / 10
    · rw [if_pos h1, if_pos (by omega)]
    · rw [if_neg h1]
      dsimp only
      by_cases h2 : 10 * g < k
      · rw [if_pos h2, if_pos (by omega)]
      · rw [if_neg h2, if_neg (by omega)]
  · by_cases h1 : p = 40
    · subst h1; exact upd_ltF k (fun _ => -1) (σ 40)
    · by_cases h2 : p = 41
      · subst h2; exact upd_ltF k (fun _ => nI 0) (σ 41)
      · by_cases h3 : p = 42
        · subst h3; exact upd_ltF k (fun _ => -1) (σ 42)
        · by_cases h4 : p = 43
          · subst h4; exact upd_ltF k (fun _ => -1) (σ 43)
          · by_cases h5 : p = 44
            · subst h5; exact upd_ltF k (fun _ => nI 0) (σ 44)
            · by_cases h6 : p = 45
              · subst h6; exact upd_ltF k (fun _ => -1) (σ 45)
              · rw [u2_ne h, u2_ne h6, u2_ne h5, u2_ne h4, u2_ne h3, u2_ne h2, u2_ne h1]
                unfold bgA
                simp only [h, h1, h2, h3, h4, h5, h6, or_self, if_false]
theorem bgB_s {k : Nat} : u2 (u2 (bgB σ k) 51 k (nI 0)) 52 k (nI 0) = bgB σ (k + 1) := by
  funext p
  by_cases h1 : p = 51
  · subst h1; exact upd_ltF k (fun _ => nI 0) (σ 51)
  · by_cases h2 : p = 52
    · subst h2; exact upd_ltF k (fun _ => nI 0) (σ 52)
    · rw [u2_ne h2, u2_ne h1]
      unfold bgB
      simp only [h1, h2, or_self, if_false]
theorem bgC_s {k : Nat} : u2 (u2 (u2 (u2 (u2 (u2 (bgC σ k) 46 k (nI 0)) 47 k (nI 0)) 48 k (nI 0)) 49 k (nI 0)) 50 k (nI 0)) 53 k (nI 0) = bgC σ (k + 1) := by
  funext p
  by_cases h1 : p = 46
  · subst h1; exact upd_ltF k (fun _ => nI 0) (σ 46)
  · by_cases h2 : p = 47
    · subst h2; exact upd_ltF k (fun _ => nI 0) (σ 47)
    · by_cases h3 : p = 48
      · subst h3; exact upd_ltF k (fun _ => nI 0) (σ 48)
      · by_cases h4 : p = 49
        · subst h4; exact upd_ltF k (fun _ => nI 0) (σ 49)
        · by_cases h5 : p = 50
          · subst h5; exact upd_ltF k (fun _ => nI 0) (σ 50)
          · by_cases h6 : p = 53
            · subst h6; exact upd_ltF k (fun _ => nI 0) (σ 53)
            · rw [u2_ne h6, u2_ne h5, u2_ne h4, u2_ne h3, u2_ne h2, u2_ne h1]
              unfold bgC
              simp only [h1, h2, h3, h4, h5, h6, or_self, if_false]
theorem l_beginsC {Q : Option rR} (hQ : ansV (WW (bgC σ 10) t) = Q) : ∀ n j, j + n = 10 → exM X 106 103 [some (.ref 35), some (.int (nI j))] [] (WW (bgC σ j) t) 0 0 = Q := by
  intro n
  induction n with
  | zero =>
    intro j hj
    have e : j = 10 := by omega
    subst e
    simp (disch := omega) only [s106_103, s106_104, s106_106, s106_109, s106_110, s106_113, s106_114, s106_115, s106_116, s106_117, s106_120, s106_121, s106_122, s106_123, s106_124, s106_127, s106_128, s106_129 nar0, s106_129 nar1, s106_130, s106_131, s106_134, s106_135, s106_136 nar0, s106_136 nar1, s106_137, s106_138, s106_141, s106_142, s106_143 nar0, s106_143 nar1, s106_144, s106_145, s106_148, s106_149, s106_150, s106_151, s106_154, s106_157, eq_self, bnd_l, bnd_r, Option.toList_some, Option.toList_none, List.cons_append, List.nil_append, Nat.add_zero, Nat.zero_add, ↓reduceIte, nI_add, nI_mul, nI_subI, lt_t, lt_f, eq_f, lt_m1, m1_lt, eq_m1, m1_eq]
    exact hQ
  | succ n ih =>
    intro j hj
    rw [s106_103]
    have i1 := ih (j + 1) (by omega)
    simp (disch := omega) only [s106_104, s106_106, s106_109, s106_110, s106_113, s106_114, s106_115, s106_116, s106_117, s106_120, s106_121, s106_122, s106_123, s106_124, s106_127, s106_128, s106_129 nar0, s106_129 nar1, s106_130, s106_131, s106_134, s106_135, s106_136 nar0, s106_136 nar1, s106_137, s106_138, s106_141, s106_142, s106_143 nar0, s106_143 nar1, s106_144, s106_145, s106_148, s106_149, s106_150, s106_151, s106_154, eq_self, bnd_l, bnd_r, Option.toList_some, Option.toList_none, List.cons_append, List.nil_append, Nat.add_zero, Nat.zero_add, ↓reduceIte, nI_add, nI_mul, nI_subI, lt_t, lt_f, eq_f, lt_m1, m1_lt, eq_m1, m1_eq, bgC_s]
    exact i1
theorem l_beginsB {Q : Option rR} (hQ : exM X 106 101 [some (.ref 35), some (.int (nI 1000))] [] (WW (bgB σ 1000) t) 0 0 = Q) : ∀ n j, j + n = 1000 → exM X 106 74 [some (.ref 35), some (.int (nI j))] [] (WW (bgB σ j) t) 0 0 = Q := by
  intro n
  induction n with
  | zero =>
    intro j hj
    have e : j = 1000 := by omega
    subst e
    simp (disch := omega) only [s106_74, s106_75, s106_78, s106_81, s106_82, s106_85, s106_86, s106_87 nar0, s106_87 nar1, s106_88, s106_89, s106_92, s106_93, s106_94 nar0, s106_94 nar1, s106_95, s106_98, eq_self, bnd_l, bnd_r, Option.toList_some, Option.toList_none, List.cons_append, List.nil_append, Nat.add_zero, Nat.zero_add, ↓reduceIte, nI_add, nI_mul, nI_subI, lt_t, lt_f, eq_f, lt_m1, m1_lt, eq_m1, m1_eq]
    exact hQ
  | succ n ih =>
    intro j hj
    rw [s106_74]
    have i1 := ih (j + 1) (by omega)
    simp (disch := omega) only [s106_75, s106_78, s106_81, s106_82, s106_85, s106_86, s106_87 nar0, s106_87 nar1, s106_88, s106_89, s106_92, s106_93, s106_94 nar0, s106_94 nar1, s106_95, s106_98, eq_self, bnd_l, bnd_r, Option.toList_some, Option.toList_none, List.cons_append, List.nil_append, Nat.add_zero, Nat.zero_add, ↓reduceIte, nI_add, nI_mul, nI_subI, lt_t, lt_f, eq_f, lt_m1, m1_lt, eq_m1, m1_eq, bgB_s]
    exact i1
theorem l_beginsA {Q : Option rR} (hQ : exM X 106 72 [some (.ref 35), some (.int (nI 200))] [] (WW (bgA σ 200) t) 0 0 = Q) : ∀ n j, j + n = 200 → exM X 106 7 [some (.ref 35), some (.int (nI j))] [] (WW (bgA σ j) t) 0 0 = Q := by
  intro n
  induction n with
  | zero =>
    intro j hj
    have e : j = 200 := by omega
    subst e
    simp (disch := omega) only [s106_7, s106_8, s106_11, s106_14, s106_15, s106_18, s106_19, s106_20, s106_21, s106_22, s106_25, s106_26, s106_27, s106_28, s106_29, s106_32, s106_33, s106_34, s106_35, s106_36, s106_39, s106_40, s106_41, s106_42, s106_43, s106_46, s106_47, s106_48 nar0, s106_48 nar1, s106_49, s106_50, s106_53, s106_54, s106_55, s106_56, s106_57, s106_60, s106_61, s106_63, s106_64, s106_65, s106_66, s106_69, eq_self, bnd_l, bnd_r, Option.toList_some, Option.toList_none, List.cons_append, List.nil_append, Nat.add_zero, Nat.zero_add, ↓reduceIte, nI_add, nI_mul, nI_subI, lt_t, lt_f, eq_f, lt_m1, m1_lt, eq_m1, m1_eq]
    exact hQ
  | succ n ih =>
    intro j hj
    rw [s106_7]
    have i1 := ih (j + 1) (by omega)
    have hy : ¬ nI 10 = 0 := nI_nz (by omega) (by omega)
    simp (disch := omega) only [s106_8, s106_11, s106_14, s106_15, s106_18, s106_19, s106_20, s106_21, s106_22, s106_25, s106_26, s106_27, s106_28, s106_29, s106_32, s106_33, s106_34, s106_35, s106_36, s106_39, s106_40, s106_41, s106_42, s106_43, s106_46, s106_47, s106_48 nar0, s106_48 nar1, s106_49, s106_50, s106_53, s106_54, s106_55, s106_56, s106_57, s106_60, s106_61, s106_64, s106_65, s106_66, s106_69, eq_self, bnd_l, bnd_r, Option.toList_some, Option.toList_none, List.cons_append, List.nil_append, Nat.add_zero, Nat.zero_add, ↓reduceIte, nI_add, nI_mul, nI_subI, lt_t, lt_f, eq_f, lt_m1, m1_lt, eq_m1, m1_eq, nI_div, s106_63 hy, bgA_s]
    exact i1
/-- the reference begun anew -/
def bgR (σ : Nat → Nat → Int32) : Nat → Nat → Int32 := bgC (bgB (bgA (u2 σ 35 1 (nI 0)) 200) 1000) 10
theorem r_begins : exC X 106 [.ref 35] (WW σ t) = ansV (WW (bgR σ) t) := by
  rw [ent_106]
  have hC := l_beginsC (X := X) (σ := bgB (bgA (u2 σ 35 1 (nI 0)) 200) 1000) (t := t) rfl 10 0 (by omega)
  rw [bgC_0] at hC
  have hB := l_beginsB (X := X) (σ := bgA (u2 σ 35 1 (nI 0)) 200) (t := t) (Q := ansV (WW (bgR σ) t)) (by
    simp (disch := omega) only [s106_101, s106_102, eq_self, bnd_l, bnd_r, Option.toList_some, Option.toList_none, List.cons_append, List.nil_append, Nat.add_zero, Nat.zero_add, ↓reduceIte, nI_add, nI_mul, nI_subI, lt_t, lt_f, eq_f, lt_m1, m1_lt, eq_m1, m1_eq]
    exact hC) 1000 0 (by omega)
  rw [bgB_0] at hB
  have hA := l_beginsA (X := X) (σ := u2 σ 35 1 (nI 0)) (t := t) (Q := ansV (WW (bgR σ) t)) (by
    simp (disch := omega) only [s106_72, s106_73, eq_self, bnd_l, bnd_r, Option.toList_some, Option.toList_none, List.cons_append, List.nil_append, Nat.add_zero, Nat.zero_add, ↓reduceIte, nI_add, nI_mul, nI_subI, lt_t, lt_f, eq_f, lt_m1, m1_lt, eq_m1, m1_eq]
    exact hB) 200 0 (by omega)
  rw [bgA_0] at hA
  simp (disch := omega) only [s106_0, s106_1, s106_2, s106_5, s106_6, eq_self, bnd_l, bnd_r, Option.toList_some, Option.toList_none, List.cons_append, List.nil_append, Nat.add_zero, Nat.zero_add, ↓reduceIte, nI_add, nI_mul, nI_subI, lt_t, lt_f, eq_f, lt_m1, m1_lt, eq_m1, m1_eq]
  exact hA
/-- the places of the rally that is over, of the first j cars -/
def plR (σ : Nat → Nat → Int32) (r j : Nat) : Nat → Nat → Int32 := sA σ 54 (fun i => if 10 * r ≤ i ∧ i < 10 * r + j then σ 55 (i - 10 * r) else σ 54 i)
theorem plR_0 {r : Nat} : plR σ r 0 = σ := by
  unfold plR
  rw [show (fun i => if 10 * r ≤ i ∧ i < 10 * r + 0 then σ 55 (i - 10 * r) else σ 54 i) = σ 54 from by
    funext i
    rw [if_neg (by omega)]]
  exact sA_self
theorem plR_s {r j : Nat} : u2 (plR σ r j) 54 (10 * r + j) (σ 55 j) = plR σ r (j + 1) := by
  unfold plR
  rw [u2_sA]
  congr 1
  funext i
  unfold upd
  by_cases h1 : i = 10 * r + j
  · subst h1
    rw [if_pos rfl, if_pos ⟨by omega, by omega⟩, Nat.add_sub_cancel_left]
  · rw [if_neg h1]
    dsimp only
    by_cases h2 : 10 * r ≤ i ∧ i < 10 * r + j
    · rw [if_pos h2, if_pos ⟨h2.1, by omega⟩]
    · rw [if_neg h2, if_neg (by omega)]
theorem l_close {r : Nat} (hr : r < 6) (hr1 : σ 35 20 = nI r) {Q : Option rR} (hQ : exM X 149 72 [some (.ref 35), some (.int (nI 10))] [] (WW (plR σ r 10) t) 0 0 = Q) : ∀ n j, j + n = 10 → exM X 149 40 [some (.ref 35), some (.int (nI j))] [] (WW (plR σ r j) t) 0 0 = Q := by
  intro n
  induction n with
  | zero =>
    intro j hj
    have e : j = 10 := by omega
    subst e
    simp (disch := omega) only [s149_40, s149_41, s149_43, s149_46, s149_47, s149_50, s149_52, s149_53, s149_56, s149_57, s149_58, s149_59, s149_60, s149_63, s149_64, s149_65, s149_66, s149_69, eq_self, bnd_l, bnd_r, Option.toList_some, Option.toList_none, List.cons_append, List.nil_append, Nat.add_zero, Nat.zero_add, ↓reduceIte, nI_add, nI_mul, nI_subI, lt_t, lt_f, eq_f, lt_m1, m1_lt, eq_m1, m1_eq]
    exact hQ
  | succ n ih =>
    intro j hj
    rw [s149_40]
    have i1 := ih (j + 1) (by omega)
    have e1 : plR σ r j 35 20 = nI r := hr1
    have e2 : plR σ r j 55 j = σ 55 j := rfl
    simp (disch := omega) only [s149_41, s149_43, s149_46, s149_47, s149_50, s149_52, s149_53, s149_56, s149_57, s149_58, s149_59, s149_60, s149_63, s149_64, s149_65, s149_66, s149_69, eq_self, bnd_l, bnd_r, Option.toList_some, Option.toList_none, List.cons_append, List.nil_append, Nat.add_zero, Nat.zero_add, ↓reduceIte, nI_add, nI_mul, nI_subI, lt_t, lt_f, eq_f, lt_m1, m1_lt, eq_m1, m1_eq, e1, e2, plR_s]
    exact i1
theorem q_close1 {r : Nat} (hr : r ≤ 6) (hr1 : σ 35 20 = nI r) (hn : r = 6 ∨ σ 39 0 = -1) : exC X 149 [.ref 35] (WW σ t) = ans (nI 0) (WW (u2 σ 35 0 (nI 1)) t) := by
  rw [ent_149]
  by_cases h6 : r = 6
  · subst h6
    simp (disch := omega) only [s149_0, s149_1, s149_2, s149_5, s149_7, s149_10, s149_11, s149_14, s149_15, s149_16, s149_17, s149_20, s149_21, s149_24, s149_25, s149_28, s149_31, s149_32, eq_self, bnd_l, bnd_r, Option.toList_some, Option.toList_none, List.cons_append, List.nil_append, Nat.add_zero, Nat.zero_add, ↓reduceIte, nI_add, nI_mul, nI_subI, lt_t, lt_f, eq_f, lt_m1, m1_lt, eq_m1, m1_eq, hr1, c_holds]
  · have h1 := hn.resolve_left h6
    simp (disch := omega) only [s149_0, s149_1, s149_2, s149_5, s149_7, s149_10, s149_11, s149_14, s149_15, s149_16, s149_17, s149_20, s149_21, s149_24, s149_25, s149_28, s149_31, s149_32, eq_self, bnd_l, bnd_r, Option.toList_some, Option.toList_none, List.cons_append, List.nil_append, Nat.add_zero, Nat.zero_add, ↓reduceIte, nI_add, nI_mul, nI_subI, lt_t, lt_f, eq_f, lt_m1, m1_lt, eq_m1, m1_eq, hr1, c_holds, h1]
/-- the state with the rally over, ahead of the new one -/
noncomputable def ovR (σ : Nat → Nat → Int32) (N r : Nat) : Nat → Nat → Int32 := u2 (plR (layR (nI 0) (u2 σ 35 0 (nI 0)) N) r 10) 35 20 (nI (r + 1))
theorem q_close0 {N r : Nat} (hR : RK σ N) (hr : r < 6) (hr1 : σ 35 20 = nI r) (hn : ¬ σ 39 0 = -1) : exC X 149 [.ref 35] (WW σ t) = ans (nI (r + 1)) (WW (bgR (ovR σ N r)) t) := by
  rw [ent_149]
  have i4 := r_laysRanks (X := X) (σ := (u2 σ 35 0 (nI 0))) (t := t) (z := nI 0) (N := N) (Or.inl rfl) hR
  have hb := r_begins (X := X) (σ := ovR σ N r) (t := t)
  have e1 : plR (layR (nI 0) (u2 σ 35 0 (nI 0)) N) r 10 35 20 = nI r := hr1
  have e2 : bgR (ovR σ N r) 35 20 = nI (r + 1) := rfl
  have hL := l_close (X := X) (σ := layR (nI 0) (u2 σ 35 0 (nI 0)) N) (t := t) hr (show layR (nI 0) (u2 σ 35 0 (nI 0)) N 35 20 = nI r from hr1) (Q := ans (nI (r + 1)) (WW (bgR (ovR σ N r)) t)) (by
    unfold ovR at hb e2
    simp (disch := omega) only [s149_72, s149_73, s149_74, s149_77, s149_78, s149_79, s149_82, s149_83, s149_86, s149_87, s149_90, eq_self, bnd_l, bnd_r, Option.toList_some, Option.toList_none, List.cons_append, List.nil_append, Nat.add_zero, Nat.zero_add, ↓reduceIte, nI_add, nI_mul, nI_subI, lt_t, lt_f, eq_f, lt_m1, m1_lt, eq_m1, m1_eq, e1, hb, e2]
    rfl) 10 0 (by omega)
  rw [plR_0] at hL
  simp (disch := omega) only [s149_0, s149_1, s149_2, s149_5, s149_7, s149_10, s149_11, s149_14, s149_15, s149_16, s149_17, s149_20, s149_21, s149_24, s149_25, s149_28, s149_31, s149_32, s149_33, s149_34, s149_35, s149_38, s149_39, eq_self, bnd_l, bnd_r, Option.toList_some, Option.toList_none, List.cons_append, List.nil_append, Nat.add_zero, Nat.zero_add, ↓reduceIte, nI_add, nI_mul, nI_subI, lt_t, lt_f, eq_f, lt_m1, m1_lt, eq_m1, m1_eq, hr1, c_holds, hn, i4]
  exact hL
end REF10
