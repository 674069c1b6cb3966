/-! THE REFERENCE: leaves -/
section REF1
variable {X : rX} {h : rH} {σ : Nat → Nat → Int32} {t : rH}
/-- what a call answers, making nothing -/
abbrev ans (x : Int32) (h : rH) : Option rR := some (.inl (some (.int x)), h, 0, 0)
abbrev ansV (h : rH) : Option rR := some (.inl none, h, 0, 0)
theorem c_isIn {v a b : Int32} : exC X 109 [.int v, .int a, .int b] h = ans (if v < a then nI 0 else if b < v then nI 0 else nI 1) h := by
  rw [ent_109]
  by_cases h1 : v < a
  · simp (disch := omega) only [s109_0, s109_1, s109_2, s109_5, s109_6, s109_7, s109_10, s109_11, s109_14, s109_15z0, s109_15z1, eq_self, bnd_l, bnd_r, Option.toList_some, Option.toList_none, List.cons_append, List.nil_append, Nat.add_zero, Nat.zero_add, ↓reduceIte, nI_add, nI_mul, nI_subI, lt_t, lt_f, eq_f, lt_m1, m1_lt, eq_m1, m1_eq, h1]
  · by_cases h2 : b < v
    · simp (disch := omega) only [s109_0, s109_1, s109_2, s109_5, s109_6, s109_7, s109_10, s109_11, s109_14, s109_15z0, s109_15z1, eq_self, bnd_l, bnd_r, Option.toList_some, Option.toList_none, List.cons_append, List.nil_append, Nat.add_zero, Nat.zero_add, ↓reduceIte, nI_add, nI_mul, nI_subI, lt_t, lt_f, eq_f, lt_m1, m1_lt, eq_m1, m1_eq, h1, h2]
    · simp (disch := omega) only [s109_0, s109_1, s109_2, s109_5, s109_6, s109_7, s109_10, s109_11, s109_14, s109_15z0, s109_15z1, eq_self, bnd_l, bnd_r, Option.toList_some, Option.toList_none, List.cons_append, List.nil_append, Nat.add_zero, Nat.zero_add, ↓reduceIte, nI_add, nI_mul, nI_subI, lt_t, lt_f, eq_f, lt_m1, m1_lt, eq_m1, m1_eq, h1, h2]
theorem c_isCar {v : Int32} : exC X 110 [.int v] h = ans (if v < nI 0 then nI 0 else if nI 9 < v then nI 0 else nI 1) h := by
  rw [ent_110]
  by_cases h1 : v < nI 0
  · simp (disch := omega) only [s110_0, s110_1, s110_2, s110_4, s110_7z0, s110_7z1, eq_self, bnd_l, bnd_r, Option.toList_some, Option.toList_none, List.cons_append, List.nil_append, Nat.add_zero, Nat.zero_add, ↓reduceIte, nI_add, nI_mul, nI_subI, lt_t, lt_f, eq_f, lt_m1, m1_lt, eq_m1, m1_eq, c_isIn, h1]
  · by_cases h2 : nI 9 < v
    · simp (disch := omega) only [s110_0, s110_1, s110_2, s110_4, s110_7z0, s110_7z1, eq_self, bnd_l, bnd_r, Option.toList_some, Option.toList_none, List.cons_append, List.nil_append, Nat.add_zero, Nat.zero_add, ↓reduceIte, nI_add, nI_mul, nI_subI, lt_t, lt_f, eq_f, lt_m1, m1_lt, eq_m1, m1_eq, c_isIn, h1, h2]
    · simp (disch := omega) only [s110_0, s110_1, s110_2, s110_4, s110_7z0, s110_7z1, eq_self, bnd_l, bnd_r, Option.toList_some, Option.toList_none, List.cons_append, List.nil_append, Nat.add_zero, Nat.zero_add, ↓reduceIte, nI_add, nI_mul, nI_subI, lt_t, lt_f, eq_f, lt_m1, m1_lt, eq_m1, m1_eq, c_isIn, h1, h2]
theorem c_isItem {v : Int32} : exC X 111 [.ref 35, .int v] (WW σ t) = ans (if v < nI 0 then nI 0 else if σ 35 1 - nI 1 < v then nI 0 else nI 1) (WW σ t) := by
  rw [ent_111]
  by_cases h1 : v < nI 0
  · simp (disch := omega) only [s111_0, s111_1, s111_2, s111_3, s111_6, s111_7, s111_8, s111_11z0, s111_11z1, eq_self, bnd_l, bnd_r, Option.toList_some, Option.toList_none, List.cons_append, List.nil_append, Nat.add_zero, Nat.zero_add, ↓reduceIte, nI_add, nI_mul, nI_subI, lt_t, lt_f, eq_f, lt_m1, m1_lt, eq_m1, m1_eq, c_isIn, h1]
  · by_cases h2 : σ 35 1 - nI 1 < v
    · simp (disch := omega) only [s111_0, s111_1, s111_2, s111_3, s111_6, s111_7, s111_8, s111_11z0, s111_11z1, eq_self, bnd_l, bnd_r, Option.toList_some, Option.toList_none, List.cons_append, List.nil_append, Nat.add_zero, Nat.zero_add, ↓reduceIte, nI_add, nI_mul, nI_subI, lt_t, lt_f, eq_f, lt_m1, m1_lt, eq_m1, m1_eq, c_isIn, h1, h2]
    · simp (disch := omega) only [s111_0, s111_1, s111_2, s111_3, s111_6, s111_7, s111_8, s111_11z0, s111_11z1, eq_self, bnd_l, bnd_r, Option.toList_some, Option.toList_none, List.cons_append, List.nil_append, Nat.add_zero, Nat.zero_add, ↓reduceIte, nI_add, nI_mul, nI_subI, lt_t, lt_f, eq_f, lt_m1, m1_lt, eq_m1, m1_eq, c_isIn, h1, h2]
theorem c_holds {v : Int32} : exC X 108 [.ref 35, .int v] (WW σ t) = ans (if v = nI 0 then nI 1 else nI 0) (WW (u2 σ 35 0 v) t) := by
  rw [ent_108]
  by_cases h1 : v = nI 0
  · simp (disch := omega) only [s108_0, s108_1, s108_2, s108_5, s108_6, s108_9, s108_10, s108_13, s108_14z0, s108_14z1, eq_self, bnd_l, bnd_r, Option.toList_some, Option.toList_none, List.cons_append, List.nil_append, Nat.add_zero, Nat.zero_add, ↓reduceIte, nI_add, nI_mul, nI_subI, lt_t, lt_f, eq_f, lt_m1, m1_lt, eq_m1, m1_eq, h1]
  · simp (disch := omega) only [s108_0, s108_1, s108_2, s108_5, s108_6, s108_9, s108_10, s108_13, s108_14z0, s108_14z1, eq_self, bnd_l, bnd_r, Option.toList_some, Option.toList_none, List.cons_append, List.nil_append, Nat.add_zero, Nat.zero_add, ↓reduceIte, nI_add, nI_mul, nI_subI, lt_t, lt_f, eq_f, lt_m1, m1_lt, eq_m1, m1_eq, h1]
/-- the last place under n where o holds the car; none -/
def plcF (o : Nat → Int32) (car : Int32) : Nat → Int32
  | 0 => -1
  | k + 1 => if o k = car then nI k else plcF o car k
theorem l_placeIn {leg n : Nat} {car : Int32} (hl : leg < 20) (hm : okM (σ 39 leg)) (hn : cnt (σ 39 leg) = n) (Q : Option rR) (hQ : exM X 120 45 [some (.ref 35), some (.int (nI leg)), some (.int car), some (.int (plcF (fun k => σ 38 (10 * leg + k)) car n)), some (.int (nI n))] [] (WW σ t) 0 0 = Q) :
    ∀ j k, k + j = n → exM X 120 5 [some (.ref 35), some (.int (nI leg)), some (.int car), some (.int (plcF (fun k => σ 38 (10 * leg + k)) car k)), some (.int (nI k))] [] (WW σ t) 0 0 = Q := by
  have hlt := okM_lt hm
  have hle := okM_le hm
  intro j
  induction j with
  | zero =>
    intro k hk
    have e : k = n := by omega
    subst e
    simp (disch := omega) only [s120_0, s120_1, s120_2, s120_3, s120_5, s120_7, s120_8, s120_11, s120_12, s120_13, s120_16, s120_17, s120_20, s120_22, s120_23, s120_24, s120_26, s120_27, s120_28, s120_29, s120_32, s120_34, s120_37, s120_38, s120_39, s120_42, s120_46, eq_self, bnd_l, bnd_r, Option.toList_some, Option.toList_none, List.cons_append, List.nil_append, Nat.add_zero, Nat.zero_add, ↓reduceIte, nI_add, nI_mul, nI_subI, lt_t, lt_f, eq_f, lt_m1, m1_lt, eq_m1, m1_eq, hlt, hn, Nat.lt_irrefl]
    exact hQ
  | succ j ih =>
    intro k hk
    rw [s120_5]
    have i1 := ih (k + 1) (by omega)
    have hk' : (k < n) = True := eq_true (by omega)
    by_cases hc : σ 38 (10 * leg + k) = car
    · simp only [plcF, hc, if_true] at i1
      simp (disch := omega) only [s120_0, s120_1, s120_2, s120_3, s120_7, s120_8, s120_11, s120_12, s120_13, s120_16, s120_17, s120_20, s120_22, s120_23, s120_24, s120_26, s120_27, s120_28, s120_29, s120_32, s120_34, s120_37, s120_38, s120_39, s120_42, s120_45, s120_46, eq_self, bnd_l, bnd_r, Option.toList_some, Option.toList_none, List.cons_append, List.nil_append, Nat.add_zero, Nat.zero_add, ↓reduceIte, nI_add, nI_mul, nI_subI, lt_t, lt_f, eq_f, lt_m1, m1_lt, eq_m1, m1_eq, hlt, hn, hk', hc, i1]
    · simp only [plcF, hc, if_false] at i1
      simp (disch := omega) only [s120_0, s120_1, s120_2, s120_3, s120_7, s120_8, s120_11, s120_12, s120_13, s120_16, s120_17, s120_20, s120_22, s120_23, s120_24, s120_26, s120_27, s120_28, s120_29, s120_32, s120_34, s120_37, s120_38, s120_39, s120_42, s120_45, s120_46, eq_self, bnd_l, bnd_r, Option.toList_some, Option.toList_none, List.cons_append, List.nil_append, Nat.add_zero, Nat.zero_add, ↓reduceIte, nI_add, nI_mul, nI_subI, lt_t, lt_f, eq_f, lt_m1, m1_lt, eq_m1, m1_eq, hlt, hn, hk', hc, i1]
theorem c_placeIn {leg : Nat} {car : Int32} (hl : leg < 20) (hm : okM (σ 39 leg)) : exC X 120 [.ref 35, .int (nI leg), .int car] (WW σ t) = ans (plcF (fun k => σ 38 (10 * leg + k)) car (cnt (σ 39 leg))) (WW σ t) := by
  rw [ent_120]
  have hL := l_placeIn (X := X) (t := t) (car := car) hl hm rfl _ rfl (cnt (σ 39 leg)) 0 (by omega)
  simp only [plcF] at hL
  simp (disch := omega) only [s120_0, s120_1, s120_2, s120_3, s120_7, s120_8, s120_11, s120_12, s120_13, s120_16, s120_17, s120_20, s120_22, s120_23, s120_24, s120_26, s120_27, s120_28, s120_29, s120_32, s120_34, s120_37, s120_38, s120_39, s120_42, s120_45, s120_46, eq_self, bnd_l, bnd_r, Option.toList_some, Option.toList_none, List.cons_append, List.nil_append, Nat.add_zero, Nat.zero_add, ↓reduceIte, nI_add, nI_mul, nI_subI, lt_t, lt_f, eq_f, lt_m1, m1_lt, eq_m1, m1_eq, hL]
/-- the leg of an item -/
def legF (kd : Nat → Int32) : Nat → Nat
  | 0 => 0
  | i + 1 => if kd (i + 1) = nI 0 then i + 1 else legF kd i
theorem legF_le (kd : Nat → Int32) : ∀ i, legF kd i ≤ i
  | 0 => Nat.le_refl _
  | i + 1 => by
    unfold legF
    split
    · exact Nat.le_refl _
    · exact Nat.le_succ_of_le (legF_le kd i)
theorem l_legOf {o1 : Option Value} (h0 : σ 36 0 = nI 0) : ∀ j, j < 20 → exM X 119 2 [some (.ref 35), o1, some (.int (nI j))] [] (WW σ t) 0 0 = ans (nI (legF (σ 36) j)) (WW σ t) := by
  intro j
  induction j with
  | zero =>
    intro _
    simp (disch := omega) only [s119_0, s119_1, s119_2, s119_3, s119_6, s119_7, s119_8, s119_11, s119_14, s119_17, s119_18, eq_self, bnd_l, bnd_r, Option.toList_some, Option.toList_none, List.cons_append, List.nil_append, Nat.add_zero, Nat.zero_add, ↓reduceIte, nI_add, nI_mul, nI_subI, lt_t, lt_f, eq_f, lt_m1, m1_lt, eq_m1, m1_eq, h0, legF]
  | succ j ih =>
    intro hj
    rw [s119_2]
    have i1 := ih (by omega)
    by_cases hc : σ 36 (j + 1) = nI 0
    · simp (disch := omega) only [s119_0, s119_1, s119_3, s119_6, s119_7, s119_8, s119_11, s119_14, s119_17, s119_18, eq_self, bnd_l, bnd_r, Option.toList_some, Option.toList_none, List.cons_append, List.nil_append, Nat.add_zero, Nat.zero_add, ↓reduceIte, nI_add, nI_mul, nI_subI, lt_t, lt_f, eq_f, lt_m1, m1_lt, eq_m1, m1_eq, hc, legF]
    · simp (disch := omega) only [s119_0, s119_1, s119_3, s119_6, s119_7, s119_8, s119_11, s119_14, s119_17, s119_18, eq_self, bnd_l, bnd_r, Option.toList_some, Option.toList_none, List.cons_append, List.nil_append, Nat.add_zero, Nat.zero_add, ↓reduceIte, nI_add, nI_mul, nI_subI, lt_t, lt_f, eq_f, lt_m1, m1_lt, eq_m1, m1_eq, hc, legF, nI_decI, Nat.add_sub_cancel, i1]
theorem c_legOf {i : Nat} (hi : i < 20) (h0 : σ 36 0 = nI 0) : exC X 119 [.ref 35, .int (nI i)] (WW σ t) = ans (nI (legF (σ 36) i)) (WW σ t) := by
  rw [ent_119]
  have hL := l_legOf (X := X) (σ := σ) (t := t) (o1 := some (.int (nI i))) h0 i hi
  simp (disch := omega) only [s119_0, s119_1, s119_3, s119_6, s119_7, s119_8, s119_11, s119_14, s119_17, s119_18, eq_self, bnd_l, bnd_r, Option.toList_some, Option.toList_none, List.cons_append, List.nil_append, Nat.add_zero, Nat.zero_add, ↓reduceIte, nI_add, nI_mul, nI_subI, lt_t, lt_f, eq_f, lt_m1, m1_lt, eq_m1, m1_eq, hL]
/-- the control ahead -/
def ahdF (kd : Nat → Int32) (i : Nat) : Nat := if kd (i - 1) = nI 2 then i - 2 else i - 1
theorem c_ahead {i : Nat} (h1 : 1 ≤ i) (hi : i < 20) (h0 : σ 36 0 = nI 0) : exC X 118 [.ref 35, .int (nI i)] (WW σ t) = ans (nI (ahdF (σ 36) i)) (WW σ t) := by
  rw [ent_118]
  by_cases hc : σ 36 (i - 1) = nI 2
  · have h2 : 2 ≤ i := by
      by_cases e : i = 1
      · subst e
        rw [h0, eq_f (by omega) (by omega) (by omega)] at hc
        exact hc.elim
      · omega
    simp (disch := omega) only [s118_0, s118_1, s118_4, s118_5, s118_6, s118_7, s118_8, s118_9, s118_12, s118_13, s118_14, s118_15, s118_18, s118_19, s118_20, s118_21, eq_self, bnd_l, bnd_r, Option.toList_some, Option.toList_none, List.cons_append, List.nil_append, Nat.add_zero, Nat.zero_add, ↓reduceIte, nI_add, nI_mul, nI_subI, lt_t, lt_f, eq_f, lt_m1, m1_lt, eq_m1, m1_eq, hc, ahdF]
  · simp (disch := omega) only [s118_0, s118_1, s118_4, s118_5, s118_6, s118_7, s118_8, s118_9, s118_12, s118_13, s118_14, s118_15, s118_18, s118_19, s118_20, s118_21, eq_self, bnd_l, bnd_r, Option.toList_some, Option.toList_none, List.cons_append, List.nil_append, Nat.add_zero, Nat.zero_add, ↓reduceIte, nI_add, nI_mul, nI_subI, lt_t, lt_f, eq_f, lt_m1, m1_lt, eq_m1, m1_eq, hc, ahdF]
/-- when a car is due by its card alone; none -/
def dueF (kd mi od mn sp dl : Nat → Int32) (c i : Nat) : Int32 :=
  if kd i = nI 0 then (if plcF (fun k => od (10 * i + k)) (nI c) (cnt (mn i)) = -1 then -1 else mi i + nI 2 * plcF (fun k => od (10 * i + k)) (nI c) (cnt (mn i)))
  else (if sp (10 * ahdF kd i + c) = -1 then -1 else sp (10 * ahdF kd i + c) + (if kd (i - 1) = nI 2 then nI 3 else nI 0) + mi i + dl (10 * i + c))
theorem sub12 : nI 1 - nI 2 = -1 := by decide +kernel
theorem c_dueAt {c i : Nat} (hc : c < 10) (hi : i < 20) (h0 : σ 36 0 = nI 0) (hm : okM (σ 39 i)) : exC X 121 [.ref 35, .int (nI c), .int (nI i)] (WW σ t) = ans (if σ 48 c = nI 0 then (if σ 49 c = nI 0 then dueF (σ 36) (σ 37) (σ 38) (σ 39) (σ 40) (σ 41) c i else -1) else -1) (WW σ t) := by
  rw [ent_121]
  by_cases h1 : σ 48 c = nI 0
  · by_cases h2 : σ 49 c = nI 0
    · by_cases hk : σ 36 i = nI 0
      · have hp := c_placeIn (X := X) (t := t) (car := nI c) hi hm
        by_cases hq : plcF (fun k => σ 38 (10 * i + k)) (nI c) (cnt (σ 39 i)) = -1
        · simp (disch := omega) only [s121_0, s121_1, s121_4, s121_5, s121_6, s121_9, s121_10, s121_13, s121_14, s121_15, s121_18, s121_19, s121_20, s121_21, s121_24, s121_25, s121_26, s121_29, s121_30, s121_31, s121_32, s121_35, s121_36, s121_37, s121_38, s121_41, s121_42, s121_45, s121_46, s121_49, s121_50, s121_51, s121_52, s121_53, s121_54, s121_55, s121_56, s121_57, s121_58, s121_61, s121_62, s121_63, s121_66, s121_68, s121_69, s121_70, s121_71, s121_72, s121_73, s121_75, s121_77, s121_78, s121_81, s121_82, s121_85, s121_87, s121_88, s121_89, s121_90, s121_91, s121_94, s121_95, s121_98, s121_99, s121_100, s121_101, s121_104, s121_105, s121_106, s121_107, s121_108, s121_111, s121_113, s121_114, s121_115, s121_116, s121_117, s121_118, s121_119, eq_self, bnd_l, bnd_r, Option.toList_some, Option.toList_none, List.cons_append, List.nil_append, Nat.add_zero, Nat.zero_add, ↓reduceIte, nI_add, nI_mul, nI_subI, lt_t, lt_f, eq_f, lt_m1, m1_lt, eq_m1, m1_eq, h1, h2, hk, hp, hq, dueF]
        · simp (disch := omega) only [s121_0, s121_1, s121_4, s121_5, s121_6, s121_9, s121_10, s121_13, s121_14, s121_15, s121_18, s121_19, s121_20, s121_21, s121_24, s121_25, s121_26, s121_29, s121_30, s121_31, s121_32, s121_35, s121_36, s121_37, s121_38, s121_41, s121_42, s121_45, s121_46, s121_49, s121_50, s121_51, s121_52, s121_53, s121_54, s121_55, s121_56, s121_57, s121_58, s121_61, s121_62, s121_63, s121_66, s121_68, s121_69, s121_70, s121_71, s121_72, s121_73, s121_75, s121_77, s121_78, s121_81, s121_82, s121_85, s121_87, s121_88, s121_89, s121_90, s121_91, s121_94, s121_95, s121_98, s121_99, s121_100, s121_101, s121_104, s121_105, s121_106, s121_107, s121_108, s121_111, s121_113, s121_114, s121_115, s121_116, s121_117, s121_118, s121_119, eq_self, bnd_l, bnd_r, Option.toList_some, Option.toList_none, List.cons_append, List.nil_append, Nat.add_zero, Nat.zero_add, ↓reduceIte, nI_add, nI_mul, nI_subI, lt_t, lt_f, eq_f, lt_m1, m1_lt, eq_m1, m1_eq, h1, h2, hk, hp, hq, dueF]
      · have hi1 : 1 ≤ i := by
          by_cases e : i = 0
          · subst e
            exact absurd h0 hk
          · omega
        have ha := c_ahead (X := X) (t := t) hi1 hi h0
        have hal : ahdF (σ 36) i < 20 := by unfold ahdF; split <;> omega
        by_cases hb : σ 40 (10 * ahdF (σ 36) i + c) = -1
        · simp (disch := omega) only [s121_0, s121_1, s121_4, s121_5, s121_6, s121_9, s121_10, s121_13, s121_14, s121_15, s121_18, s121_19, s121_20, s121_21, s121_24, s121_25, s121_26, s121_29, s121_30, s121_31, s121_32, s121_35, s121_36, s121_37, s121_38, s121_41, s121_42, s121_45, s121_46, s121_49, s121_50, s121_51, s121_52, s121_53, s121_54, s121_55, s121_56, s121_57, s121_58, s121_61, s121_62, s121_63, s121_66, s121_68, s121_69, s121_70, s121_71, s121_72, s121_73, s121_75, s121_77, s121_78, s121_81, s121_82, s121_85, s121_87, s121_88, s121_89, s121_90, s121_91, s121_94, s121_95, s121_98, s121_99, s121_100, s121_101, s121_104, s121_105, s121_106, s121_107, s121_108, s121_111, s121_113, s121_114, s121_115, s121_116, s121_117, s121_118, s121_119, eq_self, bnd_l, bnd_r, Option.toList_some, Option.toList_none, List.cons_append, List.nil_append, Nat.add_zero, Nat.zero_add, ↓reduceIte, nI_add, nI_mul, nI_subI, lt_t, lt_f, eq_f, lt_m1, m1_lt, eq_m1, m1_eq, h1, h2, hk, ha, hb, dueF]
        · by_cases hs : σ 36 (i - 1) = nI 2
          · have h2i : 2 ≤ i := by
              by_cases e : i = 1
              · subst e
                rw [h0, eq_f (by omega) (by omega) (by omega)] at hs
                exact hs.elim
              · omega
            have hz : ahdF (σ 36) i = i - 2 := by unfold ahdF; rw [if_pos hs]
            rw [hz] at hb
            simp (disch := omega) only [s121_0, s121_1, s121_4, s121_5, s121_6, s121_9, s121_10, s121_13, s121_14, s121_15, s121_18, s121_19, s121_20, s121_21, s121_24, s121_25, s121_26, s121_29, s121_30, s121_31, s121_32, s121_35, s121_36, s121_37, s121_38, s121_41, s121_42, s121_45, s121_46, s121_49, s121_50, s121_51, s121_52, s121_53, s121_54, s121_55, s121_56, s121_57, s121_58, s121_61, s121_62, s121_63, s121_66, s121_68, s121_69, s121_70, s121_71, s121_72, s121_73, s121_75, s121_77, s121_78, s121_81, s121_82, s121_85, s121_87, s121_88, s121_89, s121_90, s121_91, s121_94, s121_95, s121_98, s121_99, s121_100, s121_101, s121_104, s121_105, s121_106, s121_107, s121_108, s121_111, s121_113, s121_114, s121_115, s121_116, s121_117, s121_118, s121_119, eq_self, bnd_l, bnd_r, Option.toList_some, Option.toList_none, List.cons_append, List.nil_append, Nat.add_zero, Nat.zero_add, ↓reduceIte, nI_add, nI_mul, nI_subI, lt_t, lt_f, eq_f, lt_m1, m1_lt, eq_m1, m1_eq, h1, h2, hk, ha, hz, hb, hs, dueF]
          · have hz : ahdF (σ 36) i = i - 1 := by unfold ahdF; rw [if_neg hs]
            rw [hz] at hb
            by_cases e : i = 1
            · subst e
              simp (disch := omega) only [s121_0, s121_1, s121_4, s121_5, s121_6, s121_9, s121_10, s121_13, s121_14, s121_15, s121_18, s121_19, s121_20, s121_21, s121_24, s121_25, s121_26, s121_29, s121_30, s121_31, s121_32, s121_35, s121_36, s121_37, s121_38, s121_41, s121_42, s121_45, s121_46, s121_49, s121_50, s121_51, s121_52, s121_53, s121_54, s121_55, s121_56, s121_57, s121_58, s121_61, s121_62, s121_63, s121_66, s121_68, s121_69, s121_70, s121_71, s121_72, s121_73, s121_75, s121_77, s121_78, s121_81, s121_82, s121_85, s121_87, s121_88, s121_89, s121_90, s121_91, s121_94, s121_95, s121_98, s121_99, s121_100, s121_101, s121_104, s121_105, s121_106, s121_107, s121_108, s121_111, s121_113, s121_114, s121_115, s121_116, s121_117, s121_118, s121_119, eq_self, bnd_l, bnd_r, Option.toList_some, Option.toList_none, List.cons_append, List.nil_append, Nat.add_zero, Nat.zero_add, ↓reduceIte, nI_add, nI_mul, nI_subI, lt_t, lt_f, eq_f, lt_m1, m1_lt, eq_m1, m1_eq, h1, h2, hk, ha, hz, hb, hs, dueF, sub12]
            · simp (disch := omega) only [s121_0, s121_1, s121_4, s121_5, s121_6, s121_9, s121_10, s121_13, s121_14, s121_15, s121_18, s121_19, s121_20, s121_21, s121_24, s121_25, s121_26, s121_29, s121_30, s121_31, s121_32, s121_35, s121_36, s121_37, s121_38, s121_41, s121_42, s121_45, s121_46, s121_49, s121_50, s121_51, s121_52, s121_53, s121_54, s121_55, s121_56, s121_57, s121_58, s121_61, s121_62, s121_63, s121_66, s121_68, s121_69, s121_70, s121_71, s121_72, s121_73, s121_75, s121_77, s121_78, s121_81, s121_82, s121_85, s121_87, s121_88, s121_89, s121_90, s121_91, s121_94, s121_95, s121_98, s121_99, s121_100, s121_101, s121_104, s121_105, s121_106, s121_107, s121_108, s121_111, s121_113, s121_114, s121_115, s121_116, s121_117, s121_118, s121_119, eq_self, bnd_l, bnd_r, Option.toList_some, Option.toList_none, List.cons_append, List.nil_append, Nat.add_zero, Nat.zero_add, ↓reduceIte, nI_add, nI_mul, nI_subI, lt_t, lt_f, eq_f, lt_m1, m1_lt, eq_m1, m1_eq, h1, h2, hk, ha, hz, hb, hs, dueF]
    · simp (disch := omega) only [s121_0, s121_1, s121_4, s121_5, s121_6, s121_9, s121_10, s121_13, s121_14, s121_15, s121_18, s121_19, s121_20, s121_21, s121_24, s121_25, s121_26, s121_29, s121_30, s121_31, s121_32, s121_35, s121_36, s121_37, s121_38, s121_41, s121_42, s121_45, s121_46, s121_49, s121_50, s121_51, s121_52, s121_53, s121_54, s121_55, s121_56, s121_57, s121_58, s121_61, s121_62, s121_63, s121_66, s121_68, s121_69, s121_70, s121_71, s121_72, s121_73, s121_75, s121_77, s121_78, s121_81, s121_82, s121_85, s121_87, s121_88, s121_89, s121_90, s121_91, s121_94, s121_95, s121_98, s121_99, s121_100, s121_101, s121_104, s121_105, s121_106, s121_107, s121_108, s121_111, s121_113, s121_114, s121_115, s121_116, s121_117, s121_118, s121_119, eq_self, bnd_l, bnd_r, Option.toList_some, Option.toList_none, List.cons_append, List.nil_append, Nat.add_zero, Nat.zero_add, ↓reduceIte, nI_add, nI_mul, nI_subI, lt_t, lt_f, eq_f, lt_m1, m1_lt, eq_m1, m1_eq, h1, h2]
  · simp (disch := omega) only [s121_0, s121_1, s121_4, s121_5, s121_6, s121_9, s121_10, s121_13, s121_14, s121_15, s121_18, s121_19, s121_20, s121_21, s121_24, s121_25, s121_26, s121_29, s121_30, s121_31, s121_32, s121_35, s121_36, s121_37, s121_38, s121_41, s121_42, s121_45, s121_46, s121_49, s121_50, s121_51, s121_52, s121_53, s121_54, s121_55, s121_56, s121_57, s121_58, s121_61, s121_62, s121_63, s121_66, s121_68, s121_69, s121_70, s121_71, s121_72, s121_73, s121_75, s121_77, s121_78, s121_81, s121_82, s121_85, s121_87, s121_88, s121_89, s121_90, s121_91, s121_94, s121_95, s121_98, s121_99, s121_100, s121_101, s121_104, s121_105, s121_106, s121_107, s121_108, s121_111, s121_113, s121_114, s121_115, s121_116, s121_117, s121_118, s121_119, eq_self, bnd_l, bnd_r, Option.toList_some, Option.toList_none, List.cons_append, List.nil_append, Nat.add_zero, Nat.zero_add, ↓reduceIte, nI_add, nI_mul, nI_subI, lt_t, lt_f, eq_f, lt_m1, m1_lt, eq_m1, m1_eq, h1]
end REF1
