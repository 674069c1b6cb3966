/-! THE REFERENCE: places in the ranks, the table -/
noncomputable def b01 (p : Prop) : Nat := haveI := Classical.propDecidable p; if p then 1 else 0
theorem b01_t {p : Prop} (h : p) : b01 p = 1 := by unfold b01; exact if_pos h
theorem b01_f {p : Prop} (h : ¬ p) : b01 p = 0 := by unfold b01; exact if_neg h
/-- how many of the first j -/
noncomputable def cnF (P : Nat → Prop) : Nat → Nat
  | 0 => 0
  | j + 1 => cnF P j + b01 (P j)
theorem cnF_le (P : Nat → Prop) : ∀ j, cnF P j ≤ j
  | 0 => Nat.le_refl _
  | j + 1 => by
    have := cnF_le P j
    by_cases h : P j
    · rw [cnF, b01_t h]; omega
    · rw [cnF, b01_f h]; omega
theorem cnF_t {P : Nat → Prop} {j : Nat} (h : P j) : cnF P (j + 1) = cnF P j + 1 := by rw [cnF, b01_t h]
theorem cnF_f {P : Nat → Prop} {j : Nat} (h : ¬ P j) : cnF P (j + 1) = cnF P j := by rw [cnF, b01_f h, Nat.add_zero]
theorem upd_upd {f : Nat → Int32} {k : Nat} {x y : Int32} : upd (upd f k x) k y = upd f k y := by
  funext i
  unfold upd
  by_cases h : i = k <;> simp [h]
theorem upd_ltF' {j : Nat} {a b : Nat → Int32} {x : Int32} (h : x = a j) : upd (ltF j a b) j x = ltF (j + 1) a b := by rw [h, upd_ltF]
section REF4
variable {X : rX} {h : rH} {σ : Nat → Nat → Int32} {t : rH}
/-- who is in the ranks: all, or those that are ranked -/
def inP (z : Int32) (σ : Nat → Nat → Int32) (c : Nat) : Prop := z = nI 1 ∨ rkP σ c
/-- the place of a car in the ranks; none -/
noncomputable def rkF (z : Int32) (σ : Nat → Nat → Int32) (N c : Nat) : Int32 := haveI := Classical.propDecidable (inP z σ c); if inP z σ c then nI (cnF (fun o => o ≠ c ∧ inP z σ o ∧ ahdR σ N o c) 10) else -1
theorem rkF_t {z : Int32} {N c : Nat} (h : inP z σ c) : rkF z σ N c = nI (cnF (fun o => o ≠ c ∧ inP z σ o ∧ ahdR σ N o c) 10) := by unfold rkF; exact if_pos h
theorem rkF_f {z : Int32} {N c : Nat} (h : ¬ inP z σ c) : rkF z σ N c = -1 := by unfold rkF; exact if_neg h
theorem l_lays1 {N : Nat} {z : Int32} {o3 : Option Value} (hR : RK σ N) {Q : Option rR} (hQ : exM X 144 25 [some (.ref 35), some (.int z), some (.int (nI 10)), o3] [] (WW (sA σ 56 (ltF 10 (ttR σ N) (σ 56))) t) 0 0 = Q) :
    ∀ n j, j + n = 10 → exM X 144 2 [some (.ref 35), some (.int z), some (.int (nI j)), o3] [] (WW (sA σ 56 (ltF j (ttR σ N) (σ 56))) t) 0 0 = Q := by
  intro n
  induction n with
  | zero =>
    intro j hj
    have e : j = 10 := by omega
    subst e
    simp (disch := omega) only [s144_2, s144_3, s144_5, s144_8, s144_9, s144_12, s144_13, s144_14, s144_15, s144_18, s144_19, s144_22, eq_self, bnd_l, bnd_r, Option.toList_some, Option.toList_none, List.cons_append, List.nil_append, Nat.add_zero, Nat.zero_add, ↓reduceIte, nI_add, nI_mul, nI_subI, lt_t, lt_f, eq_f, lt_m1, m1_lt, eq_m1, m1_eq]
    exact hQ
  | succ n ih =>
    intro j hj
    rw [s144_2]
    have i1 := ih (j + 1) (by omega)
    have ht : exC X 141 [.ref 35, .int (nI j)] (WW (sA σ 56 (ltF j (ttR σ N) (σ 56))) t) = ans (ttR σ N j) (WW (sA σ 56 (ltF j (ttR σ N) (σ 56))) t) := r_total (σ := sA σ 56 (ltF j (ttR σ N) (σ 56))) (N := N) hR (by omega)
    simp (disch := omega) only [s144_3, s144_5, s144_8, s144_9, s144_12, s144_13, s144_14, s144_15, s144_18, s144_19, s144_22, eq_self, bnd_l, bnd_r, Option.toList_some, Option.toList_none, List.cons_append, List.nil_append, Nat.add_zero, Nat.zero_add, ↓reduceIte, nI_add, nI_mul, nI_subI, lt_t, lt_f, eq_f, lt_m1, m1_lt, eq_m1, m1_eq, ht, u2_sA, upd_ltF]
    exact i1
/-- the world with the ranks half laid: the cars under c, and of c what x says -/
noncomputable def lyW (z : Int32) (σ : Nat → Nat → Int32) (N c : Nat) : Nat → Nat → Int32 := sA σ 55 (ltF c (rkF z σ N) (σ 55))
theorem l_lays3 {N c : Nat} {z : Int32} (hz : z = nI 0 ∨ z = nI 1) (hR : RK σ N) (hc : c < 10) (hin : inP z σ c) {Q : Option rR} (hQ : exM X 144 120 [some (.ref 35), some (.int z), some (.int (nI c)), some (.int (nI 10))] [] (WW (lyW z σ N (c + 1)) t) 0 0 = Q) :
    ∀ n j, j + n = 10 → exM X 144 58 [some (.ref 35), some (.int z), some (.int (nI c)), some (.int (nI j))] [] (WW (sA σ 55 (upd (ltF c (rkF z σ N) (σ 55)) c (nI (cnF (fun o => o ≠ c ∧ inP z σ o ∧ ahdR σ N o c) j)))) t) 0 0 = Q := by
  intro n
  induction n with
  | zero =>
    intro j hj
    have e : j = 10 := by omega
    subst e
    simp (disch := omega) only [s144_58, s144_59, s144_61, eq_self, bnd_l, bnd_r, Option.toList_some, Option.toList_none, List.cons_append, List.nil_append, Nat.add_zero, Nat.zero_add, ↓reduceIte, nI_add, nI_mul, nI_subI, lt_t, lt_f, eq_f, lt_m1, m1_lt, eq_m1, m1_eq, upd_ltF' (rkF_t hin).symm]
    exact hQ
  | succ n ih =>
    intro j hj
    rw [s144_58]
    have i1 := ih (j + 1) (by omega)
    have hle := cnF_le (fun o => o ≠ c ∧ inP z σ o ∧ ahdR σ N o c) j
    generalize hg : ltF c (rkF z σ N) (σ 55) = gg at *
    by_cases hjc : j = c
    · subst hjc
      rw [cnF_f (fun q => q.1 rfl)] at i1
      simp (disch := omega) only [s144_59, s144_61, s144_64, s144_65, s144_68, s144_69, s144_70, s144_71, s144_74, s144_75, s144_78, s144_79, s144_80, s144_81, s144_82, s144_83, s144_86, s144_87, s144_90, s144_91, s144_92, s144_95, s144_98, s144_99, s144_100, s144_101, s144_104, s144_107, s144_108, s144_111, s144_112, s144_113, s144_114, s144_117, eq_self, bnd_l, bnd_r, Option.toList_some, Option.toList_none, List.cons_append, List.nil_append, Nat.add_zero, Nat.zero_add, ↓reduceIte, nI_add, nI_mul, nI_subI, lt_t, lt_f, eq_f, lt_m1, m1_lt, eq_m1, m1_eq, sA_eq, upd_eq, u2_sA, upd_upd]
      exact i1
    · have hj10 : j < 10 := by omega
      have ia := r_isAhead (X := X) (σ := sA σ 55 (upd gg c (nI (cnF (fun o => o ≠ c ∧ inP z σ o ∧ ahdR σ N o c) j)))) (t := t) (N := N) hR hj10 hc
      have ir := r_isRanked (X := X) (σ := sA σ 55 (upd gg c (nI (cnF (fun o => o ≠ c ∧ inP z σ o ∧ ahdR σ N o c) j)))) (t := t) hj10
      rcases hz with rfl | rfl
      · by_cases hrk : rkP σ j
        · have ir1 := ir.1 hrk
          by_cases hah : ahdR σ N j c
          · have ia1 := ia.1 hah
            rw [cnF_t ⟨hjc, Or.inr hrk, hah⟩] at i1
            simp (disch := omega) only [s144_59, s144_61, s144_64, s144_65, s144_68, s144_69, s144_70, s144_71, s144_74, s144_75, s144_78, s144_79, s144_80, s144_81, s144_82, s144_83, s144_86, s144_87, s144_90, s144_91, s144_92, s144_95, s144_98, s144_99, s144_100, s144_101, s144_104, s144_107, s144_108, s144_111, s144_112, s144_113, s144_114, s144_117, eq_self, bnd_l, bnd_r, Option.toList_some, Option.toList_none, List.cons_append, List.nil_append, Nat.add_zero, Nat.zero_add, ↓reduceIte, nI_add, nI_mul, nI_subI, lt_t, lt_f, eq_f, lt_m1, m1_lt, eq_m1, m1_eq, sA_eq, upd_eq, u2_sA, upd_upd, ir1, ia1]
            exact i1
          · have ia1 := ia.2 hah
            rw [cnF_f (fun q => hah q.2.2)] at i1
            simp (disch := omega) only [s144_59, s144_61, s144_64, s144_65, s144_68, s144_69, s144_70, s144_71, s144_74, s144_75, s144_78, s144_79, s144_80, s144_81, s144_82, s144_83, s144_86, s144_87, s144_90, s144_91, s144_92, s144_95, s144_98, s144_99, s144_100, s144_101, s144_104, s144_107, s144_108, s144_111, s144_112, s144_113, s144_114, s144_117, eq_self, bnd_l, bnd_r, Option.toList_some, Option.toList_none, List.cons_append, List.nil_append, Nat.add_zero, Nat.zero_add, ↓reduceIte, nI_add, nI_mul, nI_subI, lt_t, lt_f, eq_f, lt_m1, m1_lt, eq_m1, m1_eq, sA_eq, upd_eq, u2_sA, upd_upd, ir1, ia1]
            exact i1
        · have ir1 := ir.2 hrk
          have hni : ¬ inP (nI 0) σ j := fun q => q.elim (fun q => by rw [eq_f (by omega) (by omega) (by omega)] at q; exact q) hrk
          rw [cnF_f (fun q => hni q.2.1)] at i1
          simp (disch := omega) only [s144_59, s144_61, s144_64, s144_65, s144_68, s144_69, s144_70, s144_71, s144_74, s144_75, s144_78, s144_79, s144_80, s144_81, s144_82, s144_83, s144_86, s144_87, s144_90, s144_91, s144_92, s144_95, s144_98, s144_99, s144_100, s144_101, s144_104, s144_107, s144_108, s144_111, s144_112, s144_113, s144_114, s144_117, eq_self, bnd_l, bnd_r, Option.toList_some, Option.toList_none, List.cons_append, List.nil_append, Nat.add_zero, Nat.zero_add, ↓reduceIte, nI_add, nI_mul, nI_subI, lt_t, lt_f, eq_f, lt_m1, m1_lt, eq_m1, m1_eq, sA_eq, upd_eq, u2_sA, upd_upd, ir1]
          exact i1
      · by_cases hah : ahdR σ N j c
        · have ia1 := ia.1 hah
          rw [cnF_t ⟨hjc, Or.inl rfl, hah⟩] at i1
          simp (disch := omega) only [s144_59, s144_61, s144_64, s144_65, s144_68, s144_69, s144_70, s144_71, s144_74, s144_75, s144_78, s144_79, s144_80, s144_81, s144_82, s144_83, s144_86, s144_87, s144_90, s144_91, s144_92, s144_95, s144_98, s144_99, s144_100, s144_101, s144_104, s144_107, s144_108, s144_111, s144_112, s144_113, s144_114, s144_117, eq_self, bnd_l, bnd_r, Option.toList_some, Option.toList_none, List.cons_append, List.nil_append, Nat.add_zero, Nat.zero_add, ↓reduceIte, nI_add, nI_mul, nI_subI, lt_t, lt_f, eq_f, lt_m1, m1_lt, eq_m1, m1_eq, sA_eq, upd_eq, u2_sA, upd_upd, ia1]
          exact i1
        · have ia1 := ia.2 hah
          rw [cnF_f (fun q => hah q.2.2)] at i1
          simp (disch := omega) only [s144_59, s144_61, s144_64, s144_65, s144_68, s144_69, s144_70, s144_71, s144_74, s144_75, s144_78, s144_79, s144_80, s144_81, s144_82, s144_83, s144_86, s144_87, s144_90, s144_91, s144_92, s144_95, s144_98, s144_99, s144_100, s144_101, s144_104, s144_107, s144_108, s144_111, s144_112, s144_113, s144_114, s144_117, eq_self, bnd_l, bnd_r, Option.toList_some, Option.toList_none, List.cons_append, List.nil_append, Nat.add_zero, Nat.zero_add, ↓reduceIte, nI_add, nI_mul, nI_subI, lt_t, lt_f, eq_f, lt_m1, m1_lt, eq_m1, m1_eq, sA_eq, upd_eq, u2_sA, upd_upd, ia1]
          exact i1
theorem l_lays2 {N : Nat} {z : Int32} (hz : z = nI 0 ∨ z = nI 1) (hR : RK σ N) {Q : Option rR} (hQ : ansV (WW (lyW z σ N 10) t) = Q) :
    ∀ n c, c + n = 10 → ∀ o3, exM X 144 27 [some (.ref 35), some (.int z), some (.int (nI c)), o3] [] (WW (lyW z σ N c) t) 0 0 = Q := by
  intro n
  induction n with
  | zero =>
    intro c hc o3
    have e : c = 10 := by omega
    subst e
    simp (disch := omega) only [s144_27, s144_28, s144_30, s144_126, eq_self, bnd_l, bnd_r, Option.toList_some, Option.toList_none, List.cons_append, List.nil_append, Nat.add_zero, Nat.zero_add, ↓reduceIte, nI_add, nI_mul, nI_subI, lt_t, lt_f, eq_f, lt_m1, m1_lt, eq_m1, m1_eq]
    exact hQ
  | succ n ih =>
    intro c hc o3
    rw [s144_27]
    have i1 := ih (c + 1) (by omega)
    have hc10 : c < 10 := by omega
    have ir := r_isRanked (X := X) (σ := lyW z σ N c) (t := t) hc10
    by_cases hin : inP z σ c
    · have hL := l_lays3 (X := X) (t := t) hz hR hc10 hin (Q := Q) (by simp (disch := omega) only [s144_120, s144_123, eq_self, bnd_l, bnd_r, Option.toList_some, Option.toList_none, List.cons_append, List.nil_append, Nat.add_zero, Nat.zero_add, ↓reduceIte, nI_add, nI_mul, nI_subI, lt_t, lt_f, eq_f, lt_m1, m1_lt, eq_m1, m1_eq]; exact i1 _) 10 0 (by omega)
      rw [cnF] at hL
      rcases hz with rfl | rfl
      · have hrk : rkP σ c := hin.elim (fun q => by rw [eq_f (by omega) (by omega) (by omega)] at q; exact q.elim) (fun q => q)
        have ir1 := ir.1 hrk
        unfold lyW at ir1 ⊢
        simp (disch := omega) only [s144_28, s144_30, s144_33, s144_34, s144_37, s144_38, s144_39, s144_42, s144_43, s144_44, s144_47, s144_50, s144_51, s144_54, s144_55, s144_56, s144_57, eq_self, bnd_l, bnd_r, Option.toList_some, Option.toList_none, List.cons_append, List.nil_append, Nat.add_zero, Nat.zero_add, ↓reduceIte, nI_add, nI_mul, nI_subI, lt_t, lt_f, eq_f, lt_m1, m1_lt, eq_m1, m1_eq, ir1, u2_sA]
        exact hL
      · unfold lyW
        simp (disch := omega) only [s144_28, s144_30, s144_33, s144_34, s144_37, s144_38, s144_39, s144_42, s144_43, s144_44, s144_47, s144_50, s144_51, s144_54, s144_55, s144_56, s144_57, eq_self, bnd_l, bnd_r, Option.toList_some, Option.toList_none, List.cons_append, List.nil_append, Nat.add_zero, Nat.zero_add, ↓reduceIte, nI_add, nI_mul, nI_subI, lt_t, lt_f, eq_f, lt_m1, m1_lt, eq_m1, m1_eq, u2_sA]
        exact hL
    · rcases hz with rfl | rfl
      · have hrk : ¬ rkP σ c := fun q => hin (Or.inr q)
        have ir1 := ir.2 hrk
        unfold lyW at ir1 i1 ⊢
        simp (disch := omega) only [s144_28, s144_30, s144_33, s144_34, s144_37, s144_38, s144_39, s144_42, s144_43, s144_44, s144_47, s144_50, s144_51, s144_54, s144_55, s144_56, s144_57, eq_self, bnd_l, bnd_r, Option.toList_some, Option.toList_none, List.cons_append, List.nil_append, Nat.add_zero, Nat.zero_add, ↓reduceIte, nI_add, nI_mul, nI_subI, lt_t, lt_f, eq_f, lt_m1, m1_lt, eq_m1, m1_eq, ir1, u2_sA, upd_ltF' (rkF_f hin).symm]
        rw [s144_58]
        simp (disch := omega) only [s144_59, s144_61, s144_64, s144_65, s144_68, s144_69, s144_70, s144_71, s144_120, s144_123, eq_self, bnd_l, bnd_r, Option.toList_some, Option.toList_none, List.cons_append, List.nil_append, Nat.add_zero, Nat.zero_add, ↓reduceIte, nI_add, nI_mul, nI_subI, lt_t, lt_f, eq_f, lt_m1, m1_lt, eq_m1, m1_eq, sA_eq, ltF_lt, rkF_f hin]
        exact i1 _
      · exact absurd (Or.inl rfl) hin
/-- what laysRanks makes of the world -/
noncomputable def lay1 (σ : Nat → Nat → Int32) (N : Nat) : Nat → Nat → Int32 := sA σ 56 (ltF 10 (ttR σ N) (σ 56))
noncomputable def layR (z : Int32) (σ : Nat → Nat → Int32) (N : Nat) : Nat → Nat → Int32 := lyW z (lay1 σ N) N 10
theorem r_laysRanks {N : Nat} {z : Int32} (hz : z = nI 0 ∨ z = nI 1) (hR : RK σ N) : exC X 144 [.ref 35, .int z] (WW σ t) = ansV (WW (layR z σ N) t) := by
  rw [ent_144]
  have h2 := l_lays2 (X := X) (σ := lay1 σ N) (t := t) (N := N) hz hR rfl 10 0 (by omega) none
  have hL := l_lays1 (X := X) (z := z) (o3 := none) (t := t) hR (Q := ansV (WW (layR z σ N) t)) (by
    simp (disch := omega) only [s144_25, s144_26, eq_self, bnd_l, bnd_r, Option.toList_some, Option.toList_none, List.cons_append, List.nil_append, Nat.add_zero, Nat.zero_add, ↓reduceIte, nI_add, nI_mul, nI_subI, lt_t, lt_f, eq_f, lt_m1, m1_lt, eq_m1, m1_eq]
    unfold lyW at h2
    rw [ltF_0, sA_self] at h2
    exact h2) 10 0 (by omega)
  rw [ltF_0, sA_self] at hL
  simp (disch := omega) only [s144_0, s144_1, eq_self, bnd_l, bnd_r, Option.toList_some, Option.toList_none, List.cons_append, List.nil_append, Nat.add_zero, Nat.zero_add, ↓reduceIte, nI_add, nI_mul, nI_subI, lt_t, lt_f, eq_f, lt_m1, m1_lt, eq_m1, m1_eq]
  exact hL
theorem l_withRank {at9 : Int32} {Q : Option rR} (hQ : ans (plcF (σ 55) at9 10) (WW σ t) = Q) : ∀ n j, j + n = 10 → exM X 145 4 [some (.ref 35), some (.int at9), some (.int (plcF (σ 55) at9 j)), some (.int (nI j))] [] (WW σ t) 0 0 = Q := by
  intro n
  induction n with
  | zero =>
    intro j hj
    have e : j = 10 := by omega
    subst e
    simp (disch := omega) only [s145_0, s145_1, s145_2, s145_3, s145_4, s145_5, s145_7, s145_10, s145_11, s145_14, s145_15, s145_16, s145_17, s145_20, s145_21, s145_24, s145_25, s145_26, s145_29, s145_32, s145_33, eq_self, bnd_l, bnd_r, Option.toList_some, Option.toList_none, List.cons_append, List.nil_append, Nat.add_zero, Nat.zero_add, ↓reduceIte, nI_add, nI_mul, nI_subI, lt_t, lt_f, eq_f, lt_m1, m1_lt, eq_m1, m1_eq]
    exact hQ
  | succ n ih =>
    intro j hj
    rw [s145_4]
    have i1 := ih (j + 1) (by omega)
    by_cases h1 : σ 55 j = at9
    · rw [plcF, if_pos h1] at i1
      simp (disch := omega) only [s145_0, s145_1, s145_2, s145_3, s145_5, s145_7, s145_10, s145_11, s145_14, s145_15, s145_16, s145_17, s145_20, s145_21, s145_24, s145_25, s145_26, s145_29, s145_32, s145_33, eq_self, bnd_l, bnd_r, Option.toList_some, Option.toList_none, List.cons_append, List.nil_append, Nat.add_zero, Nat.zero_add, ↓reduceIte, nI_add, nI_mul, nI_subI, lt_t, lt_f, eq_f, lt_m1, m1_lt, eq_m1, m1_eq, h1]
      exact i1
    · rw [plcF, if_neg h1] at i1
      simp (disch := omega) only [s145_0, s145_1, s145_2, s145_3, s145_5, s145_7, s145_10, s145_11, s145_14, s145_15, s145_16, s145_17, s145_20, s145_21, s145_24, s145_25, s145_26, s145_29, s145_32, s145_33, eq_self, bnd_l, bnd_r, Option.toList_some, Option.toList_none, List.cons_append, List.nil_append, Nat.add_zero, Nat.zero_add, ↓reduceIte, nI_add, nI_mul, nI_subI, lt_t, lt_f, eq_f, lt_m1, m1_lt, eq_m1, m1_eq, h1]
      exact i1
theorem r_withRank {at9 : Int32} : exC X 145 [.ref 35, .int at9] (WW σ t) = ans (plcF (σ 55) at9 10) (WW σ t) := by
  rw [ent_145]
  have hL := l_withRank (X := X) (t := t) rfl (σ := σ) (at9 := at9) 10 0 (by omega)
  rw [plcF] at hL
  simp (disch := omega) only [s145_0, s145_1, s145_2, s145_3, s145_5, s145_7, s145_10, s145_11, s145_14, s145_15, s145_16, s145_17, s145_20, s145_21, s145_24, s145_25, s145_26, s145_29, s145_32, s145_33, eq_self, bnd_l, bnd_r, Option.toList_some, Option.toList_none, List.cons_append, List.nil_append, Nat.add_zero, Nat.zero_add, ↓reduceIte, nI_add, nI_mul, nI_subI, lt_t, lt_f, eq_f, lt_m1, m1_lt, eq_m1, m1_eq]
  exact hL
theorem r_joins {i c n : Nat} (hi : i < 20) (hn : σ 39 i = nI n) (hn9 : n < 10) : exC X 115 [.ref 35, .int (nI i), .int (nI c)] (WW σ t) = ansV (WW (u2 (u2 σ 38 (10 * i + n) (nI c)) 39 i (nI (n + 1))) t) := by
  rw [ent_115]
  simp (disch := omega) only [s115_0, s115_1, s115_4, s115_6, s115_7, s115_8, s115_9, s115_12, s115_13, s115_14, s115_15, s115_16, s115_17, s115_18, s115_21, s115_22, s115_23, s115_24, s115_25, s115_26, s115_27, eq_self, bnd_l, bnd_r, Option.toList_some, Option.toList_none, List.cons_append, List.nil_append, Nat.add_zero, Nat.zero_add, ↓reduceIte, nI_add, nI_mul, nI_subI, lt_t, lt_f, eq_f, lt_m1, m1_lt, eq_m1, m1_eq, hn, u2_ne]
/-- are the legs ahead open -/
def opnF (kd mn : Nat → Int32) : Nat → Prop
  | 0 => True
  | j + 1 => opnF kd mn j ∧ (kd j = nI 0 → ¬ mn j = -1)
theorem l_openAhead {i : Nat} (hi : i < 20) {Q : Option rR} (hQ : (opnF (σ 36) (σ 39) i → ans (nI 1) (WW σ t) = Q) ∧ (¬ opnF (σ 36) (σ 39) i → ans (nI 0) (WW σ t) = Q)) : ∀ n j, j + n = i → ∀ w, (w = nI 1 ∧ opnF (σ 36) (σ 39) j) ∨ (w = nI 0 ∧ ¬ opnF (σ 36) (σ 39) j) → exM X 114 4 [some (.ref 35), some (.int (nI i)), some (.int w), some (.int (nI j))] [] (WW σ t) 0 0 = Q := by
  intro n
  induction n with
  | zero =>
    intro j hj w hw
    have e : j = i := by omega
    subst e
    rcases hw with ⟨rfl, h1⟩ | ⟨rfl, h1⟩
    · simp (disch := omega) only [s114_0, s114_1, s114_2, s114_3, s114_4, s114_5, s114_6, s114_9, s114_10, s114_13, s114_14, s114_17, s114_18, s114_19, s114_22, s114_23, s114_26, s114_27, s114_28, s114_29, s114_32, s114_33, s114_36, s114_37, s114_38, s114_41, s114_44, s114_45z0, s114_45z1, eq_self, bnd_l, bnd_r, Option.toList_some, Option.toList_none, List.cons_append, List.nil_append, Nat.add_zero, Nat.zero_add, ↓reduceIte, nI_add, nI_mul, nI_subI, lt_t, lt_f, eq_f, lt_m1, m1_lt, eq_m1, m1_eq]
      exact hQ.1 h1
    · simp (disch := omega) only [s114_0, s114_1, s114_2, s114_3, s114_4, s114_5, s114_6, s114_9, s114_10, s114_13, s114_14, s114_17, s114_18, s114_19, s114_22, s114_23, s114_26, s114_27, s114_28, s114_29, s114_32, s114_33, s114_36, s114_37, s114_38, s114_41, s114_44, s114_45z0, s114_45z1, eq_self, bnd_l, bnd_r, Option.toList_some, Option.toList_none, List.cons_append, List.nil_append, Nat.add_zero, Nat.zero_add, ↓reduceIte, nI_add, nI_mul, nI_subI, lt_t, lt_f, eq_f, lt_m1, m1_lt, eq_m1, m1_eq]
      exact hQ.2 h1
  | succ n ih =>
    intro j hj w hw
    rw [s114_4]
    have i1 := ih (j + 1) (by omega)
    rcases hw with ⟨rfl, h1⟩ | ⟨rfl, h1⟩
    · by_cases hk : σ 36 j = nI 0
      · by_cases hm : σ 39 j = -1
        · simp (disch := omega) only [s114_0, s114_1, s114_2, s114_3, s114_5, s114_6, s114_9, s114_10, s114_13, s114_14, s114_17, s114_18, s114_19, s114_22, s114_23, s114_26, s114_27, s114_28, s114_29, s114_32, s114_33, s114_36, s114_37, s114_38, s114_41, s114_44, s114_45z0, s114_45z1, eq_self, bnd_l, bnd_r, Option.toList_some, Option.toList_none, List.cons_append, List.nil_append, Nat.add_zero, Nat.zero_add, ↓reduceIte, nI_add, nI_mul, nI_subI, lt_t, lt_f, eq_f, lt_m1, m1_lt, eq_m1, m1_eq, hk, hm]
          exact i1 _ (Or.inr ⟨rfl, fun q => q.2 hk hm⟩)
        · simp (disch := omega) only [s114_0, s114_1, s114_2, s114_3, s114_5, s114_6, s114_9, s114_10, s114_13, s114_14, s114_17, s114_18, s114_19, s114_22, s114_23, s114_26, s114_27, s114_28, s114_29, s114_32, s114_33, s114_36, s114_37, s114_38, s114_41, s114_44, s114_45z0, s114_45z1, eq_self, bnd_l, bnd_r, Option.toList_some, Option.toList_none, List.cons_append, List.nil_append, Nat.add_zero, Nat.zero_add, ↓reduceIte, nI_add, nI_mul, nI_subI, lt_t, lt_f, eq_f, lt_m1, m1_lt, eq_m1, m1_eq, hk, hm]
          exact i1 _ (Or.inl ⟨rfl, h1, fun _ => hm⟩)
      · simp (disch := omega) only [s114_0, s114_1, s114_2, s114_3, s114_5, s114_6, s114_9, s114_10, s114_13, s114_14, s114_17, s114_18, s114_19, s114_22, s114_23, s114_26, s114_27, s114_28, s114_29, s114_32, s114_33, s114_36, s114_37, s114_38, s114_41, s114_44, s114_45z0, s114_45z1, eq_self, bnd_l, bnd_r, Option.toList_some, Option.toList_none, List.cons_append, List.nil_append, Nat.add_zero, Nat.zero_add, ↓reduceIte, nI_add, nI_mul, nI_subI, lt_t, lt_f, eq_f, lt_m1, m1_lt, eq_m1, m1_eq, hk]
        exact i1 _ (Or.inl ⟨rfl, h1, fun q => absurd q hk⟩)
    · simp (disch := omega) only [s114_0, s114_1, s114_2, s114_3, s114_5, s114_6, s114_9, s114_10, s114_13, s114_14, s114_17, s114_18, s114_19, s114_22, s114_23, s114_26, s114_27, s114_28, s114_29, s114_32, s114_33, s114_36, s114_37, s114_38, s114_41, s114_44, s114_45z0, s114_45z1, eq_self, bnd_l, bnd_r, Option.toList_some, Option.toList_none, List.cons_append, List.nil_append, Nat.add_zero, Nat.zero_add, ↓reduceIte, nI_add, nI_mul, nI_subI, lt_t, lt_f, eq_f, lt_m1, m1_lt, eq_m1, m1_eq]
      exact i1 _ (Or.inr ⟨rfl, fun q => h1 q.1⟩)
theorem r_openAhead {i : Nat} (hi : i < 20) : (opnF (σ 36) (σ 39) i → exC X 114 [.ref 35, .int (nI i)] (WW σ t) = ans (nI 1) (WW σ t)) ∧ (¬ opnF (σ 36) (σ 39) i → exC X 114 [.ref 35, .int (nI i)] (WW σ t) = ans (nI 0) (WW σ t)) := by
  rw [ent_114]
  constructor
  · intro hp
    have hL := l_openAhead (X := X) (t := t) hi (Q := ans (nI 1) (WW σ t)) ⟨fun _ => rfl, fun q => absurd hp q⟩ i 0 (by omega) (nI 1) (Or.inl ⟨rfl, trivial⟩)
    simp (disch := omega) only [s114_0, s114_1, s114_2, s114_3, s114_5, s114_6, s114_9, s114_10, s114_13, s114_14, s114_17, s114_18, s114_19, s114_22, s114_23, s114_26, s114_27, s114_28, s114_29, s114_32, s114_33, s114_36, s114_37, s114_38, s114_41, s114_44, s114_45z0, s114_45z1, eq_self, bnd_l, bnd_r, Option.toList_some, Option.toList_none, List.cons_append, List.nil_append, Nat.add_zero, Nat.zero_add, ↓reduceIte, nI_add, nI_mul, nI_subI, lt_t, lt_f, eq_f, lt_m1, m1_lt, eq_m1, m1_eq]
    exact hL
  · intro hp
    have hL := l_openAhead (X := X) (t := t) hi (Q := ans (nI 0) (WW σ t)) ⟨fun q => absurd q hp, fun _ => rfl⟩ i 0 (by omega) (nI 1) (Or.inl ⟨rfl, trivial⟩)
    simp (disch := omega) only [s114_0, s114_1, s114_2, s114_3, s114_5, s114_6, s114_9, s114_10, s114_13, s114_14, s114_17, s114_18, s114_19, s114_22, s114_23, s114_26, s114_27, s114_28, s114_29, s114_32, s114_33, s114_36, s114_37, s114_38, s114_41, s114_44, s114_45z0, s114_45z1, eq_self, bnd_l, bnd_r, Option.toList_some, Option.toList_none, List.cons_append, List.nil_append, Nat.add_zero, Nat.zero_add, ↓reduceIte, nI_add, nI_mul, nI_subI, lt_t, lt_f, eq_f, lt_m1, m1_lt, eq_m1, m1_eq]
    exact hL
end REF4
