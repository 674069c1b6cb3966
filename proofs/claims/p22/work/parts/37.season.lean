/-! THE CLASS: the season -/
theorem ptf_N : ∀ i, i < 10 → ptf i = nI (ptsN i) := by
  intro i hi
  have h : i = 0 ∨ i = 1 ∨ i = 2 ∨ i = 3 ∨ i = 4 ∨ i = 5 ∨ i = 6 ∨ i = 7 ∨ i = 8 ∨ i = 9 := by omega
  rcases h with rfl | rfl | rfl | rfl | rfl | rfl | rfl | rfl | rfl | rfl <;> rfl
section CMP7
variable {X : rX} {h : rH} {σ : Nat → Nat → Int32} {t : rH} {r : Nat}
/-- a car's results in the class -/
def fC (σ : Nat → Nat → Int32) (c : Nat) : Nat → Nat := fun n => cnt (σ 2 (6 * c + n))
/-- the class's season is the reference's -/
def RES (σ : Nat → Nat → Int32) (r : Nat) : Prop := r ≤ 6 ∧ σ 1 1 = nI r ∧ (∀ k, k < r → ∀ c, c < 10 → okP (σ 54 (10 * k + c))) ∧ ∀ c, c < 10 → RS (σ 54) r c (fC σ c) ∧ ∀ n, n < r → σ 2 (6 * c + n) = nI (fC σ c n)
theorem k_isFull (hr : r ≤ 6) (h1 : σ 1 1 = nI r) : (r = 6 → exC X 52 [.ref 1] (WW σ t) = ans (nI 1) (WW σ t)) ∧ (¬ r = 6 → exC X 52 [.ref 1] (WW σ t) = ans (nI 0) (WW σ t)) := by
  rw [ent_52]
  constructor
  · intro h6
    subst h6
    simp (disch := omega) only [s52_0, s52_1, s52_4, s52_6, s52_9, s52_10, s52_13, s52_14z0, s52_14z1, c10, c100, c6, eq_self, bnd_l, bnd_r, Option.toList_some, Option.toList_none, List.cons_append, List.nil_append, Nat.add_zero, Nat.zero_add, ↓reduceIte, nI_add, nI_mul, nI_subI, lt_t, lt_f, eq_f, lt_m1, m1_lt, eq_m1, m1_eq, h1]
  · intro h6
    simp (disch := omega) only [s52_0, s52_1, s52_4, s52_6, s52_9, s52_10, s52_13, s52_14z0, s52_14z1, c10, c100, c6, eq_self, bnd_l, bnd_r, Option.toList_some, Option.toList_none, List.cons_append, List.nil_append, Nat.add_zero, Nat.zero_add, ↓reduceIte, nI_add, nI_mul, nI_subI, lt_t, lt_f, eq_f, lt_m1, m1_lt, eq_m1, m1_eq, h1]
theorem sg_le {f : Nat → Nat} : ∀ n, sg ptsN f n ≤ 25 * n
  | 0 => Nat.le_refl _
  | n + 1 => by
    have := @sg_le f n
    have := ptsN_le (f n)
    rw [sg]
    omega
theorem l_sumOf5 {c q : Nat} (hR : RES σ r) (hc : c < 10) (hq : q ≤ r) {Q : Option rR} (hQ : ans (nI (sg ptsN (fC σ c) q)) (WW σ t) = Q) : ∀ n j, j + n = q → ∀ o5, exM X 55 27 [some (.ref 1), some (.int (nI c)), some (.int (nI q)), some (.int (nI (sg ptsN (fC σ c) j))), some (.int (nI j)), o5] [] (WW σ t) 0 0 = Q := by
  have hr := hR.1
  intro n
  induction n with
  | zero =>
    intro j hj o5
    have e : j = q := by omega
    subst e
    simp (disch := omega) only [s55_27, s55_29, s55_30, s55_80, s55_81, c10, c100, c6, eq_self, bnd_l, bnd_r, Option.toList_some, Option.toList_none, List.cons_append, List.nil_append, Nat.add_zero, Nat.zero_add, ↓reduceIte, nI_add, nI_mul, nI_subI, lt_t, lt_f, eq_f, lt_m1, m1_lt, eq_m1, m1_eq]
    exact hQ
  | succ n ih =>
    intro j hj o5
    rw [s55_27]
    have i1 := ih (j + 1) (by omega)
    have e1 := (hR.2.2.2 c hc).2 j (by omega)
    have e2 := (hR.2.2.2 c hc).1.2.1 j (by omega)
    have hle := @sg_le (fC σ c) j
    have hpl := ptsN_le (fC σ c j)
    rw [sg] at i1
    generalize hv : fC σ c j = v at *
    by_cases h10 : v < 10
    · have ep := ptf_N v h10
      simp (disch := omega) only [s55_29, s55_30, s55_33, s55_34, s55_37, s55_38, s55_40, s55_41, s55_43, s55_44, s55_45, s55_47, s55_48, s55_50, s55_53, s55_55, s55_58, s55_59, s55_62, s55_65, s55_67, s55_68, s55_71, s55_72, s55_73, s55_74, s55_77, c10, c100, c6, eq_self, bnd_l, bnd_r, Option.toList_some, Option.toList_none, List.cons_append, List.nil_append, Nat.add_zero, Nat.zero_add, ↓reduceIte, nI_add, nI_mul, nI_subI, lt_t, lt_f, eq_f, lt_m1, m1_lt, eq_m1, m1_eq, e1, ep]
      exact i1 _
    · have e10 : v = 10 := by omega
      subst e10
      simp (disch := omega) only [s55_29, s55_30, s55_33, s55_34, s55_37, s55_38, s55_40, s55_41, s55_43, s55_44, s55_45, s55_47, s55_48, s55_50, s55_53, s55_55, s55_58, s55_59, s55_62, s55_65, s55_67, s55_68, s55_71, s55_72, s55_73, s55_74, s55_77, c10, c100, c6, eq_self, bnd_l, bnd_r, Option.toList_some, Option.toList_none, List.cons_append, List.nil_append, Nat.add_zero, Nat.zero_add, ↓reduceIte, nI_add, nI_mul, nI_subI, lt_t, lt_f, eq_f, lt_m1, m1_lt, eq_m1, m1_eq, e1]
      rw [show ptsN 10 = 0 from rfl, Nat.add_zero] at i1
      exact i1 _
theorem k_sumOf5 {c : Nat} (hR : RES σ r) (hc : c < 10) : exC X 55 [.ref 1, .int (nI c)] (WW σ t) = ans (nI (sumV (σ 54) r c)) (WW σ t) := by
  have hr := hR.1
  have h1 := hR.2.1
  rw [ent_55, ← RS_sum hR.2.2.1 hc (hR.2.2.2 c hc).1]
  by_cases h3 : r < 3
  · have hL := l_sumOf5 (X := X) (t := t) hR hc (Nat.le_refl r) rfl r 0 (by omega) none
    rw [sg] at hL
    rw [if_pos h3]
    simp (disch := omega) only [s55_0, s55_1, s55_4, s55_5, s55_8, s55_9, s55_12, s55_13, s55_14, s55_17, s55_18, s55_21, s55_22, s55_23, s55_24, s55_25, c10, c100, c6, eq_self, bnd_l, bnd_r, Option.toList_some, Option.toList_none, List.cons_append, List.nil_append, Nat.add_zero, Nat.zero_add, ↓reduceIte, nI_add, nI_mul, nI_subI, lt_t, lt_f, eq_f, lt_m1, m1_lt, eq_m1, m1_eq, h1]
    exact hL
  · have hL := l_sumOf5 (X := X) (t := t) (q := r - 1) hR hc (by omega) rfl (r - 1) 0 (by omega) none
    rw [sg] at hL
    rw [if_neg h3]
    simp (disch := omega) only [s55_0, s55_1, s55_4, s55_5, s55_8, s55_9, s55_12, s55_13, s55_14, s55_17, s55_18, s55_21, s55_22, s55_23, s55_24, s55_25, c10, c100, c6, eq_self, bnd_l, bnd_r, Option.toList_some, Option.toList_none, List.cons_append, List.nil_append, Nat.add_zero, Nat.zero_add, ↓reduceIte, nI_add, nI_mul, nI_subI, lt_t, lt_f, eq_f, lt_m1, m1_lt, eq_m1, m1_eq, h1]
    exact hL
theorem l_isAhead5 {a b : Nat} (hR : RES σ r) (ha : a < 10) (hb : b < 10) (hsum : sumV (σ 54) r a = sumV (σ 54) r b) {o3 o4 : Value} {Q : Option rR} (hQ : (btR (σ 54) r a b → ans (nI 1) (WW σ t) = Q) ∧ (¬ btR (σ 54) r a b → ans (nI 0) (WW σ t) = Q)) : ∀ n j, j + n = r → (∀ m, m < j → fC σ a m = fC σ b m) → ∀ o6 o7, exM X 58 34 [some (.ref 1), some (.int (nI a)), some (.int (nI b)), some o3, some o4, some (.int (nI j)), o6, o7] [] (WW σ t) 0 0 = Q := by
  have hr := hR.1
  have h1 := hR.2.1
  have hP := hR.2.2.1
  obtain ⟨fa, ea⟩ := hR.2.2.2 a ha
  obtain ⟨fb, eb⟩ := hR.2.2.2 b hb
  intro n
  induction n with
  | zero =>
    intro j hj he o6 o7
    have e : j = r := by omega
    subst e
    have hz := RS_eq hP ha hb fa fb hsum he
    by_cases hab : a < b
    · simp (disch := omega) only [s58_34, s58_36, s58_37, s58_40, s58_97, s58_98, s58_99, s58_102, s58_103, s58_106, s58_107z0, s58_107z1, c10, c100, c6, eq_self, bnd_l, bnd_r, Option.toList_some, Option.toList_none, List.cons_append, List.nil_append, Nat.add_zero, Nat.zero_add, ↓reduceIte, nI_add, nI_mul, nI_subI, lt_t, lt_f, eq_f, lt_m1, m1_lt, eq_m1, m1_eq, h1]
      exact hQ.1 (Or.inr ⟨hz, hab⟩)
    · simp (disch := omega) only [s58_34, s58_36, s58_37, s58_40, s58_97, s58_98, s58_99, s58_102, s58_103, s58_106, s58_107z0, s58_107z1, c10, c100, c6, eq_self, bnd_l, bnd_r, Option.toList_some, Option.toList_none, List.cons_append, List.nil_append, Nat.add_zero, Nat.zero_add, ↓reduceIte, nI_add, nI_mul, nI_subI, lt_t, lt_f, eq_f, lt_m1, m1_lt, eq_m1, m1_eq, h1]
      refine hQ.2 (fun q => ?_)
      unfold btR at q
      omega
  | succ n ih =>
    intro j hj he o6 o7
    rw [s58_34]
    have e1 := ea j (by omega)
    have e2 := eb j (by omega)
    have la := fa.2.1 j (by omega)
    have lb := fb.2.1 j (by omega)
    rcases Nat.lt_trichotomy (fC σ a j) (fC σ b j) with hl | hl | hl
    · have hd := RS_dec hP ha hb fa fb hsum (by omega) he hl
      simp (disch := omega) only [s58_36, s58_37, s58_40, s58_43, s58_44, s58_47, s58_48, s58_50, s58_51, s58_53, s58_54, s58_55, s58_57, s58_58, s58_61, s58_62, s58_64, s58_65, s58_67, s58_68, s58_69, s58_71, s58_73, s58_75, s58_78, s58_80, s58_82, s58_85, s58_86, s58_89, s58_90z0, s58_90z1, s58_91, s58_94, c10, c100, c6, eq_self, bnd_l, bnd_r, Option.toList_some, Option.toList_none, List.cons_append, List.nil_append, Nat.add_zero, Nat.zero_add, ↓reduceIte, nI_add, nI_mul, nI_subI, lt_t, lt_f, eq_f, lt_m1, m1_lt, eq_m1, m1_eq, h1, e1, e2]
      exact hQ.1 (Or.inl hd)
    · have i1 := ih (j + 1) (by omega) (fun m hm => by
        by_cases e : m = j
        · subst e; exact hl
        · exact he m (by omega))
      rw [hl] at e1
      simp (disch := omega) only [s58_36, s58_37, s58_40, s58_43, s58_44, s58_47, s58_48, s58_50, s58_51, s58_53, s58_54, s58_55, s58_57, s58_58, s58_61, s58_62, s58_64, s58_65, s58_67, s58_68, s58_69, s58_71, s58_73, s58_75, s58_78, s58_80, s58_82, s58_85, s58_86, s58_89, s58_90z0, s58_90z1, s58_91, s58_94, c10, c100, c6, eq_self, bnd_l, bnd_r, Option.toList_some, Option.toList_none, List.cons_append, List.nil_append, Nat.add_zero, Nat.zero_add, ↓reduceIte, nI_add, nI_mul, nI_subI, lt_t, lt_f, eq_f, lt_m1, m1_lt, eq_m1, m1_eq, h1, e1, e2]
      exact i1 _ _
    · have hd := RS_dec hP hb ha fb fa hsum.symm (by omega) (fun m hm => (he m hm).symm) hl
      rw [prF_swap] at hd
      dsimp only at hd
      simp (disch := omega) only [s58_36, s58_37, s58_40, s58_43, s58_44, s58_47, s58_48, s58_50, s58_51, s58_53, s58_54, s58_55, s58_57, s58_58, s58_61, s58_62, s58_64, s58_65, s58_67, s58_68, s58_69, s58_71, s58_73, s58_75, s58_78, s58_80, s58_82, s58_85, s58_86, s58_89, s58_90z0, s58_90z1, s58_91, s58_94, c10, c100, c6, eq_self, bnd_l, bnd_r, Option.toList_some, Option.toList_none, List.cons_append, List.nil_append, Nat.add_zero, Nat.zero_add, ↓reduceIte, nI_add, nI_mul, nI_subI, lt_t, lt_f, eq_f, lt_m1, m1_lt, eq_m1, m1_eq, h1, e1, e2]
      refine hQ.2 (fun q => ?_)
      unfold btR at q
      omega
theorem k_isAhead5 {a b : Nat} (hR : RES σ r) (ha : a < 10) (hb : b < 10) : (btR (σ 54) r a b → exC X 58 [.ref 1, .int (nI a), .int (nI b)] (WW σ t) = ans (nI 1) (WW σ t)) ∧ (¬ btR (σ 54) r a b → exC X 58 [.ref 1, .int (nI a), .int (nI b)] (WW σ t) = ans (nI 0) (WW σ t)) := by
  have i1 := k_sumOf5 (X := X) (t := t) hR ha
  have i2 := k_sumOf5 (X := X) (t := t) hR hb
  have hla := sumV_le (σ 54) (c := a) hR.1
  have hlb := sumV_le (σ 54) (c := b) hR.1
  rw [ent_58]
  have hdec : ¬ sumV (σ 54) r a = sumV (σ 54) r b → prF (σ 54) r a b 10 = (sumV (σ 54) r b, sumV (σ 54) r a) := fun q => by
    have := prF_stay (pl := σ 54) (r := r) (a := a) (b := b) (j := 0) (fun z => q z.symm) 10
    rw [Nat.zero_add] at this
    exact this
  by_cases hs : sumV (σ 54) r a = sumV (σ 54) r b
  · have hL := fun (Q : Option rR) hQ => l_isAhead5 (X := X) (t := t) (o3 := .int (nI (sumV (σ 54) r b))) (o4 := .int (nI (sumV (σ 54) r b))) hR ha hb hs (Q := Q) hQ r 0 (by omega) (fun m hm => by omega) none none
    rw [hs] at i1
    constructor
    · intro hp
      simp (disch := omega) only [s58_0, s58_1, s58_2, s58_5, s58_6, s58_7, s58_8, s58_11, s58_13, s58_14, s58_16, s58_19, s58_20, s58_22, s58_25, s58_26, s58_29, s58_30z0, s58_30z1, s58_31, s58_32, c10, c100, c6, eq_self, bnd_l, bnd_r, Option.toList_some, Option.toList_none, List.cons_append, List.nil_append, Nat.add_zero, Nat.zero_add, ↓reduceIte, nI_add, nI_mul, nI_subI, lt_t, lt_f, eq_f, lt_m1, m1_lt, eq_m1, m1_eq, i1, i2]
      exact hL _ ⟨fun _ => rfl, fun q => absurd hp q⟩
    · intro hp
      simp (disch := omega) only [s58_0, s58_1, s58_2, s58_5, s58_6, s58_7, s58_8, s58_11, s58_13, s58_14, s58_16, s58_19, s58_20, s58_22, s58_25, s58_26, s58_29, s58_30z0, s58_30z1, s58_31, s58_32, c10, c100, c6, eq_self, bnd_l, bnd_r, Option.toList_some, Option.toList_none, List.cons_append, List.nil_append, Nat.add_zero, Nat.zero_add, ↓reduceIte, nI_add, nI_mul, nI_subI, lt_t, lt_f, eq_f, lt_m1, m1_lt, eq_m1, m1_eq, i1, i2]
      exact hL _ ⟨fun q => absurd q hp, fun _ => rfl⟩
  · have hd := hdec hs
    unfold btR
    rw [hd]
    by_cases hlt : sumV (σ 54) r b < sumV (σ 54) r a
    · constructor
      · intro hp
        simp (disch := omega) only [s58_0, s58_1, s58_2, s58_5, s58_6, s58_7, s58_8, s58_11, s58_13, s58_14, s58_16, s58_19, s58_20, s58_22, s58_25, s58_26, s58_29, s58_30z0, s58_30z1, s58_31, s58_32, c10, c100, c6, eq_self, bnd_l, bnd_r, Option.toList_some, Option.toList_none, List.cons_append, List.nil_append, Nat.add_zero, Nat.zero_add, ↓reduceIte, nI_add, nI_mul, nI_subI, lt_t, lt_f, eq_f, lt_m1, m1_lt, eq_m1, m1_eq, i1, i2]
      · intro hp
        exact absurd (Or.inl hlt) hp
    · constructor
      · intro hp
        dsimp only at hp
        omega
      · intro hp
        simp (disch := omega) only [s58_0, s58_1, s58_2, s58_5, s58_6, s58_7, s58_8, s58_11, s58_13, s58_14, s58_16, s58_19, s58_20, s58_22, s58_25, s58_26, s58_29, s58_30z0, s58_30z1, s58_31, s58_32, c10, c100, c6, eq_self, bnd_l, bnd_r, Option.toList_some, Option.toList_none, List.cons_append, List.nil_append, Nat.add_zero, Nat.zero_add, ↓reduceIte, nI_add, nI_mul, nI_subI, lt_t, lt_f, eq_f, lt_m1, m1_lt, eq_m1, m1_eq, i1, i2]
theorem l_countAhead {c : Nat} (hR : RES σ r) (hc : c < 10) {Q : Option rR} (hQ : ans (nI (tbN (σ 54) r c)) (WW σ t) = Q) : ∀ n j, j + n = 10 → exM X 57 4 [some (.ref 1), some (.int (nI c)), some (.int (nI (cnF (fun o => o ≠ c ∧ btR (σ 54) r o c) j))), some (.int (nI j))] [] (WW σ t) 0 0 = Q := by
  intro n
  induction n with
  | zero =>
    intro j hj
    have e : j = 10 := by omega
    subst e
    simp (disch := omega) only [s57_4, s57_5, s57_7, s57_28, s57_29, c10, c100, c6, eq_self, bnd_l, bnd_r, Option.toList_some, Option.toList_none, List.cons_append, List.nil_append, Nat.add_zero, Nat.zero_add, ↓reduceIte, nI_add, nI_mul, nI_subI, lt_t, lt_f, eq_f, lt_m1, m1_lt, eq_m1, m1_eq]
    exact hQ
  | succ n ih =>
    intro j hj
    rw [s57_4]
    have i1 := ih (j + 1) (by omega)
    have ia := k_isAhead5 (X := X) (t := t) (a := j) (b := c) hR (by omega) hc
    have hle := cnF_le (fun o => o ≠ c ∧ btR (σ 54) r o c) j
    by_cases hb : btR (σ 54) r j c
    · have i2 := ia.1 hb
      rw [cnF_t ⟨fun q => btR_irr (by rw [q] at hb; exact hb), hb⟩] at i1
      simp (disch := omega) only [s57_5, s57_7, s57_10, s57_11, s57_12, s57_13, s57_16, s57_19, s57_22, s57_25, c10, c100, c6, eq_self, bnd_l, bnd_r, Option.toList_some, Option.toList_none, List.cons_append, List.nil_append, Nat.add_zero, Nat.zero_add, ↓reduceIte, nI_add, nI_mul, nI_subI, lt_t, lt_f, eq_f, lt_m1, m1_lt, eq_m1, m1_eq, i2]
      exact i1
    · have i2 := ia.2 hb
      rw [cnF_f (fun q => hb q.2)] at i1
      simp (disch := omega) only [s57_5, s57_7, s57_10, s57_11, s57_12, s57_13, s57_16, s57_19, s57_22, s57_25, c10, c100, c6, eq_self, bnd_l, bnd_r, Option.toList_some, Option.toList_none, List.cons_append, List.nil_append, Nat.add_zero, Nat.zero_add, ↓reduceIte, nI_add, nI_mul, nI_subI, lt_t, lt_f, eq_f, lt_m1, m1_lt, eq_m1, m1_eq, i2]
      exact i1
theorem k_countAhead {c : Nat} (hR : RES σ r) (hc : c < 10) : exC X 57 [.ref 1, .int (nI c)] (WW σ t) = ans (nI (tbN (σ 54) r c)) (WW σ t) := by
  rw [ent_57]
  have hL := l_countAhead (X := X) (t := t) hR hc rfl 10 0 (by omega)
  rw [cnF] at hL
  simp (disch := omega) only [s57_0, s57_1, s57_2, s57_3, c10, c100, c6, eq_self, bnd_l, bnd_r, Option.toList_some, Option.toList_none, List.cons_append, List.nil_append, Nat.add_zero, Nat.zero_add, ↓reduceIte, nI_add, nI_mul, nI_subI, lt_t, lt_f, eq_f, lt_m1, m1_lt, eq_m1, m1_eq]
  exact hL
theorem tbN_uni {p : Nat} (hp : p < 2 ^ 31) : ∀ a b, a < 10 → b < 10 → nI (tbN (σ 54) r a) = nI p → nI (tbN (σ 54) r b) = nI p → a = b :=
  plc_uni (rk := fun c => nI (tbN (σ 54) r c)) (btR_ord (σ 54) r) (fun c _ => tbN_plV) hp
theorem l_carAt5 {p : Nat} (hR : RES σ r) (hp : p < 10) {Q : Option rR} (hQ : ans (plcF (fun c => nI (tbN (σ 54) r c)) (nI p) 10) (WW σ t) = Q) : ∀ n j, j + n = 10 → (∀ k, k < j → ¬ nI (tbN (σ 54) r k) = nI p) → exM X 56 2 [some (.ref 1), some (.int (nI p)), some (.int (nI j))] [] (WW σ t) 0 0 = Q := by
  intro n
  induction n with
  | zero =>
    intro j hj hf
    have e : j = 10 := by omega
    subst e
    rw [plcF_none _ hf] at hQ
    simp (disch := omega) only [s56_2, s56_3, s56_5, s56_8, s56_9, s56_10, s56_13, s56_14, s56_17, s56_18, s56_19, s56_22, s56_25, s56_26, c10, c100, c6, eq_self, bnd_l, bnd_r, Option.toList_some, Option.toList_none, List.cons_append, List.nil_append, Nat.add_zero, Nat.zero_add, ↓reduceIte, nI_add, nI_mul, nI_subI, lt_t, lt_f, eq_f, lt_m1, m1_lt, eq_m1, m1_eq]
    exact hQ
  | succ n ih =>
    intro j hj hf
    rw [s56_2]
    have ic := k_countAhead (X := X) (t := t) (c := j) hR (by omega)
    by_cases hk : nI (tbN (σ 54) r j) = nI p
    · rw [plcF_at (o := fun c => nI (tbN (σ 54) r c)) hk 10 (by omega) (fun k hk1 hk2 => tbN_uni (by omega) k j hk1 (by omega) hk2 hk)] at hQ
      rw [hk] at ic
      simp (disch := omega) only [s56_3, s56_5, s56_8, s56_9, s56_10, s56_13, s56_14, s56_17, s56_18, s56_19, s56_22, s56_25, s56_26, c10, c100, c6, eq_self, bnd_l, bnd_r, Option.toList_some, Option.toList_none, List.cons_append, List.nil_append, Nat.add_zero, Nat.zero_add, ↓reduceIte, nI_add, nI_mul, nI_subI, lt_t, lt_f, eq_f, lt_m1, m1_lt, eq_m1, m1_eq, ic]
      exact hQ
    · have i1 := ih (j + 1) (by omega) (fun k h1 => by
        by_cases e : k = j
        · subst e; exact hk
        · exact hf k (by omega))
      generalize nI (tbN (σ 54) r j) = y at *
      simp (disch := omega) only [s56_3, s56_5, s56_8, s56_9, s56_10, s56_13, s56_14, s56_17, s56_18, s56_19, s56_22, s56_25, s56_26, c10, c100, c6, eq_self, bnd_l, bnd_r, Option.toList_some, Option.toList_none, List.cons_append, List.nil_append, Nat.add_zero, Nat.zero_add, ↓reduceIte, nI_add, nI_mul, nI_subI, lt_t, lt_f, eq_f, lt_m1, m1_lt, eq_m1, m1_eq, ic, hk]
      exact i1
theorem k_carAt5 {p : Nat} (hR : RES σ r) (hp : p < 10) : exC X 56 [.ref 1, .int (nI p)] (WW σ t) = ans (plcF (fun c => nI (tbN (σ 54) r c)) (nI p) 10) (WW σ t) := by
  rw [ent_56]
  have hL := l_carAt5 (X := X) (t := t) hR hp rfl 10 0 (by omega) (fun k h => by omega)
  simp (disch := omega) only [s56_0, s56_1, c10, c100, c6, eq_self, bnd_l, bnd_r, Option.toList_some, Option.toList_none, List.cons_append, List.nil_append, Nat.add_zero, Nat.zero_add, ↓reduceIte, nI_add, nI_mul, nI_subI, lt_t, lt_f, eq_f, lt_m1, m1_lt, eq_m1, m1_eq]
  exact hL
/-- a row with the results from q on moved one on -/
def shF (f : Nat → Int32) (c r q : Nat) : Nat → Int32 := fun j => if 6 * c + q < j ∧ j ≤ 6 * c + r then f (j - 1) else f j
theorem shF_r {f : Nat → Int32} {c r : Nat} : shF f c r r = f := by
  funext j
  unfold shF
  rw [if_neg (by omega)]
theorem shF_s {f : Nat → Int32} {c r q : Nat} (hq : q + 1 ≤ r) : upd (shF f c r (q + 1)) (6 * c + (q + 1)) (shF f c r (q + 1) (6 * c + q)) = shF f c r q := by
  funext j
  unfold upd shF
  by_cases h : j = 6 * c + (q + 1)
  · subst h
    rw [if_pos rfl, if_neg (by omega), if_pos ⟨by omega, by omega⟩]
    rfl
  · rw [if_neg h]
    by_cases h2 : 6 * c + (q + 1) < j ∧ j ≤ 6 * c + r
    · rw [if_pos h2, if_pos ⟨by omega, h2.2⟩]
    · rw [if_neg h2, if_neg (by omega)]
/-- a place noted in the row -/
def ntF (f : Nat → Int32) (c r v : Nat) : Nat → Int32 := upd (shF f c r (qF v (fun n => cnt (f (6 * c + n))) r)) (6 * c + qF v (fun n => cnt (f (6 * c + n))) r) (nI v)
theorem l_note {c v : Nat} {o2 : Value} (hc : c < 10) (hr : r < 6) (hv : v ≤ 10) (hf : ∀ n, n < r → σ 2 (6 * c + n) = nI (fC σ c n) ∧ fC σ c n ≤ 10) {Q : Option rR} (hQ : ansV (WW (sA σ 2 (ntF (σ 2) c r v)) t) = Q) : ∀ q, q ≤ r → qF v (fC σ c) q = qF v (fC σ c) r → exM X 53 34 [some (.ref 1), some (.int (nI c)), some o2, some (.int (nI (6 * c))), some (.int (nI v)), some (.int (nI (6 * c + q)))] [] (WW (sA σ 2 (shF (σ 2) c r q)) t) 0 0 = Q := by
  have hfc : (fun n => cnt (σ 2 (6 * c + n))) = fC σ c := rfl
  unfold ntF at hQ
  rw [hfc] at hQ
  intro q
  induction q with
  | zero =>
    intro hq he
    rw [← he] at hQ
    unfold qF at hQ
    rw [Nat.add_zero] at hQ
    rw [Nat.add_zero]
    simp (disch := omega) only [s53_34, s53_36, s53_37, s53_40, s53_41, s53_44, s53_46, s53_47, s53_48, s53_49, s53_51, s53_54, s53_55, s53_58, s53_60, s53_61, s53_64, s53_66, s53_67, s53_68, s53_69, s53_70, s53_73, s53_76, s53_77, s53_80, s53_82, s53_84, s53_85, c10, c100, c6, eq_self, bnd_l, bnd_r, Option.toList_some, Option.toList_none, List.cons_append, List.nil_append, Nat.add_zero, Nat.zero_add, ↓reduceIte, nI_add, nI_mul, nI_subI, lt_t, lt_f, eq_f, lt_m1, m1_lt, eq_m1, m1_eq, u2_sA]
    exact hQ
  | succ q ih =>
    intro hq he
    rw [s53_34]
    obtain ⟨e1, e2⟩ := hf q (by omega)
    have e3 : shF (σ 2) c r (q + 1) (6 * c + q) = nI (fC σ c q) := by
      unfold shF
      rw [if_neg (by omega), e1]
    have e4 : 6 * c + (q + 1) - 1 = 6 * c + q := by omega
    have e5 : nI (6 * c + (q + 1)) + (-1) = nI (6 * c + q) := by rw [nI_decI (by omega), e4]
    by_cases hl : v < fC σ c q
    · rw [qF, if_pos hl] at he
      have i1 := ih (by omega) he
      have hs := shF_s (f := σ 2) (c := c) (r := r) (q := q) (by omega)
      rw [e3] at hs
      simp (disch := omega) only [s53_36, s53_37, s53_40, s53_41, s53_44, s53_46, s53_47, s53_48, s53_49, s53_51, s53_54, s53_55, s53_58, s53_60, s53_61, s53_64, s53_66, s53_67, s53_68, s53_69, s53_70, s53_73, c10, c100, c6, eq_self, bnd_l, bnd_r, Option.toList_some, Option.toList_none, List.cons_append, List.nil_append, Nat.add_zero, Nat.zero_add, ↓reduceIte, nI_add, nI_mul, nI_subI, lt_t, lt_f, eq_f, lt_m1, m1_lt, eq_m1, m1_eq, sA_eq, e4, e3, u2_sA, hs, e5]
      exact i1
    · rw [qF, if_neg hl] at he
      rw [← he] at hQ
      simp (disch := omega) only [s53_36, s53_37, s53_40, s53_41, s53_44, s53_46, s53_47, s53_48, s53_49, s53_51, s53_54, s53_55, s53_58, s53_60, s53_61, s53_64, s53_66, s53_67, s53_68, s53_69, s53_70, s53_73, c10, c100, c6, eq_self, bnd_l, bnd_r, Option.toList_some, Option.toList_none, List.cons_append, List.nil_append, Nat.add_zero, Nat.zero_add, ↓reduceIte, nI_add, nI_mul, nI_subI, lt_t, lt_f, eq_f, lt_m1, m1_lt, eq_m1, m1_eq, sA_eq, e4, e3]
      simp (disch := omega) only [s53_76, s53_77, s53_80, s53_82, s53_84, s53_85, c10, c100, c6, eq_self, bnd_l, bnd_r, Option.toList_some, Option.toList_none, List.cons_append, List.nil_append, Nat.add_zero, Nat.zero_add, ↓reduceIte, nI_add, nI_mul, nI_subI, lt_t, lt_f, eq_f, lt_m1, m1_lt, eq_m1, m1_eq, u2_sA]
      exact hQ
theorem k_note {c : Nat} {x : Int32} (hc : c < 10) (hr : r < 6) (h1 : σ 1 1 = nI r) (hx : okP x) (hf : ∀ n, n < r → σ 2 (6 * c + n) = nI (fC σ c n) ∧ fC σ c n ≤ 10) : exC X 53 [.ref 1, .int (nI c), .int x] (WW σ t) = ansV (WW (sA σ 2 (ntF (σ 2) c r (vl x))) t) := by
  have i0 := (k_isFull (X := X) (t := t) (by omega) h1).2 (by omega)
  have hL := l_note (X := X) (σ := σ) (t := t) (o2 := .int x) hc hr (vl_le hx) hf rfl r (Nat.le_refl r) rfl
  rw [shF_r, sA_self] at hL
  rw [ent_53]
  unfold vl at hL ⊢
  rcases hx with rfl | ⟨p, hp, rfl⟩
  · rw [if_pos rfl] at hL ⊢
    simp (disch := omega) only [s53_0, s53_1, s53_4, s53_7, s53_8, s53_9, s53_11, s53_12, s53_13, s53_14, s53_15, s53_18, s53_20, s53_23, s53_24, s53_26, s53_27, s53_28, s53_31, s53_32, c10, c100, c6, eq_self, bnd_l, bnd_r, Option.toList_some, Option.toList_none, List.cons_append, List.nil_append, Nat.add_zero, Nat.zero_add, ↓reduceIte, nI_add, nI_mul, nI_subI, lt_t, lt_f, eq_f, lt_m1, m1_lt, eq_m1, m1_eq, i0, h1]
    exact hL
  · rw [if_neg (by rw [eq_m1 (by omega)]; exact id), cnt_nI (by omega)] at hL ⊢
    simp (disch := omega) only [s53_0, s53_1, s53_4, s53_7, s53_8, s53_9, s53_11, s53_12, s53_13, s53_14, s53_15, s53_18, s53_20, s53_23, s53_24, s53_26, s53_27, s53_28, s53_31, s53_32, c10, c100, c6, eq_self, bnd_l, bnd_r, Option.toList_some, Option.toList_none, List.cons_append, List.nil_append, Nat.add_zero, Nat.zero_add, ↓reduceIte, nI_add, nI_mul, nI_subI, lt_t, lt_f, eq_f, lt_m1, m1_lt, eq_m1, m1_eq, i0, h1]
    exact hL
end CMP7
