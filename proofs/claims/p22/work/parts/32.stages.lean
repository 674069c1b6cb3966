/-! THE CLASS: times -/
theorem m2n : ((-1 : Int32) - nI 1 < nI 0) = True := eq_true (by decide +kernel)
theorem z1n : nI 0 - nI 1 = -1 := by decide +kernel
section CMP4
variable {X : rX} {h : rH} {σ : Nat → Nat → Int32} {t : rH} {N : Nat}
theorem k_free {c i : Nat} (hi : i < 20) (hc : c < 10) : exC X 72 [.ref 17, .int (nI c), .int (nI i)] (WW σ t) = ans (if σ 21 (10 * i + c) = nI 0 then σ 22 (10 * i + c) else -1) (WW σ t) := by
  rw [ent_72]
  by_cases h1 : σ 21 (10 * i + c) = nI 0
  · simp (disch := omega) only [s72_0, s72_1, s72_2, s72_5, s72_6, s72_9, s72_10, s72_12, s72_13, s72_14, s72_15, s72_16, s72_19, s72_20, s72_21, s72_22, s72_25, s72_26, s72_28, s72_29, s72_30, s72_31, s72_32, c10, c100, c6, eq_self, bnd_l, bnd_r, Option.toList_some, Option.toList_none, List.cons_append, List.nil_append, Nat.add_zero, Nat.zero_add, ↓reduceIte, nI_add, nI_mul, nI_subI, lt_t, lt_f, eq_f, lt_m1, m1_lt, eq_m1, m1_eq, h1]
  · simp (disch := omega) only [s72_0, s72_1, s72_2, s72_5, s72_6, s72_9, s72_10, s72_12, s72_13, s72_14, s72_15, s72_16, s72_19, s72_20, s72_21, s72_22, s72_25, s72_26, s72_28, s72_29, s72_30, s72_31, s72_32, c10, c100, c6, eq_self, bnd_l, bnd_r, Option.toList_some, Option.toList_none, List.cons_append, List.nil_append, Nat.add_zero, Nat.zero_add, ↓reduceIte, nI_add, nI_mul, nI_subI, lt_t, lt_f, eq_f, lt_m1, m1_lt, eq_m1, m1_eq, h1]
theorem k_freeNo {i : Int32} : exC X 72 [.ref 17, .int (-1), .int i] (WW σ t) = ans (-1) (WW σ t) := by
  rw [ent_72]
  simp (disch := omega) only [s72_0, s72_1, s72_2, s72_5, s72_6, s72_9, s72_10, s72_12, s72_13, s72_14, s72_15, s72_16, s72_19, s72_20, s72_21, s72_22, s72_25, s72_26, s72_28, s72_29, s72_30, s72_31, s72_32, c10, c100, c6, eq_self, bnd_l, bnd_r, Option.toList_some, Option.toList_none, List.cons_append, List.nil_append, Nat.add_zero, Nat.zero_add, ↓reduceIte, nI_add, nI_mul, nI_subI, lt_t, lt_f, eq_f, lt_m1, m1_lt, eq_m1, m1_eq]
abbrev frC (σ : Nat → Nat → Int32) (i g : Nat) : Nat → Int32 := freF (σ 11) (σ 18) (σ 19) (σ 21) (σ 38) i g
/-- the own times are reckoned -/
def OW (σ : Nat → Nat → Int32) (i : Nat) : Prop := ∀ c, c < 10 → σ 22 (10 * i + c) = ownC σ i c
theorem k_freeAt {i g p : Nat} (hB : IB σ) (hW : OW σ i) (hi : i < 20) (hg : g < 20) (hp : p < cnt (σ 39 g)) : exC X 72 [.ref 17, .int (nI (carF (σ 38) g p)), .int (nI i)] (WW σ t) = ans (frC σ i g p) (WW σ t) := by
  have hc := ((hB.1 g hg).2 p hp).2
  rw [k_free hi hc, hW _ hc]
  rfl
theorem l_nD {i g : Nat} {v1 v4 : Value} {o7 : Option Value} (hB : IB σ) (hW : OW σ i) (hi : i < 20) (hg : g < 20) {Q : Option rR} : ∀ k, k < cnt (σ 39 g) → (∀ o6, exM X 71 63 [some (.ref 17), some v1, some (.int (nI i)), some (.int (nI g)), some v4, some (.int (nxdF (frC σ i g) (k + 1))), o6, o7] [] (WW σ t) 0 0 = Q) → exM X 71 29 [some (.ref 17), some v1, some (.int (nI i)), some (.int (nI g)), some v4, some (.int (-1)), some (.int (nI k)), o7] [] (WW σ t) 0 0 = Q := by
  have hle := okM_le (hB.1 g hg).1
  intro k
  induction k with
  | zero =>
    intro hk hQ
    have ic := (k_carAt (X := X) (t := t) hB hg (by omega : 0 < 10)).1 hk
    have ifr := k_freeAt (X := X) (t := t) hB hW hi hg hk
    rw [s71_29]
    rw [nxdF, nxdF] at hQ
    by_cases hv : frC σ i g 0 = -1
    · rw [if_pos hv] at hQ
      simp (disch := omega) only [s71_31, s71_34, s71_36, s71_37, s71_40, s71_41, s71_42, s71_45, s71_46, s71_48, s71_51, s71_52, s71_55, s71_57, s71_60, c10, c100, c6, eq_self, bnd_l, bnd_r, Option.toList_some, Option.toList_none, List.cons_append, List.nil_append, Nat.add_zero, Nat.zero_add, ↓reduceIte, nI_add, nI_mul, nI_subI, lt_t, lt_f, eq_f, lt_m1, m1_lt, eq_m1, m1_eq, ic, ifr, hv, nz1]
      rw [s71_29]
      simp (disch := omega) only [s71_31, s71_34, s71_36, s71_37, s71_40, s71_41, s71_42, s71_45, s71_46, s71_48, s71_51, s71_52, s71_55, s71_57, s71_60, c10, c100, c6, eq_self, bnd_l, bnd_r, Option.toList_some, Option.toList_none, List.cons_append, List.nil_append, Nat.add_zero, Nat.zero_add, ↓reduceIte, nI_add, nI_mul, nI_subI, lt_t, lt_f, eq_f, lt_m1, m1_lt, eq_m1, m1_eq]
      exact hQ _
    · rw [if_neg hv] at hQ
      simp (disch := omega) only [s71_31, s71_34, s71_36, s71_37, s71_40, s71_41, s71_42, s71_45, s71_46, s71_48, s71_51, s71_52, s71_55, s71_57, s71_60, c10, c100, c6, eq_self, bnd_l, bnd_r, Option.toList_some, Option.toList_none, List.cons_append, List.nil_append, Nat.add_zero, Nat.zero_add, ↓reduceIte, nI_add, nI_mul, nI_subI, lt_t, lt_f, eq_f, lt_m1, m1_lt, eq_m1, m1_eq, ic, ifr, nz1]
      rw [s71_29]
      simp (disch := omega) only [s71_31, s71_34, s71_36, s71_37, s71_40, s71_41, s71_42, s71_45, s71_46, s71_48, s71_51, s71_52, s71_55, s71_57, s71_60, c10, c100, c6, eq_self, bnd_l, bnd_r, Option.toList_some, Option.toList_none, List.cons_append, List.nil_append, Nat.add_zero, Nat.zero_add, ↓reduceIte, nI_add, nI_mul, nI_subI, lt_t, lt_f, eq_f, lt_m1, m1_lt, eq_m1, m1_eq]
      exact hQ _
  | succ k ih =>
    intro hk hQ
    have ic := (k_carAt (X := X) (t := t) hB hg (by omega : k + 1 < 10)).1 hk
    have ifr := k_freeAt (X := X) (t := t) hB hW hi hg hk
    rw [s71_29]
    rw [nxdF] at hQ
    by_cases hv : frC σ i g (k + 1) = -1
    · rw [if_pos hv] at hQ
      have i1 := ih (by omega) hQ
      simp (disch := omega) only [s71_31, s71_34, s71_36, s71_37, s71_40, s71_41, s71_42, s71_45, s71_46, s71_48, s71_51, s71_52, s71_55, s71_57, s71_60, c10, c100, c6, eq_self, bnd_l, bnd_r, Option.toList_some, Option.toList_none, List.cons_append, List.nil_append, Nat.add_zero, Nat.zero_add, ↓reduceIte, nI_add, nI_mul, nI_subI, lt_t, lt_f, eq_f, lt_m1, m1_lt, eq_m1, m1_eq, ic, ifr, hv, nI_decI, Nat.add_sub_cancel]
      exact i1
    · rw [if_neg hv] at hQ
      simp (disch := omega) only [s71_31, s71_34, s71_36, s71_37, s71_40, s71_41, s71_42, s71_45, s71_46, s71_48, s71_51, s71_52, s71_55, s71_57, s71_60, c10, c100, c6, eq_self, bnd_l, bnd_r, Option.toList_some, Option.toList_none, List.cons_append, List.nil_append, Nat.add_zero, Nat.zero_add, ↓reduceIte, nI_add, nI_mul, nI_subI, lt_t, lt_f, eq_f, lt_m1, m1_lt, eq_m1, m1_eq, ic, ifr, nI_decI, Nat.add_sub_cancel]
      rw [s71_29]
      simp (disch := omega) only [s71_31, s71_34, s71_36, s71_37, s71_40, s71_41, s71_42, s71_45, s71_46, s71_48, s71_51, s71_52, s71_55, s71_57, s71_60, c10, c100, c6, eq_self, bnd_l, bnd_r, Option.toList_some, Option.toList_none, List.cons_append, List.nil_append, Nat.add_zero, Nat.zero_add, ↓reduceIte, nI_add, nI_mul, nI_subI, lt_t, lt_f, eq_f, lt_m1, m1_lt, eq_m1, m1_eq, hv]
      exact hQ _
theorem l_nU2 {i g : Nat} {v1 v4 v5 : Value} (hB : IB σ) (hi : i < 20) (hg : g < 20) {Q : Option rR} (hQ : ∀ o7, exM X 71 108 [some (.ref 17), some v1, some (.int (nI i)), some (.int (nI g)), some v4, some v5, some (.int (-1)), o7] [] (WW σ t) 0 0 = Q) : ∀ n k, k + n = 10 → cnt (σ 39 g) ≤ k → exM X 71 72 [some (.ref 17), some v1, some (.int (nI i)), some (.int (nI g)), some v4, some v5, some (.int (-1)), some (.int (nI k))] [] (WW σ t) 0 0 = Q := by
  intro n
  induction n with
  | zero =>
    intro k hk hle
    have e : k = 10 := by omega
    subst e
    simp (disch := omega) only [s71_72, s71_74, s71_76, s71_79, s71_81, s71_82, s71_85, s71_86, s71_87, s71_90, s71_91, s71_93, s71_96, s71_97, s71_100, s71_102, s71_105, c10, c100, c6, eq_self, bnd_l, bnd_r, Option.toList_some, Option.toList_none, List.cons_append, List.nil_append, Nat.add_zero, Nat.zero_add, ↓reduceIte, nI_add, nI_mul, nI_subI, lt_t, lt_f, eq_f, lt_m1, m1_lt, eq_m1, m1_eq]
    exact hQ _
  | succ n ih =>
    intro k hk hle
    have ic := (k_carAt (X := X) (t := t) hB hg (by omega : k < 10)).2 (by omega)
    have i1 := ih (k + 1) (by omega) (by omega)
    rw [s71_72]
    simp (disch := omega) only [s71_74, s71_76, s71_79, s71_81, s71_82, s71_85, s71_86, s71_87, s71_90, s71_91, s71_93, s71_96, s71_97, s71_100, s71_102, s71_105, c10, c100, c6, eq_self, bnd_l, bnd_r, Option.toList_some, Option.toList_none, List.cons_append, List.nil_append, Nat.add_zero, Nat.zero_add, ↓reduceIte, nI_add, nI_mul, nI_subI, lt_t, lt_f, eq_f, lt_m1, m1_lt, eq_m1, m1_eq, ic, k_freeNo]
    exact i1
theorem l_nU {i g : Nat} {v1 v4 v5 : Value} (hB : IB σ) (hW : OW σ i) (hi : i < 20) (hg : g < 20) {Q : Option rR} : ∀ j k, k + j = cnt (σ 39 g) → (∀ o7, exM X 71 108 [some (.ref 17), some v1, some (.int (nI i)), some (.int (nI g)), some v4, some v5, some (.int (nxuF (frC σ i g) k j)), o7] [] (WW σ t) 0 0 = Q) → exM X 71 72 [some (.ref 17), some v1, some (.int (nI i)), some (.int (nI g)), some v4, some v5, some (.int (-1)), some (.int (nI k))] [] (WW σ t) 0 0 = Q := by
  have hle := okM_le (hB.1 g hg).1
  intro j
  induction j with
  | zero =>
    intro k hk hQ
    rw [nxuF] at hQ
    exact l_nU2 hB hi hg hQ (10 - k) k (by omega) (by omega)
  | succ j ih =>
    intro k hk hQ
    have ic := (k_carAt (X := X) (t := t) hB hg (by omega : k < 10)).1 (by omega)
    have ifr := k_freeAt (X := X) (t := t) hB hW hi hg (by omega : k < cnt (σ 39 g))
    rw [s71_72]
    rw [nxuF] at hQ
    by_cases hv : frC σ i g k = -1
    · rw [if_pos hv] at hQ
      have i1 := ih (k + 1) (by omega) hQ
      simp (disch := omega) only [s71_74, s71_76, s71_79, s71_81, s71_82, s71_85, s71_86, s71_87, s71_90, s71_91, s71_93, s71_96, s71_97, s71_100, s71_102, s71_105, c10, c100, c6, eq_self, bnd_l, bnd_r, Option.toList_some, Option.toList_none, List.cons_append, List.nil_append, Nat.add_zero, Nat.zero_add, ↓reduceIte, nI_add, nI_mul, nI_subI, lt_t, lt_f, eq_f, lt_m1, m1_lt, eq_m1, m1_eq, ic, ifr, hv]
      exact i1
    · rw [if_neg hv] at hQ
      simp (disch := omega) only [s71_74, s71_76, s71_79, s71_81, s71_82, s71_85, s71_86, s71_87, s71_90, s71_91, s71_93, s71_96, s71_97, s71_100, s71_102, s71_105, c10, c100, c6, eq_self, bnd_l, bnd_r, Option.toList_some, Option.toList_none, List.cons_append, List.nil_append, Nat.add_zero, Nat.zero_add, ↓reduceIte, nI_add, nI_mul, nI_subI, lt_t, lt_f, eq_f, lt_m1, m1_lt, eq_m1, m1_eq, ic, ifr]
      rw [s71_72]
      by_cases h10 : k + 1 < 10
      · simp (disch := omega) only [s71_74, s71_76, s71_79, s71_81, s71_82, s71_85, s71_86, s71_87, s71_90, s71_91, s71_93, s71_96, s71_97, s71_100, s71_102, s71_105, c10, c100, c6, eq_self, bnd_l, bnd_r, Option.toList_some, Option.toList_none, List.cons_append, List.nil_append, Nat.add_zero, Nat.zero_add, ↓reduceIte, nI_add, nI_mul, nI_subI, lt_t, lt_f, eq_f, lt_m1, m1_lt, eq_m1, m1_eq, hv]
        exact hQ _
      · simp (disch := omega) only [s71_74, s71_76, s71_79, s71_81, s71_82, s71_85, s71_86, s71_87, s71_90, s71_91, s71_93, s71_96, s71_97, s71_100, s71_102, s71_105, c10, c100, c6, eq_self, bnd_l, bnd_r, Option.toList_some, Option.toList_none, List.cons_append, List.nil_append, Nat.add_zero, Nat.zero_add, ↓reduceIte, nI_add, nI_mul, nI_subI, lt_t, lt_f, eq_f, lt_m1, m1_lt, eq_m1, m1_eq, hv]
        exact hQ _
/-- the notional time, by the class's rows -/
abbrev notC (σ : Nat → Nat → Int32) (i c : Nat) : Int32 := notF (σ 11) (σ 18) (σ 19) (σ 21) (σ 38) (σ 39) (legF (σ 36) i) c i
theorem k_notional {c i : Nat} (hA : IA σ N) (hB : IB σ) (hW : OW σ i) (hi : i < N) (hc : c < 10) : exC X 71 [.ref 17, .int (nI c), .int (nI i)] (WW σ t) = ans (notC σ i c) (WW σ t) := by
  have hN := hA.1
  have hgl := legF_le (σ 36) i
  have il := k_legOf (X := X) (t := t) hA hi
  have ip := k_placeOf (X := X) (t := t) (g := legF (σ 36) i) hB (by omega) hc
  have hpo := plcF_or (fun k => σ 38 (10 * legF (σ 36) i + k)) (nI c) (cnt (σ 39 (legF (σ 36) i)))
  have hle := okM_le (hB.1 (legF (σ 36) i) (by omega)).1
  have hg : legF (σ 36) i < 20 := by omega
  rw [ent_71]
  unfold notC notF
  dsimp only
  generalize legF (σ 36) i = g at *
  generalize hgp : plcF (fun k => σ 38 (10 * g + k)) (nI c) (cnt (σ 39 g)) = p at *
  have h2 : ¬ nI 2 = 0 := nI_nz (by omega) (by omega)
  -- behind the two loops
  have hend : ∀ (u v : Int32) (o7 : Option Value), exM X 71 108 [some (.ref 17), some (.int (nI c)), some (.int (nI i)), some (.int (nI g)), some (.int p), some (.int u), some (.int v), o7] [] (WW σ t) 0 0 = ans (if u = -1 then v else if v = -1 then u else (u + v) / nI 2) (WW σ t) := fun u v o7 => by
    by_cases hu : u = -1
    · simp (disch := omega) only [s71_108, s71_110, s71_111, s71_114, s71_116, s71_117, s71_119, s71_120, s71_123, s71_125, s71_128, s71_130, s71_132, s71_133, s71_134, s71_135, c10, c100, c6, eq_self, bnd_l, bnd_r, Option.toList_some, Option.toList_none, List.cons_append, List.nil_append, Nat.add_zero, Nat.zero_add, ↓reduceIte, nI_add, nI_mul, nI_subI, lt_t, lt_f, eq_f, lt_m1, m1_lt, eq_m1, m1_eq, hu]
    · by_cases hv : v = -1
      · simp (disch := omega) only [s71_108, s71_110, s71_111, s71_114, s71_116, s71_117, s71_119, s71_120, s71_123, s71_125, s71_128, s71_130, s71_132, s71_133, s71_134, s71_135, c10, c100, c6, eq_self, bnd_l, bnd_r, Option.toList_some, Option.toList_none, List.cons_append, List.nil_append, Nat.add_zero, Nat.zero_add, ↓reduceIte, nI_add, nI_mul, nI_subI, lt_t, lt_f, eq_f, lt_m1, m1_lt, eq_m1, m1_eq, hu, hv]
      · simp (disch := omega) only [s71_108, s71_110, s71_111, s71_114, s71_116, s71_117, s71_119, s71_120, s71_123, s71_125, s71_128, s71_130, s71_132, s71_133, s71_135, c10, c100, c6, eq_self, bnd_l, bnd_r, Option.toList_some, Option.toList_none, List.cons_append, List.nil_append, Nat.add_zero, Nat.zero_add, ↓reduceIte, nI_add, nI_mul, nI_subI, lt_t, lt_f, eq_f, lt_m1, m1_lt, eq_m1, m1_eq, hu, hv, s71_134 h2, s71_135]
  have hup : ∀ (u : Int32) (o6 : Option Value), exM X 71 63 [some (.ref 17), some (.int (nI c)), some (.int (nI i)), some (.int (nI g)), some (.int p), some (.int u), o6, none] [] (WW σ t) 0 0 = ans (if u = -1 then (if p = -1 then nxuF (frC σ i g) 0 (cnt (σ 39 g)) else nxuF (frC σ i g) (cnt p + 1) (cnt (σ 39 g) - (cnt p + 1))) else if (if p = -1 then nxuF (frC σ i g) 0 (cnt (σ 39 g)) else nxuF (frC σ i g) (cnt p + 1) (cnt (σ 39 g) - (cnt p + 1))) = -1 then u else (u + (if p = -1 then nxuF (frC σ i g) 0 (cnt (σ 39 g)) else nxuF (frC σ i g) (cnt p + 1) (cnt (σ 39 g) - (cnt p + 1)))) / nI 2) (WW σ t) := fun u o6 => by
    rcases hpo with rfl | ⟨a, ha, rfl⟩
    · have hL := l_nU (X := X) (t := t) (v1 := .int (nI c)) (v4 := .int (-1)) (v5 := .int u) hB hW (by omega) hg (cnt (σ 39 g)) 0 (by omega) (fun o7 => hend u _ o7)
      rw [if_pos rfl]
      simp (disch := omega) only [s71_63, s71_64, s71_66, s71_68, s71_69, s71_70, c10, c100, c6, eq_self, bnd_l, bnd_r, Option.toList_some, Option.toList_none, List.cons_append, List.nil_append, Nat.add_zero, Nat.zero_add, ↓reduceIte, nI_add, nI_mul, nI_subI, lt_t, lt_f, eq_f, lt_m1, m1_lt, eq_m1, m1_eq, n0m]
      exact hL
    · have hL := l_nU (X := X) (t := t) (v1 := .int (nI c)) (v4 := .int (nI a)) (v5 := .int u) hB hW (by omega) hg (cnt (σ 39 g) - (a + 1)) (a + 1) (by omega) (fun o7 => hend u _ o7)
      rw [if_neg (show ¬ nI a = -1 by rw [eq_m1 (by omega)]; exact id), cnt_nI (by omega)]
      simp (disch := omega) only [s71_63, s71_64, s71_66, s71_68, s71_69, s71_70, c10, c100, c6, eq_self, bnd_l, bnd_r, Option.toList_some, Option.toList_none, List.cons_append, List.nil_append, Nat.add_zero, Nat.zero_add, ↓reduceIte, nI_add, nI_mul, nI_subI, lt_t, lt_f, eq_f, lt_m1, m1_lt, eq_m1, m1_eq]
      exact hL
  rcases hpo with rfl | ⟨a, ha, rfl⟩
  · simp (disch := omega) only [s71_0, s71_1, s71_4, s71_5, s71_8, s71_9, s71_10, s71_13, s71_14, s71_15, s71_18, s71_20, s71_21, s71_23, s71_25, s71_26, s71_27, c10, c100, c6, eq_self, bnd_l, bnd_r, Option.toList_some, Option.toList_none, List.cons_append, List.nil_append, Nat.add_zero, Nat.zero_add, ↓reduceIte, nI_add, nI_mul, nI_subI, lt_t, lt_f, eq_f, lt_m1, m1_lt, eq_m1, m1_eq, il, ip]
    rw [s71_29]
    simp (disch := omega) only [s71_31, s71_34, s71_36, s71_37, s71_40, s71_41, s71_42, s71_45, s71_46, s71_48, s71_51, s71_52, s71_55, s71_57, s71_60, c10, c100, c6, eq_self, bnd_l, bnd_r, Option.toList_some, Option.toList_none, List.cons_append, List.nil_append, Nat.add_zero, Nat.zero_add, ↓reduceIte, nI_add, nI_mul, nI_subI, lt_t, lt_f, eq_f, lt_m1, m1_lt, eq_m1, m1_eq, m2n]
    rw [hup, cnt_m1]
    rfl
  · rw [cnt_nI (by omega)] at hup
    cases a with
    | zero =>
      simp (disch := omega) only [s71_0, s71_1, s71_4, s71_5, s71_8, s71_9, s71_10, s71_13, s71_14, s71_15, s71_18, s71_20, s71_21, s71_23, s71_25, s71_26, s71_27, c10, c100, c6, eq_self, bnd_l, bnd_r, Option.toList_some, Option.toList_none, List.cons_append, List.nil_append, Nat.add_zero, Nat.zero_add, ↓reduceIte, nI_add, nI_mul, nI_subI, lt_t, lt_f, eq_f, lt_m1, m1_lt, eq_m1, m1_eq, il, ip, z1n]
      rw [s71_29]
      simp (disch := omega) only [s71_31, s71_34, s71_36, s71_37, s71_40, s71_41, s71_42, s71_45, s71_46, s71_48, s71_51, s71_52, s71_55, s71_57, s71_60, c10, c100, c6, eq_self, bnd_l, bnd_r, Option.toList_some, Option.toList_none, List.cons_append, List.nil_append, Nat.add_zero, Nat.zero_add, ↓reduceIte, nI_add, nI_mul, nI_subI, lt_t, lt_f, eq_f, lt_m1, m1_lt, eq_m1, m1_eq]
      rw [hup, cnt_nI (by omega)]
      rfl
    | succ a =>
      simp (disch := omega) only [s71_0, s71_1, s71_4, s71_5, s71_8, s71_9, s71_10, s71_13, s71_14, s71_15, s71_18, s71_20, s71_21, s71_23, s71_25, s71_26, s71_27, c10, c100, c6, eq_self, bnd_l, bnd_r, Option.toList_some, Option.toList_none, List.cons_append, List.nil_append, Nat.add_zero, Nat.zero_add, ↓reduceIte, nI_add, nI_mul, nI_subI, lt_t, lt_f, eq_f, lt_m1, m1_lt, eq_m1, m1_eq, il, ip, Nat.add_sub_cancel]
      refine l_nD hB hW (by omega) hg a (by omega) (fun o6 => ?_)
      rw [hup, cnt_nI (by omega), if_neg (show ¬ nI (a + 1) = -1 by rw [eq_m1 (by omega)]; exact id)]
/-- the time of a car in a stage, by the class's rows -/
abbrev tmC (σ : Nat → Nat → Int32) (i c : Nat) : Int32 := timeF (σ 11) (σ 18) (σ 19) (σ 21) (σ 20) (σ 38) (σ 39) (legF (σ 36) i) c i
theorem k_reckonTime {c i : Nat} (hA : IA σ N) (hB : IB σ) (hW : OW σ i) (hi : i < N) (hc : c < 10) : exC X 68 [.ref 17, .int (nI c), .int (nI i)] (WW σ t) = ans (tmC σ i c) (WW σ t) := by
  have hN := hA.1
  have i1 := k_notional (X := X) (t := t) hA hB hW hi hc
  rw [ent_68]
  unfold tmC timeF
  have hw := hW c hc
  by_cases ha : σ 20 (10 * i + c) = -1
  · by_cases hh : σ 21 (10 * i + c) = nI 0
    · simp (disch := omega) only [s68_0, s68_1, s68_3, s68_4, s68_5, s68_6, s68_7, s68_8, s68_11, s68_12, s68_13, s68_14, s68_17, s68_18, s68_21, s68_22, s68_23, s68_24, s68_25, s68_28, s68_29, s68_30, s68_33, s68_34, s68_35, s68_36, s68_39, s68_42, s68_43, s68_46, s68_47, s68_48, c10, c100, c6, eq_self, bnd_l, bnd_r, Option.toList_some, Option.toList_none, List.cons_append, List.nil_append, Nat.add_zero, Nat.zero_add, ↓reduceIte, nI_add, nI_mul, nI_subI, lt_t, lt_f, eq_f, lt_m1, m1_lt, eq_m1, m1_eq, ha, hh, hw]
    · simp (disch := omega) only [s68_0, s68_1, s68_3, s68_4, s68_5, s68_6, s68_7, s68_8, s68_11, s68_12, s68_13, s68_14, s68_17, s68_18, s68_21, s68_22, s68_23, s68_24, s68_25, s68_28, s68_29, s68_30, s68_33, s68_34, s68_35, s68_36, s68_39, s68_42, s68_43, s68_46, s68_47, s68_48, c10, c100, c6, eq_self, bnd_l, bnd_r, Option.toList_some, Option.toList_none, List.cons_append, List.nil_append, Nat.add_zero, Nat.zero_add, ↓reduceIte, nI_add, nI_mul, nI_subI, lt_t, lt_f, eq_f, lt_m1, m1_lt, eq_m1, m1_eq, ha, hh, i1]
  · simp (disch := omega) only [s68_0, s68_1, s68_3, s68_4, s68_5, s68_6, s68_7, s68_8, s68_11, s68_12, s68_13, s68_14, s68_17, s68_18, s68_21, s68_22, s68_23, s68_24, s68_25, s68_28, s68_29, s68_30, s68_33, s68_34, s68_35, s68_36, s68_39, s68_42, s68_43, s68_46, s68_47, s68_48, c10, c100, c6, eq_self, bnd_l, bnd_r, Option.toList_some, Option.toList_none, List.cons_append, List.nil_append, Nat.add_zero, Nat.zero_add, ↓reduceIte, nI_add, nI_mul, nI_subI, lt_t, lt_f, eq_f, lt_m1, m1_lt, eq_m1, m1_eq, ha]
theorem l_reckon {i : Nat} (hA : IA σ N) (hB : IB σ) (hW : OW σ i) (hi : i < N) {Q : Option rR} (hQ : ansV (WW (u2 (sA σ 23 (blkN i 10 (tmC σ i) (σ 23))) 24 i (bstF (tmC σ i) 10)) t) = Q) : ∀ n j, j + n = 10 → ∀ o4, exM X 67 9 [some (.ref 17), some (.int (nI i)), some (.int (bstF (tmC σ i) j)), some (.int (nI j)), o4] [] (WW (sA σ 23 (blkN i j (tmC σ i) (σ 23))) t) 0 0 = Q := by
  have hN := hA.1
  intro n
  induction n with
  | zero =>
    intro j hj o4
    have e : j = 10 := by omega
    subst e
    simp (disch := omega) only [s67_9, s67_10, s67_12, s67_62, s67_63, s67_66, s67_67, s67_68, s67_69, c10, c100, c6, eq_self, bnd_l, bnd_r, Option.toList_some, Option.toList_none, List.cons_append, List.nil_append, Nat.add_zero, Nat.zero_add, ↓reduceIte, nI_add, nI_mul, nI_subI, lt_t, lt_f, eq_f, lt_m1, m1_lt, eq_m1, m1_eq]
    exact hQ
  | succ n ih =>
    intro j hj o4
    rw [s67_9]
    have i1 := ih (j + 1) (by omega)
    have it : exC X 68 [.ref 17, .int (nI j), .int (nI i)] (WW (sA σ 23 (blkN i j (tmC σ i) (σ 23))) t) = ans (tmC σ i j) (WW (sA σ 23 (blkN i j (tmC σ i) (σ 23))) t) := k_reckonTime (σ := sA σ 23 (blkN i j (tmC σ i) (σ 23))) (N := N) hA hB hW hi (by omega)
    have hbl := blkN_s (i := i) (n := j) (g := tmC σ i) (f := σ 23) rfl
    by_cases h1 : tmC σ i j = -1
    · simp only [bstF, h1, if_true] at i1
      rw [h1] at hbl
      simp (disch := omega) only [s67_10, s67_12, s67_15, s67_16, s67_17, s67_18, s67_21, s67_23, s67_24, s67_27, s67_28, s67_30, s67_31, s67_32, s67_33, s67_35, s67_36, s67_38, s67_39, s67_42, s67_43, s67_44, s67_47, s67_49, s67_50, s67_53, s67_55, s67_56, s67_59, c10, c100, c6, eq_self, bnd_l, bnd_r, Option.toList_some, Option.toList_none, List.cons_append, List.nil_append, Nat.add_zero, Nat.zero_add, ↓reduceIte, nI_add, nI_mul, nI_subI, lt_t, lt_f, eq_f, lt_m1, m1_lt, eq_m1, m1_eq, it, u2_sA, h1, hbl]
      exact i1 _
    · by_cases h2 : bstF (tmC σ i) j = -1
      · simp only [bstF, h1, h2, if_true, if_false] at i1
        simp (disch := omega) only [s67_10, s67_12, s67_15, s67_16, s67_17, s67_18, s67_21, s67_23, s67_24, s67_27, s67_28, s67_30, s67_31, s67_32, s67_33, s67_35, s67_36, s67_38, s67_39, s67_42, s67_43, s67_44, s67_47, s67_49, s67_50, s67_53, s67_55, s67_56, s67_59, c10, c100, c6, eq_self, bnd_l, bnd_r, Option.toList_some, Option.toList_none, List.cons_append, List.nil_append, Nat.add_zero, Nat.zero_add, ↓reduceIte, nI_add, nI_mul, nI_subI, lt_t, lt_f, eq_f, lt_m1, m1_lt, eq_m1, m1_eq, it, u2_sA, h1, h2, hbl]
        exact i1 _
      · by_cases h3 : tmC σ i j < bstF (tmC σ i) j
        · simp only [bstF, h1, h2, h3, if_true, if_false] at i1
          simp (disch := omega) only [s67_10, s67_12, s67_15, s67_16, s67_17, s67_18, s67_21, s67_23, s67_24, s67_27, s67_28, s67_30, s67_31, s67_32, s67_33, s67_35, s67_36, s67_38, s67_39, s67_42, s67_43, s67_44, s67_47, s67_49, s67_50, s67_53, s67_55, s67_56, s67_59, c10, c100, c6, eq_self, bnd_l, bnd_r, Option.toList_some, Option.toList_none, List.cons_append, List.nil_append, Nat.add_zero, Nat.zero_add, ↓reduceIte, nI_add, nI_mul, nI_subI, lt_t, lt_f, eq_f, lt_m1, m1_lt, eq_m1, m1_eq, it, u2_sA, h1, h2, h3, hbl]
          exact i1 _
        · simp only [bstF, h1, h2, h3, if_false] at i1
          simp (disch := omega) only [s67_10, s67_12, s67_15, s67_16, s67_17, s67_18, s67_21, s67_23, s67_24, s67_27, s67_28, s67_30, s67_31, s67_32, s67_33, s67_35, s67_36, s67_38, s67_39, s67_42, s67_43, s67_44, s67_47, s67_49, s67_50, s67_53, s67_55, s67_56, s67_59, c10, c100, c6, eq_self, bnd_l, bnd_r, Option.toList_some, Option.toList_none, List.cons_append, List.nil_append, Nat.add_zero, Nat.zero_add, ↓reduceIte, nI_add, nI_mul, nI_subI, lt_t, lt_f, eq_f, lt_m1, m1_lt, eq_m1, m1_eq, it, u2_sA, h1, h2, h3, hbl]
          exact i1 _
/-- the stage reckoned -/
def rcW (σ : Nat → Nat → Int32) (i : Nat) : Nat → Nat → Int32 := u2 (sA (sA σ 22 (blkN i 10 (ownC σ i) (σ 22))) 23 (blkN i 10 (tmC σ i) (σ 23))) 24 i (bstF (tmC σ i) 10)
theorem k_reckon {i : Nat} (hA : IA σ N) (hB : IB σ) (hS : SG σ N i) : exC X 67 [.ref 17, .int (nI i)] (WW σ t) = ansV (WW (rcW σ i) t) := by
  have hN := hA.1
  have i1 := k_ownTimes (X := X) (t := t) hA hS
  rw [ent_67]
  have hL := l_reckon (X := X) (σ := sA σ 22 (blkN i 10 (ownC σ i) (σ 22))) (t := t) (N := N) (i := i) (Q := ansV (WW (rcW σ i) t)) hA hB (fun c hc => blkN_at hc) hS.1 rfl 10 0 (by omega) none
  rw [blkN_0, sA_self, bstF] at hL
  simp (disch := omega) only [s67_0, s67_1, s67_2, s67_5, s67_6, s67_7, s67_8, c10, c100, c6, eq_self, bnd_l, bnd_r, Option.toList_some, Option.toList_none, List.cons_append, List.nil_append, Nat.add_zero, Nat.zero_add, ↓reduceIte, nI_add, nI_mul, nI_subI, lt_t, lt_f, eq_f, lt_m1, m1_lt, eq_m1, m1_eq, i1]
  exact hL
theorem k_timeOf {c i : Nat} (hi : i < 20) (hc : c < 10) : exC X 63 [.ref 17, .int (nI c), .int (nI i)] (WW σ t) = ans (σ 23 (10 * i + c)) (WW σ t) := by
  rw [ent_63]
  simp (disch := omega) only [s63_0, s63_1, s63_4, s63_5, s63_7, s63_8, s63_9, s63_10, s63_11, c10, c100, c6, eq_self, bnd_l, bnd_r, Option.toList_some, Option.toList_none, List.cons_append, List.nil_append, Nat.add_zero, Nat.zero_add, ↓reduceIte, nI_add, nI_mul, nI_subI, lt_t, lt_f, eq_f, lt_m1, m1_lt, eq_m1, m1_eq]
theorem rcW_23 {c i : Nat} (hc : c < 10) : rcW σ i 23 (10 * i + c) = tmC σ i c := by
  unfold rcW
  rw [u2_ne (by omega), sA_eq, blkN_at hc]
theorem k_tell {c i : Nat} {z x : Int32} (hA : IA σ N) (hB : IB σ) (hi : i < 20) (hc : c < 10) (hS : SG (u2 σ (if z = nI 0 then 19 else 18) (10 * i + c) x) N i) : exC X 60 [.ref 17, .int (nI c), .int (nI i), .int z, .int x] (WW σ t) = ansV (WW (rcW (u2 σ (if z = nI 0 then 19 else 18) (10 * i + c) x) i) t) := by
  rw [ent_60]
  by_cases hz : z = nI 0
  · rw [if_pos hz] at hS ⊢
    have i1 := k_reckon (X := X) (σ := u2 σ 19 (10 * i + c) x) (t := t) (N := N) hA hB hS
    simp (disch := omega) only [s60_0, s60_1, s60_4, s60_5, s60_8, s60_9, s60_11, s60_12, s60_13, s60_14, s60_16, s60_17, s60_20, s60_21, s60_24, s60_25, s60_27, s60_28, s60_29, s60_30, s60_32, s60_33, s60_34, s60_35, s60_38, c10, c100, c6, eq_self, bnd_l, bnd_r, Option.toList_some, Option.toList_none, List.cons_append, List.nil_append, Nat.add_zero, Nat.zero_add, ↓reduceIte, nI_add, nI_mul, nI_subI, lt_t, lt_f, eq_f, lt_m1, m1_lt, eq_m1, m1_eq, hz, i1]
  · rw [if_neg hz] at hS ⊢
    have i1 := k_reckon (X := X) (σ := u2 σ 18 (10 * i + c) x) (t := t) (N := N) hA hB hS
    simp (disch := omega) only [s60_0, s60_1, s60_4, s60_5, s60_8, s60_9, s60_11, s60_12, s60_13, s60_14, s60_16, s60_17, s60_20, s60_21, s60_24, s60_25, s60_27, s60_28, s60_29, s60_30, s60_32, s60_33, s60_34, s60_35, s60_38, c10, c100, c6, eq_self, bnd_l, bnd_r, Option.toList_some, Option.toList_none, List.cons_append, List.nil_append, Nat.add_zero, Nat.zero_add, ↓reduceIte, nI_add, nI_mul, nI_subI, lt_t, lt_f, eq_f, lt_m1, m1_lt, eq_m1, m1_eq, hz, i1]
theorem k_hold {c i : Nat} {z : Int32} (hA : IA σ N) (hB : IB σ) (hi : i < 20) (hc : c < 10) (hz : z = nI 0 ∨ z = nI 1) (hS : SG (u2 σ 21 (10 * i + c) z) N i) : exC X 61 [.ref 17, .int (nI c), .int (nI i), .int z] (WW σ t) = ans (tmC (u2 σ 21 (10 * i + c) z) i c) (WW (rcW (u2 σ 21 (10 * i + c) z) i) t) := by
  rw [ent_61]
  have i1 := k_reckon (X := X) (σ := u2 σ 21 (10 * i + c) z) (t := t) (N := N) hA hB hS
  have i2 := k_timeOf (X := X) (σ := rcW (u2 σ 21 (10 * i + c) z) i) (t := t) hi hc
  rw [rcW_23 hc] at i2
  rcases hz with rfl | rfl
  · simp (disch := omega) only [s61_0, s61_1, s61_4, s61_5, s61_7, s61_8, s61_9, s61_10, s61_11 nar0, s61_11 nar1, s61_12, s61_13, s61_14, s61_17, s61_18, s61_19, s61_20, s61_23, c10, c100, c6, eq_self, bnd_l, bnd_r, Option.toList_some, Option.toList_none, List.cons_append, List.nil_append, Nat.add_zero, Nat.zero_add, ↓reduceIte, nI_add, nI_mul, nI_subI, lt_t, lt_f, eq_f, lt_m1, m1_lt, eq_m1, m1_eq, i1, i2]
  · simp (disch := omega) only [s61_0, s61_1, s61_4, s61_5, s61_7, s61_8, s61_9, s61_10, s61_11 nar0, s61_11 nar1, s61_12, s61_13, s61_14, s61_17, s61_18, s61_19, s61_20, s61_23, c10, c100, c6, eq_self, bnd_l, bnd_r, Option.toList_some, Option.toList_none, List.cons_append, List.nil_append, Nat.add_zero, Nat.zero_add, ↓reduceIte, nI_add, nI_mul, nI_subI, lt_t, lt_f, eq_f, lt_m1, m1_lt, eq_m1, m1_eq, i1, i2]
theorem k_grant {c i : Nat} {x : Int32} (hA : IA σ N) (hB : IB σ) (hi : i < 20) (hc : c < 10) (hS : SG (u2 σ 20 (10 * i + c) x) N i) : exC X 62 [.ref 17, .int (nI c), .int (nI i), .int x] (WW σ t) = ans (tmC (u2 σ 20 (10 * i + c) x) i c) (WW (rcW (u2 σ 20 (10 * i + c) x) i) t) := by
  rw [ent_62]
  have i1 := k_reckon (X := X) (σ := u2 σ 20 (10 * i + c) x) (t := t) (N := N) hA hB hS
  have i2 := k_timeOf (X := X) (σ := rcW (u2 σ 20 (10 * i + c) x) i) (t := t) hi hc
  rw [rcW_23 hc] at i2
  simp (disch := omega) only [s62_0, s62_1, s62_4, s62_5, s62_7, s62_8, s62_9, s62_10, s62_11, s62_12, s62_13, s62_14, s62_17, s62_18, s62_19, s62_20, s62_23, c10, c100, c6, eq_self, bnd_l, bnd_r, Option.toList_some, Option.toList_none, List.cons_append, List.nil_append, Nat.add_zero, Nat.zero_add, ↓reduceIte, nI_add, nI_mul, nI_subI, lt_t, lt_f, eq_f, lt_m1, m1_lt, eq_m1, m1_eq, i1, i2]
/-- the times of a car, of the first j items -/
def smF (tm bs : Nat → Int32) (c : Nat) : Nat → Int32
  | 0 => nI 0
  | j + 1 => if tm (10 * j + c) = -1 then (if bs j = -1 then smF tm bs c j else smF tm bs c j + (bs j + nI 6000)) else smF tm bs c j + tm (10 * j + c)
theorem l_sumOf6 {c : Nat} (hA : IA σ N) (hc : c < 10) {Q : Option rR} (hQ : ans (smF (σ 23) (σ 24) c N) (WW σ t) = Q) : ∀ n j, j + n = N → exM X 64 4 [some (.ref 17), some (.int (nI c)), some (.int (smF (σ 23) (σ 24) c j)), some (.int (nI j))] [] (WW σ t) 0 0 = Q := by
  have hN := hA.1
  have i0 := k_size (X := X) (t := t) hA
  intro n
  induction n with
  | zero =>
    intro j hj
    have e : j = N := by omega
    subst e
    simp (disch := omega) only [s64_4, s64_5, s64_6, s64_9, s64_12, s64_66, s64_67, c10, c100, c6, eq_self, bnd_l, bnd_r, Option.toList_some, Option.toList_none, List.cons_append, List.nil_append, Nat.add_zero, Nat.zero_add, ↓reduceIte, nI_add, nI_mul, nI_subI, lt_t, lt_f, eq_f, lt_m1, m1_lt, eq_m1, m1_eq, i0]
    exact hQ
  | succ n ih =>
    intro j hj
    rw [s64_4]
    have i1 := ih (j + 1) (by omega)
    have i2 := k_timeOf (X := X) (σ := σ) (t := t) (i := j) (by omega) hc
    by_cases h1 : σ 23 (10 * j + c) = -1
    · by_cases h2 : σ 24 j = -1
      · simp only [smF, h1, h2, if_true] at i1
        simp (disch := omega) only [s64_5, s64_6, s64_9, s64_12, s64_15, s64_16, s64_17, s64_18, s64_21, s64_22, s64_25, s64_26, s64_27, s64_28, s64_29, s64_32, s64_33, s64_34, s64_37, s64_38, s64_41, s64_42, s64_43, s64_44, s64_47, s64_48, s64_49, s64_52, s64_53, s64_54, s64_57, s64_58, s64_59, s64_60, s64_63, c10, c100, c6, eq_self, bnd_l, bnd_r, Option.toList_some, Option.toList_none, List.cons_append, List.nil_append, Nat.add_zero, Nat.zero_add, ↓reduceIte, nI_add, nI_mul, nI_subI, lt_t, lt_f, eq_f, lt_m1, m1_lt, eq_m1, m1_eq, i0, i2, h1, h2]
        exact i1
      · simp only [smF, h1, h2, if_true, if_false] at i1
        simp (disch := omega) only [s64_5, s64_6, s64_9, s64_12, s64_15, s64_16, s64_17, s64_18, s64_21, s64_22, s64_25, s64_26, s64_27, s64_28, s64_29, s64_32, s64_33, s64_34, s64_37, s64_38, s64_41, s64_42, s64_43, s64_44, s64_47, s64_48, s64_49, s64_52, s64_53, s64_54, s64_57, s64_58, s64_59, s64_60, s64_63, c10, c100, c6, eq_self, bnd_l, bnd_r, Option.toList_some, Option.toList_none, List.cons_append, List.nil_append, Nat.add_zero, Nat.zero_add, ↓reduceIte, nI_add, nI_mul, nI_subI, lt_t, lt_f, eq_f, lt_m1, m1_lt, eq_m1, m1_eq, i0, i2, h1, h2]
        exact i1
    · simp only [smF, h1, if_false] at i1
      simp (disch := omega) only [s64_5, s64_6, s64_9, s64_12, s64_15, s64_16, s64_17, s64_18, s64_21, s64_22, s64_25, s64_26, s64_27, s64_28, s64_29, s64_32, s64_33, s64_34, s64_37, s64_38, s64_41, s64_42, s64_43, s64_44, s64_47, s64_48, s64_49, s64_52, s64_53, s64_54, s64_57, s64_58, s64_59, s64_60, s64_63, c10, c100, c6, eq_self, bnd_l, bnd_r, Option.toList_some, Option.toList_none, List.cons_append, List.nil_append, Nat.add_zero, Nat.zero_add, ↓reduceIte, nI_add, nI_mul, nI_subI, lt_t, lt_f, eq_f, lt_m1, m1_lt, eq_m1, m1_eq, i0, i2, h1]
      exact i1
theorem k_sumOf {c : Nat} (hA : IA σ N) (hc : c < 10) : exC X 64 [.ref 17, .int (nI c)] (WW σ t) = ans (smF (σ 23) (σ 24) c N) (WW σ t) := by
  rw [ent_64]
  have hL := l_sumOf6 (X := X) (t := t) hA hc rfl N 0 (by omega)
  rw [smF] at hL
  simp (disch := omega) only [s64_0, s64_1, s64_2, s64_3, c10, c100, c6, eq_self, bnd_l, bnd_r, Option.toList_some, Option.toList_none, List.cons_append, List.nil_append, Nat.add_zero, Nat.zero_add, ↓reduceIte, nI_add, nI_mul, nI_subI, lt_t, lt_f, eq_f, lt_m1, m1_lt, eq_m1, m1_eq]
  exact hL
/-- the comparison by times, from item j on, n items -/
def cmpF (tm : Nat → Int32) (a b : Nat) : Nat → Nat → Int32
  | _, 0 => nI 0
  | j, n + 1 => if tm (10 * j + a) = tm (10 * j + b) then cmpF tm a b (j + 1) n
    else if tm (10 * j + b) = -1 then -1 else if tm (10 * j + a) = -1 then nI 1 else if tm (10 * j + a) < tm (10 * j + b) then -1 else nI 1
theorem l_compare {a b : Nat} (hA : IA σ N) (ha : a < 10) (hb : b < 10) : ∀ n j, j + n = N → ∀ o4 o5, exM X 65 2 [some (.ref 17), some (.int (nI a)), some (.int (nI b)), some (.int (nI j)), o4, o5] [] (WW σ t) 0 0 = ans (cmpF (σ 23) a b j n) (WW σ t) := by
  have hN := hA.1
  have i0 := k_size (X := X) (t := t) hA
  intro n
  induction n with
  | zero =>
    intro j hj o4 o5
    have e : j = N := by omega
    subst e
    simp (disch := omega) only [s65_0, s65_1, s65_2, s65_3, s65_4, s65_7, s65_10, s65_13, s65_14, s65_15, s65_16, s65_19, s65_21, s65_22, s65_23, s65_24, s65_27, s65_29, s65_31, s65_33, s65_36, s65_38, s65_39, s65_42, s65_44, s65_45, s65_48, s65_50, s65_52, s65_55, s65_56, s65_59, s65_60, s65_61, s65_64, s65_67, s65_68, c10, c100, c6, eq_self, bnd_l, bnd_r, Option.toList_some, Option.toList_none, List.cons_append, List.nil_append, Nat.add_zero, Nat.zero_add, ↓reduceIte, nI_add, nI_mul, nI_subI, lt_t, lt_f, eq_f, lt_m1, m1_lt, eq_m1, m1_eq, i0, cmpF]
  | succ n ih =>
    intro j hj o4 o5
    rw [s65_2]
    have i1 := ih (j + 1) (by omega)
    have i2 := k_timeOf (X := X) (σ := σ) (t := t) (i := j) (by omega) ha
    have i3 := k_timeOf (X := X) (σ := σ) (t := t) (i := j) (by omega) hb
    by_cases h1 : σ 23 (10 * j + a) = σ 23 (10 * j + b)
    · rw [cmpF, if_pos h1]
      rw [h1] at i2
      simp (disch := omega) only [s65_3, s65_4, s65_7, s65_10, s65_13, s65_14, s65_15, s65_16, s65_19, s65_21, s65_22, s65_23, s65_24, s65_27, s65_29, s65_31, s65_33, s65_36, s65_38, s65_39, s65_42, s65_44, s65_45, s65_48, s65_50, s65_52, s65_55, s65_56, s65_59, s65_60, s65_61, s65_64, c10, c100, c6, eq_self, bnd_l, bnd_r, Option.toList_some, Option.toList_none, List.cons_append, List.nil_append, Nat.add_zero, Nat.zero_add, ↓reduceIte, nI_add, nI_mul, nI_subI, lt_t, lt_f, eq_f, lt_m1, m1_lt, eq_m1, m1_eq, i0, i2, i3]
      exact i1 _ _
    · rw [cmpF, if_neg h1]
      by_cases h2 : σ 23 (10 * j + b) = -1
      · rw [if_pos h2]
        rw [h2] at h1
        simp (disch := omega) only [s65_3, s65_4, s65_7, s65_10, s65_13, s65_14, s65_15, s65_16, s65_19, s65_21, s65_22, s65_23, s65_24, s65_27, s65_29, s65_31, s65_33, s65_36, s65_38, s65_39, s65_42, s65_44, s65_45, s65_48, s65_50, s65_52, s65_55, s65_56, s65_59, s65_60, s65_61, s65_64, c10, c100, c6, eq_self, bnd_l, bnd_r, Option.toList_some, Option.toList_none, List.cons_append, List.nil_append, Nat.add_zero, Nat.zero_add, ↓reduceIte, nI_add, nI_mul, nI_subI, lt_t, lt_f, eq_f, lt_m1, m1_lt, eq_m1, m1_eq, i0, i2, i3, h1, h2]
      · rw [if_neg h2]
        by_cases h3 : σ 23 (10 * j + a) = -1
        · rw [if_pos h3]
          rw [h3] at h1
          simp (disch := omega) only [s65_3, s65_4, s65_7, s65_10, s65_13, s65_14, s65_15, s65_16, s65_19, s65_21, s65_22, s65_23, s65_24, s65_27, s65_29, s65_31, s65_33, s65_36, s65_38, s65_39, s65_42, s65_44, s65_45, s65_48, s65_50, s65_52, s65_55, s65_56, s65_59, s65_60, s65_61, s65_64, c10, c100, c6, eq_self, bnd_l, bnd_r, Option.toList_some, Option.toList_none, List.cons_append, List.nil_append, Nat.add_zero, Nat.zero_add, ↓reduceIte, nI_add, nI_mul, nI_subI, lt_t, lt_f, eq_f, lt_m1, m1_lt, eq_m1, m1_eq, i0, i2, i3, h1, h2, h3]
        · rw [if_neg h3]
          by_cases h4 : σ 23 (10 * j + a) < σ 23 (10 * j + b)
          · rw [if_pos h4]
            simp (disch := omega) only [s65_3, s65_4, s65_7, s65_10, s65_13, s65_14, s65_15, s65_16, s65_19, s65_21, s65_22, s65_23, s65_24, s65_27, s65_29, s65_31, s65_33, s65_36, s65_38, s65_39, s65_42, s65_44, s65_45, s65_48, s65_50, s65_52, s65_55, s65_56, s65_59, s65_60, s65_61, s65_64, c10, c100, c6, eq_self, bnd_l, bnd_r, Option.toList_some, Option.toList_none, List.cons_append, List.nil_append, Nat.add_zero, Nat.zero_add, ↓reduceIte, nI_add, nI_mul, nI_subI, lt_t, lt_f, eq_f, lt_m1, m1_lt, eq_m1, m1_eq, i0, i2, i3, h1, h2, h3, h4]
          · rw [if_neg h4]
            simp (disch := omega) only [s65_3, s65_4, s65_7, s65_10, s65_13, s65_14, s65_15, s65_16, s65_19, s65_21, s65_22, s65_23, s65_24, s65_27, s65_29, s65_31, s65_33, s65_36, s65_38, s65_39, s65_42, s65_44, s65_45, s65_48, s65_50, s65_52, s65_55, s65_56, s65_59, s65_60, s65_61, s65_64, c10, c100, c6, eq_self, bnd_l, bnd_r, Option.toList_some, Option.toList_none, List.cons_append, List.nil_append, Nat.add_zero, Nat.zero_add, ↓reduceIte, nI_add, nI_mul, nI_subI, lt_t, lt_f, eq_f, lt_m1, m1_lt, eq_m1, m1_eq, i0, i2, i3, h1, h2, h3, h4]
theorem k_compare {a b : Nat} (hA : IA σ N) (ha : a < 10) (hb : b < 10) : exC X 65 [.ref 17, .int (nI a), .int (nI b)] (WW σ t) = ans (cmpF (σ 23) a b 0 N) (WW σ t) := by
  rw [ent_65]
  have hL := l_compare (X := X) (t := t) hA ha hb N 0 (by omega) none none
  simp (disch := omega) only [s65_0, s65_1, c10, c100, c6, eq_self, bnd_l, bnd_r, Option.toList_some, Option.toList_none, List.cons_append, List.nil_append, Nat.add_zero, Nat.zero_add, ↓reduceIte, nI_add, nI_mul, nI_subI, lt_t, lt_f, eq_f, lt_m1, m1_lt, eq_m1, m1_eq]
  exact hL
end CMP4
