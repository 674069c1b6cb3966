/-! THE REFERENCE: delays, stages, tyres, the table -/
section REF7
variable {X : rX} {h : rH} {σ : Nat → Nat → Int32} {t : rH}
theorem upd_self0 {f : Nat → Int32} {k : Nat} : upd f k (f k + nI 0) = f := by
  funext i
  unfold upd
  by_cases h : i = k
  · subst h; rw [if_pos rfl, ← nIz, Int32.add_zero]
  · rw [if_neg h]
/-- the delays after j places from place a on -/
def dlF (sp od f : Nat → Int32) (b : Int32) (i g a : Nat) : Nat → Nat → Int32
  | 0 => f
  | j + 1 => if sp (10 * i + carF od g (a + j)) = -1 then upd (dlF sp od f b i g a j) (10 * i + carF od g (a + j)) (dlF sp od f b i g a j (10 * i + carF od g (a + j)) + b) else dlF sp od f b i g a j
def dnF (sp od : Nat → Int32) (i g a : Nat) : Nat → Nat
  | 0 => 0
  | j + 1 => dnF sp od i g a j + if sp (10 * i + carF od g (a + j)) = -1 then 1 else 0
theorem dnF_le {sp od : Nat → Int32} {i g a : Nat} : ∀ j, dnF sp od i g a j ≤ j
  | 0 => Nat.le_refl _
  | j + 1 => by
    have := @dnF_le sp od i g a j
    unfold dnF
    split <;> omega
theorem l_delay {i a N c : Nat} {b : Int32} (hR : RK σ N) (hi : i < N) {Q : Option rR}
    (hQ : ans (nI (dnF (σ 40) (σ 38) i (legF (σ 36) i) a (cnt (σ 39 (legF (σ 36) i)) - a))) (WW (sA σ 41 (dlF (σ 40) (σ 38) (σ 41) b i (legF (σ 36) i) a (cnt (σ 39 (legF (σ 36) i)) - a))) t) = Q) :
    ∀ n j, a + j + n = cnt (σ 39 (legF (σ 36) i)) → ∀ o9, exM X 124 120 [some (.ref 35), some (.int (nI i)), some (.int (nI c)), some (.int b), some (.int (nI 1)), some (.int (nI 1)), some (.int (nI a)), some (.int (nI (dnF (σ 40) (σ 38) i (legF (σ 36) i) a j))), some (.int (nI (a + j))), o9] [] (WW (sA σ 41 (dlF (σ 40) (σ 38) (σ 41) b i (legF (σ 36) i) a j)) t) 0 0 = Q := by
  have hN := hR.1
  have h0 := hR.2.2.1 (by omega)
  have hg := legF_le (σ 36) i
  have hO := hR.2.2.2 (legF (σ 36) i) (by omega)
  have hlt := okM_lt hO.1
  have hle := okM_le hO.1
  have hl : ∀ f, exC X 119 [.ref 35, .int (nI i)] (WW (sA σ 41 f) t) = ans (nI (legF (σ 36) i)) (WW (sA σ 41 f) t) := fun f => c_legOf (σ := sA σ 41 f) (by omega) h0
  intro n
  induction n with
  | zero =>
    intro j hj o9
    have e : j = cnt (σ 39 (legF (σ 36) i)) - a := by omega
    subst e
    have hk' : (a + (cnt (σ 39 (legF (σ 36) i)) - a) < cnt (σ 39 (legF (σ 36) i))) = False := eq_false (by omega)
    have hl1 := hl (dlF (σ 40) (σ 38) (σ 41) b i (legF (σ 36) i) a (cnt (σ 39 (legF (σ 36) i)) - a))
    generalize hgg : cnt (σ 39 (legF (σ 36) i)) - a = w at *
    simp (disch := omega) only [s124_120, s124_122, s124_123, s124_126, s124_127, s124_128, s124_131, s124_132, s124_135, s124_137, s124_138, s124_139, s124_140, s124_143, s124_145, s124_146, s124_147, s124_150, s124_151, s124_153, s124_154, s124_155, s124_156, s124_158, s124_159, s124_162, s124_164, s124_165, s124_166, s124_167, s124_170, s124_172, s124_173, s124_174, s124_177, s124_178, s124_181, s124_182, s124_183, s124_184, s124_186, s124_187, s124_190, s124_192, s124_193, s124_194, s124_197, s124_198, s124_201, s124_202, s124_203, s124_205, s124_208, s124_211, s124_213, eq_self, bnd_l, bnd_r, Option.toList_some, Option.toList_none, List.cons_append, List.nil_append, Nat.add_zero, Nat.zero_add, ↓reduceIte, nI_add, nI_mul, nI_subI, lt_t, lt_f, eq_f, lt_m1, m1_lt, eq_m1, m1_eq, sA_ne, hl1, hlt, hk']
    exact hQ
  | succ n ih =>
    intro j hj o9
    rw [s124_120]
    have i1 := ih (j + 1) (by omega)
    obtain ⟨e1, e2⟩ := hO.2 (a + j) (by omega)
    have hk' : (a + j < cnt (σ 39 (legF (σ 36) i))) = True := eq_true (by omega)
    have hl1 := hl (dlF (σ 40) (σ 38) (σ 41) b i (legF (σ 36) i) a j)
    have hdn := @dnF_le (σ 40) (σ 38) i (legF (σ 36) i) a j
    by_cases hs : σ 40 (10 * i + carF (σ 38) (legF (σ 36) i) (a + j)) = -1
    · rw [dnF, dlF, if_pos hs, if_pos hs] at i1
      generalize dlF (σ 40) (σ 38) (σ 41) b i (legF (σ 36) i) a j = f at *
      simp (disch := omega) only [s124_122, s124_123, s124_126, s124_127, s124_128, s124_131, s124_132, s124_135, s124_137, s124_138, s124_139, s124_140, s124_143, s124_145, s124_146, s124_147, s124_150, s124_151, s124_153, s124_154, s124_155, s124_156, s124_158, s124_159, s124_162, s124_164, s124_165, s124_166, s124_167, s124_170, s124_172, s124_173, s124_174, s124_177, s124_178, s124_181, s124_182, s124_183, s124_184, s124_186, s124_187, s124_190, s124_192, s124_193, s124_194, s124_197, s124_198, s124_201, s124_202, s124_203, s124_205, s124_208, eq_self, bnd_l, bnd_r, Option.toList_some, Option.toList_none, List.cons_append, List.nil_append, Nat.add_zero, Nat.zero_add, ↓reduceIte, nI_add, nI_mul, nI_subI, lt_t, lt_f, eq_f, lt_m1, m1_lt, eq_m1, m1_eq, sA_ne, sA_eq, hl1, hlt, hk', e1, hs, u2_sA]
      exact i1 _
    · rw [dnF, dlF, if_neg hs, if_neg hs] at i1
      generalize dlF (σ 40) (σ 38) (σ 41) b i (legF (σ 36) i) a j = f at *
      simp (disch := omega) only [s124_122, s124_123, s124_126, s124_127, s124_128, s124_131, s124_132, s124_135, s124_137, s124_138, s124_139, s124_140, s124_143, s124_145, s124_146, s124_147, s124_150, s124_151, s124_153, s124_154, s124_155, s124_156, s124_158, s124_159, s124_162, s124_164, s124_165, s124_166, s124_167, s124_170, s124_172, s124_173, s124_174, s124_177, s124_178, s124_181, s124_182, s124_183, s124_184, s124_186, s124_187, s124_190, s124_192, s124_193, s124_194, s124_197, s124_198, s124_201, s124_202, s124_203, s124_205, s124_208, eq_self, bnd_l, bnd_r, Option.toList_some, Option.toList_none, List.cons_append, List.nil_append, Nat.add_zero, Nat.zero_add, ↓reduceIte, nI_add, nI_mul, nI_subI, lt_t, lt_f, eq_f, lt_m1, m1_lt, eq_m1, m1_eq, sA_ne, sA_eq, hl1, hlt, hk', e1, hs, u2_sA, upd_self0]
      exact i1 _
theorem q_delay1 {N : Nat} {a b m : Int32} (hR : σ 35 1 = nI N) (hN : N ≤ 20) (ha : ¬ (inR a N ∧ inR b 10)) : exC X 124 [.ref 35, .int a, .int b, .int m] (WW σ t) = ans (nI 0) (WW (u2 σ 35 0 (nI 1)) t) := by
  rw [ent_124]
  by_cases h1 : inR b 10
  · have h2 : ¬ inR a N := fun z => ha ⟨z, h1⟩
    obtain ⟨j, hj, rfl⟩ := h1
    have i0 := isCar_in (X := X) (h := WW σ t) hj
    have i1 := isItem_no (X := X) (t := t) hR hN h2
    simp (disch := omega) only [s124_0, s124_1, s124_4, s124_7, s124_8, s124_9, s124_12, s124_15, s124_16, s124_19, s124_20, s124_22, s124_24, s124_27, s124_28, s124_31, s124_32, s124_33, s124_34, s124_37, s124_38, s124_39, s124_41, s124_44, s124_47, s124_48, s124_51, s124_52, s124_54, s124_56, s124_59, s124_60, s124_61, s124_62, s124_65, s124_66, s124_69, s124_72, s124_73, s124_75, s124_76, s124_78, s124_81, s124_82, s124_85, s124_87, s124_90, s124_91, s124_94, s124_96, s124_97, s124_100, s124_101, s124_104, s124_105, s124_108, s124_111, s124_112, s124_113, s124_114, s124_116, s124_118, s124_122, s124_123, s124_126, s124_127, s124_128, s124_131, s124_132, s124_135, s124_137, s124_138, s124_139, s124_140, s124_143, s124_145, s124_146, s124_147, s124_150, s124_151, s124_153, s124_154, s124_155, s124_156, s124_158, s124_159, s124_162, s124_164, s124_165, s124_166, s124_167, s124_170, s124_172, s124_173, s124_174, s124_177, s124_178, s124_181, s124_182, s124_183, s124_184, s124_186, s124_187, s124_190, s124_192, s124_193, s124_194, s124_197, s124_198, s124_201, s124_202, s124_203, s124_205, s124_208, s124_211, s124_213, eq_self, bnd_l, bnd_r, Option.toList_some, Option.toList_none, List.cons_append, List.nil_append, Nat.add_zero, Nat.zero_add, ↓reduceIte, nI_add, nI_mul, nI_subI, lt_t, lt_f, eq_f, lt_m1, m1_lt, eq_m1, m1_eq, i0, i1, c_holds]
  · have i0 := isCar_no (X := X) (h := WW σ t) h1
    simp (disch := omega) only [s124_0, s124_1, s124_4, s124_7, s124_8, s124_9, s124_12, s124_15, s124_16, s124_19, s124_20, s124_22, s124_24, s124_27, s124_28, s124_31, s124_32, s124_33, s124_34, s124_37, s124_38, s124_39, s124_41, s124_44, s124_47, s124_48, s124_51, s124_52, s124_54, s124_56, s124_59, s124_60, s124_61, s124_62, s124_65, s124_66, s124_69, s124_72, s124_73, s124_75, s124_76, s124_78, s124_81, s124_82, s124_85, s124_87, s124_90, s124_91, s124_94, s124_96, s124_97, s124_100, s124_101, s124_104, s124_105, s124_108, s124_111, s124_112, s124_113, s124_114, s124_116, s124_118, s124_122, s124_123, s124_126, s124_127, s124_128, s124_131, s124_132, s124_135, s124_137, s124_138, s124_139, s124_140, s124_143, s124_145, s124_146, s124_147, s124_150, s124_151, s124_153, s124_154, s124_155, s124_156, s124_158, s124_159, s124_162, s124_164, s124_165, s124_166, s124_167, s124_170, s124_172, s124_173, s124_174, s124_177, s124_178, s124_181, s124_182, s124_183, s124_184, s124_186, s124_187, s124_190, s124_192, s124_193, s124_194, s124_197, s124_198, s124_201, s124_202, s124_203, s124_205, s124_208, s124_211, s124_213, eq_self, bnd_l, bnd_r, Option.toList_some, Option.toList_none, List.cons_append, List.nil_append, Nat.add_zero, Nat.zero_add, ↓reduceIte, nI_add, nI_mul, nI_subI, lt_t, lt_f, eq_f, lt_m1, m1_lt, eq_m1, m1_eq, i0, c_holds]
/-- a delay's minutes are right -/
def okD (m : Int32) : Prop := ∃ j, 1 ≤ j ∧ j ≤ 60 ∧ m = nI j
theorem isIn_d {m : Int32} (hm : ¬ okD m) : exC X 109 [.int m, .int (nI 1), .int (nI 60)] h = ans (nI 0) h := by
  rw [c_isIn]
  by_cases h1 : m < nI 1
  · rw [if_pos h1]
  · rw [if_neg h1]
    by_cases h2 : nI 60 < m
    · rw [if_pos h2]
    · refine absurd ?_ hm
      have h3 : ¬ m < nI 0 := fun z => h1 (by
        rw [Int32.lt_iff_toInt_lt] at z ⊢
        rw [nI_toInt (by omega)] at z ⊢
        omega)
      obtain ⟨j, hj, rfl⟩ := inR_of (n := 60) (by omega) h3 h2
      refine ⟨j, ?_, by omega, rfl⟩
      by_cases hj1 : 1 ≤ j
      · exact hj1
      · exact absurd (nI_lt (by omega) (by omega)) h1
theorem q_delay2 {N c i : Nat} {m : Int32} (hR : σ 35 1 = nI N) (hN : N ≤ 20) (hc : c < 10) (hi : i < N) (hb : ¬ (σ 36 i = nI 1 ∧ okD m)) : exC X 124 [.ref 35, .int (nI i), .int (nI c), .int m] (WW σ t) = ans (nI 0) (WW (u2 σ 35 0 (nI 2)) t) := by
  rw [ent_124]
  have i0 := isCar_in (X := X) (h := WW σ t) hc
  have i1 := isItem_in (X := X) (t := t) hR hN hi
  by_cases hk : σ 36 i = nI 1
  · have i2 := isIn_d (X := X) (h := WW σ t) (fun z => hb ⟨hk, z⟩)
    simp (disch := omega) only [s124_0, s124_1, s124_4, s124_7, s124_8, s124_9, s124_12, s124_15, s124_16, s124_19, s124_20, s124_22, s124_24, s124_27, s124_28, s124_31, s124_32, s124_33, s124_34, s124_37, s124_38, s124_39, s124_41, s124_44, s124_47, s124_48, s124_51, s124_52, s124_54, s124_56, s124_59, s124_60, s124_61, s124_62, s124_65, s124_66, s124_69, s124_72, s124_73, s124_75, s124_76, s124_78, s124_81, s124_82, s124_85, s124_87, s124_90, s124_91, s124_94, s124_96, s124_97, s124_100, s124_101, s124_104, s124_105, s124_108, s124_111, s124_112, s124_113, s124_114, s124_116, s124_118, s124_122, s124_123, s124_126, s124_127, s124_128, s124_131, s124_132, s124_135, s124_137, s124_138, s124_139, s124_140, s124_143, s124_145, s124_146, s124_147, s124_150, s124_151, s124_153, s124_154, s124_155, s124_156, s124_158, s124_159, s124_162, s124_164, s124_165, s124_166, s124_167, s124_170, s124_172, s124_173, s124_174, s124_177, s124_178, s124_181, s124_182, s124_183, s124_184, s124_186, s124_187, s124_190, s124_192, s124_193, s124_194, s124_197, s124_198, s124_201, s124_202, s124_203, s124_205, s124_208, s124_211, s124_213, eq_self, bnd_l, bnd_r, Option.toList_some, Option.toList_none, List.cons_append, List.nil_append, Nat.add_zero, Nat.zero_add, ↓reduceIte, nI_add, nI_mul, nI_subI, lt_t, lt_f, eq_f, lt_m1, m1_lt, eq_m1, m1_eq, i0, i1, i2, c_holds, hk]
  · simp (disch := omega) only [s124_0, s124_1, s124_4, s124_7, s124_8, s124_9, s124_12, s124_15, s124_16, s124_19, s124_20, s124_22, s124_24, s124_27, s124_28, s124_31, s124_32, s124_33, s124_34, s124_37, s124_38, s124_39, s124_41, s124_44, s124_47, s124_48, s124_51, s124_52, s124_54, s124_56, s124_59, s124_60, s124_61, s124_62, s124_65, s124_66, s124_69, s124_72, s124_73, s124_75, s124_76, s124_78, s124_81, s124_82, s124_85, s124_87, s124_90, s124_91, s124_94, s124_96, s124_97, s124_100, s124_101, s124_104, s124_105, s124_108, s124_111, s124_112, s124_113, s124_114, s124_116, s124_118, s124_122, s124_123, s124_126, s124_127, s124_128, s124_131, s124_132, s124_135, s124_137, s124_138, s124_139, s124_140, s124_143, s124_145, s124_146, s124_147, s124_150, s124_151, s124_153, s124_154, s124_155, s124_156, s124_158, s124_159, s124_162, s124_164, s124_165, s124_166, s124_167, s124_170, s124_172, s124_173, s124_174, s124_177, s124_178, s124_181, s124_182, s124_183, s124_184, s124_186, s124_187, s124_190, s124_192, s124_193, s124_194, s124_197, s124_198, s124_201, s124_202, s124_203, s124_205, s124_208, s124_211, s124_213, eq_self, bnd_l, bnd_r, Option.toList_some, Option.toList_none, List.cons_append, List.nil_append, Nat.add_zero, Nat.zero_add, ↓reduceIte, nI_add, nI_mul, nI_subI, lt_t, lt_f, eq_f, lt_m1, m1_lt, eq_m1, m1_eq, i0, i1, c_holds, hk]
theorem q_delay3 {N c i : Nat} {m : Int32} (hR : RK σ N) (hc : c < 10) (hi : i < N) (hk : σ 36 i = nI 1) (hm : okD m) (hp : plcF (fun k => σ 38 (10 * legF (σ 36) i + k)) (nI c) (cnt (σ 39 (legF (σ 36) i))) = -1) : exC X 124 [.ref 35, .int (nI i), .int (nI c), .int m] (WW σ t) = ans (nI 0) (WW (u2 σ 35 0 (nI 3)) t) := by
  rw [ent_124]
  have hN := hR.1
  have h0 := hR.2.2.1 (by omega)
  have hg := legF_le (σ 36) i
  have hO := hR.2.2.2 (legF (σ 36) i) (by omega)
  have i0 := isCar_in (X := X) (h := WW σ t) hc
  have i1 := isItem_in (X := X) (t := t) hR.2.1 hN hi
  have hl := c_legOf (X := X) (t := t) (by omega) h0 (i := i)
  have hpl := c_placeIn (X := X) (t := t) (car := nI c) (by omega : legF (σ 36) i < 20) hO.1
  obtain ⟨j, hj1, hj2, rfl⟩ := hm
  have i2 : exC X 109 [.int (nI j), .int (nI 1), .int (nI 60)] (WW σ t) = ans (nI 1) (WW σ t) := isIn_in (by omega) (by omega) (by omega)
  simp (disch := omega) only [s124_0, s124_1, s124_4, s124_7, s124_8, s124_9, s124_12, s124_15, s124_16, s124_19, s124_20, s124_22, s124_24, s124_27, s124_28, s124_31, s124_32, s124_33, s124_34, s124_37, s124_38, s124_39, s124_41, s124_44, s124_47, s124_48, s124_51, s124_52, s124_54, s124_56, s124_59, s124_60, s124_61, s124_62, s124_65, s124_66, s124_69, s124_72, s124_73, s124_75, s124_76, s124_78, s124_81, s124_82, s124_85, s124_87, s124_90, s124_91, s124_94, s124_96, s124_97, s124_100, s124_101, s124_104, s124_105, s124_108, s124_111, s124_112, s124_113, s124_114, s124_116, s124_118, s124_122, s124_123, s124_126, s124_127, s124_128, s124_131, s124_132, s124_135, s124_137, s124_138, s124_139, s124_140, s124_143, s124_145, s124_146, s124_147, s124_150, s124_151, s124_153, s124_154, s124_155, s124_156, s124_158, s124_159, s124_162, s124_164, s124_165, s124_166, s124_167, s124_170, s124_172, s124_173, s124_174, s124_177, s124_178, s124_181, s124_182, s124_183, s124_184, s124_186, s124_187, s124_190, s124_192, s124_193, s124_194, s124_197, s124_198, s124_201, s124_202, s124_203, s124_205, s124_208, s124_211, s124_213, eq_self, bnd_l, bnd_r, Option.toList_some, Option.toList_none, List.cons_append, List.nil_append, Nat.add_zero, Nat.zero_add, ↓reduceIte, nI_add, nI_mul, nI_subI, lt_t, lt_f, eq_f, lt_m1, m1_lt, eq_m1, m1_eq, i0, i1, i2, c_holds, hk, hl, hpl, hp]
theorem q_delay0 {N c i a : Nat} {m : Int32} (hR : RK σ N) (hc : c < 10) (hi : i < N) (hk : σ 36 i = nI 1) (hm : okD m) (ha : a < cnt (σ 39 (legF (σ 36) i))) (hp : plcF (fun k => σ 38 (10 * legF (σ 36) i + k)) (nI c) (cnt (σ 39 (legF (σ 36) i))) = nI a) : exC X 124 [.ref 35, .int (nI i), .int (nI c), .int m] (WW σ t) =
    ans (nI (dnF (σ 40) (σ 38) i (legF (σ 36) i) a (cnt (σ 39 (legF (σ 36) i)) - a))) (WW (sA (u2 σ 35 0 (nI 0)) 41 (dlF (σ 40) (σ 38) (σ 41) m i (legF (σ 36) i) a (cnt (σ 39 (legF (σ 36) i)) - a))) t) := by
  rw [ent_124]
  have hN := hR.1
  have h0 := hR.2.2.1 (by omega)
  have hg := legF_le (σ 36) i
  have hO := hR.2.2.2 (legF (σ 36) i) (by omega)
  have hle := okM_le hO.1
  have i0 := isCar_in (X := X) (h := WW σ t) hc
  have i1 := isItem_in (X := X) (t := t) hR.2.1 hN hi
  have hl := c_legOf (X := X) (t := t) (by omega) h0 (i := i)
  have hpl := c_placeIn (X := X) (t := t) (car := nI c) (by omega : legF (σ 36) i < 20) hO.1
  have i2 : exC X 109 [.int m, .int (nI 1), .int (nI 60)] (WW σ t) = ans (nI 1) (WW σ t) := by
    obtain ⟨j, hj1, hj2, rfl⟩ := hm
    exact isIn_in (by omega) (by omega) (by omega)
  have hL := l_delay (X := X) (σ := (u2 σ 35 0 (nI 0))) (t := t) (i := i) (a := a) (N := N) (c := c) (b := m) hR hi rfl (cnt (σ 39 (legF (σ 36) i)) - a) 0 (show a + 0 + (cnt (σ 39 (legF (σ 36) i)) - a) = cnt (σ 39 (legF (σ 36) i)) by omega) none
  rw [show dlF ((u2 σ 35 0 (nI 0)) 40) ((u2 σ 35 0 (nI 0)) 38) ((u2 σ 35 0 (nI 0)) 41) m i (legF ((u2 σ 35 0 (nI 0)) 36) i) a 0 = (u2 σ 35 0 (nI 0)) 41 from rfl, sA_self, dnF, Nat.add_zero] at hL
  simp (disch := omega) only [s124_0, s124_1, s124_4, s124_7, s124_8, s124_9, s124_12, s124_15, s124_16, s124_19, s124_20, s124_22, s124_24, s124_27, s124_28, s124_31, s124_32, s124_33, s124_34, s124_37, s124_38, s124_39, s124_41, s124_44, s124_47, s124_48, s124_51, s124_52, s124_54, s124_56, s124_59, s124_60, s124_61, s124_62, s124_65, s124_66, s124_69, s124_72, s124_73, s124_75, s124_76, s124_78, s124_81, s124_82, s124_85, s124_87, s124_90, s124_91, s124_94, s124_96, s124_97, s124_100, s124_101, s124_104, s124_105, s124_108, s124_111, s124_112, s124_113, s124_114, s124_116, s124_118, s124_122, s124_123, s124_126, s124_127, s124_128, s124_131, s124_132, s124_135, s124_137, s124_138, s124_139, s124_140, s124_143, s124_145, s124_146, s124_147, s124_150, s124_151, s124_153, s124_154, s124_155, s124_156, s124_158, s124_159, s124_162, s124_164, s124_165, s124_166, s124_167, s124_170, s124_172, s124_173, s124_174, s124_177, s124_178, s124_181, s124_182, s124_183, s124_184, s124_186, s124_187, s124_190, s124_192, s124_193, s124_194, s124_197, s124_198, s124_201, s124_202, s124_203, s124_205, s124_208, s124_211, s124_213, eq_self, bnd_l, bnd_r, Option.toList_some, Option.toList_none, List.cons_append, List.nil_append, Nat.add_zero, Nat.zero_add, ↓reduceIte, nI_add, nI_mul, nI_subI, lt_t, lt_f, eq_f, lt_m1, m1_lt, eq_m1, m1_eq, i0, i1, i2, c_holds, hk, hl, hpl, hp]
  exact hL
/-! what is told of a stage -/
/-- a minute, or none -/
def stM (x : Int32) : Prop := x = -1 ∨ ∃ m, m ≤ 2000 ∧ x = nI m
theorem startF_m {sp : Nat → Int32} {c i m : Nat} (h : sp (10 * (i - 1) + c) = nI m) (hm : m ≤ 2000) : startF sp c i = nI (600 * (m + 3)) := by
  unfold startF
  rw [h, if_neg (by rw [eq_m1 (by omega)]; exact id), nI_add, nI_mul]
theorem r_wrong1 {N : Nat} {a b z : Int32} (hR : σ 35 1 = nI N) (hN : N ≤ 20) (ha : ¬ (inR a 10 ∧ inR b N)) : exC X 132 [.ref 35, .int a, .int b, .int z] (WW σ t) = ans (nI 1) (WW σ t) := by
  rw [ent_132]
  by_cases h1 : inR a 10
  · have h2 : ¬ inR b N := fun z => ha ⟨h1, z⟩
    obtain ⟨j, hj, rfl⟩ := h1
    have i0 := isCar_in (X := X) (h := WW σ t) hj
    have i1 := isItem_no (X := X) (t := t) hR hN h2
    simp (disch := omega) only [s132_0, s132_1, s132_4, s132_7, s132_8, s132_9, s132_12, s132_15, s132_16, s132_19, s132_20, s132_22, s132_24, s132_27, s132_28, s132_29, s132_30, s132_33, s132_34, s132_35, s132_36, s132_39, s132_40, s132_43, s132_44, s132_47, s132_48, s132_49, s132_50, s132_53, s132_54, s132_57, s132_58, s132_61, s132_62, eq_self, bnd_l, bnd_r, Option.toList_some, Option.toList_none, List.cons_append, List.nil_append, Nat.add_zero, Nat.zero_add, ↓reduceIte, nI_add, nI_mul, nI_subI, lt_t, lt_f, eq_f, lt_m1, m1_lt, eq_m1, m1_eq, i0, i1]
  · have i0 := isCar_no (X := X) (h := WW σ t) h1
    simp (disch := omega) only [s132_0, s132_1, s132_4, s132_7, s132_8, s132_9, s132_12, s132_15, s132_16, s132_19, s132_20, s132_22, s132_24, s132_27, s132_28, s132_29, s132_30, s132_33, s132_34, s132_35, s132_36, s132_39, s132_40, s132_43, s132_44, s132_47, s132_48, s132_49, s132_50, s132_53, s132_54, s132_57, s132_58, s132_61, s132_62, eq_self, bnd_l, bnd_r, Option.toList_some, Option.toList_none, List.cons_append, List.nil_append, Nat.add_zero, Nat.zero_add, ↓reduceIte, nI_add, nI_mul, nI_subI, lt_t, lt_f, eq_f, lt_m1, m1_lt, eq_m1, m1_eq, i0]
theorem r_wrong2 {N c i : Nat} {z : Int32} (hR : σ 35 1 = nI N) (hN : N ≤ 20) (hc : c < 10) (hi : i < N) (hb : ¬ (σ 36 i = nI 2 ∧ z = nI 1)) (hz : z = nI 0 ∨ z = nI 1) : exC X 132 [.ref 35, .int (nI c), .int (nI i), .int z] (WW σ t) = ans (nI 2) (WW σ t) := by
  rw [ent_132]
  have i0 := isCar_in (X := X) (h := WW σ t) hc
  have i1 := isItem_in (X := X) (t := t) hR hN hi
  by_cases hk : σ 36 i = nI 2
  · rcases hz with rfl | rfl
    · simp (disch := omega) only [s132_0, s132_1, s132_4, s132_7, s132_8, s132_9, s132_12, s132_15, s132_16, s132_19, s132_20, s132_22, s132_24, s132_27, s132_28, s132_29, s132_30, s132_33, s132_34, s132_35, s132_36, s132_39, s132_40, s132_43, s132_44, s132_47, s132_48, s132_49, s132_50, s132_53, s132_54, s132_57, s132_58, s132_61, s132_62, eq_self, bnd_l, bnd_r, Option.toList_some, Option.toList_none, List.cons_append, List.nil_append, Nat.add_zero, Nat.zero_add, ↓reduceIte, nI_add, nI_mul, nI_subI, lt_t, lt_f, eq_f, lt_m1, m1_lt, eq_m1, m1_eq, i0, i1, hk]
    · exact absurd ⟨hk, rfl⟩ hb
  · simp (disch := omega) only [s132_0, s132_1, s132_4, s132_7, s132_8, s132_9, s132_12, s132_15, s132_16, s132_19, s132_20, s132_22, s132_24, s132_27, s132_28, s132_29, s132_30, s132_33, s132_34, s132_35, s132_36, s132_39, s132_40, s132_43, s132_44, s132_47, s132_48, s132_49, s132_50, s132_53, s132_54, s132_57, s132_58, s132_61, s132_62, eq_self, bnd_l, bnd_r, Option.toList_some, Option.toList_none, List.cons_append, List.nil_append, Nat.add_zero, Nat.zero_add, ↓reduceIte, nI_add, nI_mul, nI_subI, lt_t, lt_f, eq_f, lt_m1, m1_lt, eq_m1, m1_eq, i0, i1, hk]
theorem r_wrong3 {N c i : Nat} (hR : RK σ N) (hc : c < 10) (hi : i < N) (hk : σ 36 i = nI 2) (hs : σ 40 (10 * (i - 1) + c) = -1) : exC X 132 [.ref 35, .int (nI c), .int (nI i), .int (nI 1)] (WW σ t) = ans (nI 3) (WW σ t) := by
  rw [ent_132]
  have hN := hR.1
  have i0 := isCar_in (X := X) (h := WW σ t) hc
  have i1 := isItem_in (X := X) (t := t) hR.2.1 hN hi
  have i2 := c_startOf (X := X) (σ := σ) (t := t) hc (stage_pos hR hi hk) (by omega : i < 20)
  have hz : startF (σ 40) c i = -1 := if_pos hs
  simp (disch := omega) only [s132_0, s132_1, s132_4, s132_7, s132_8, s132_9, s132_12, s132_15, s132_16, s132_19, s132_20, s132_22, s132_24, s132_27, s132_28, s132_29, s132_30, s132_33, s132_34, s132_35, s132_36, s132_39, s132_40, s132_43, s132_44, s132_47, s132_48, s132_49, s132_50, s132_53, s132_54, s132_57, s132_58, s132_61, s132_62, eq_self, bnd_l, bnd_r, Option.toList_some, Option.toList_none, List.cons_append, List.nil_append, Nat.add_zero, Nat.zero_add, ↓reduceIte, nI_add, nI_mul, nI_subI, lt_t, lt_f, eq_f, lt_m1, m1_lt, eq_m1, m1_eq, i0, i1, i2, hk, hz]
theorem r_wrong0 {N c i : Nat} (hR : RK σ N) (hc : c < 10) (hi : i < N) (hk : σ 36 i = nI 2) (hS : stM (σ 40 (10 * (i - 1) + c))) (hs : ¬ σ 40 (10 * (i - 1) + c) = -1) : exC X 132 [.ref 35, .int (nI c), .int (nI i), .int (nI 1)] (WW σ t) = ans (nI 0) (WW σ t) := by
  rw [ent_132]
  have hN := hR.1
  have i0 := isCar_in (X := X) (h := WW σ t) hc
  have i1 := isItem_in (X := X) (t := t) hR.2.1 hN hi
  have i2 := c_startOf (X := X) (σ := σ) (t := t) hc (stage_pos hR hi hk) (by omega : i < 20)
  rcases hS with z | ⟨m, hm, z⟩
  · exact absurd z hs
  · have hz := startF_m z hm
    simp (disch := omega) only [s132_0, s132_1, s132_4, s132_7, s132_8, s132_9, s132_12, s132_15, s132_16, s132_19, s132_20, s132_22, s132_24, s132_27, s132_28, s132_29, s132_30, s132_33, s132_34, s132_35, s132_36, s132_39, s132_40, s132_43, s132_44, s132_47, s132_48, s132_49, s132_50, s132_53, s132_54, s132_57, s132_58, s132_61, s132_62, eq_self, bnd_l, bnd_r, Option.toList_some, Option.toList_none, List.cons_append, List.nil_append, Nat.add_zero, Nat.zero_add, ↓reduceIte, nI_add, nI_mul, nI_subI, lt_t, lt_f, eq_f, lt_m1, m1_lt, eq_m1, m1_eq, i0, i1, i2, hk, hz]
/-- a finish is in its range -/
theorem fin_in {x : Int32} (hx : inR x 2000001) : exC X 109 [.int x, .int (nI 0), .int (nI 2000000)] h = ans (nI 1) h := by
  obtain ⟨j, hj, rfl⟩ := hx
  exact isIn_in (by omega) (by omega) (by omega)
theorem fin_no {x : Int32} (hx : ¬ inR x 2000001) : exC X 109 [.int x, .int (nI 0), .int (nI 2000000)] h = ans (nI 0) h := isIn_no (by omega) hx
theorem q_finish1 {N : Nat} {a b z x : Int32} (hR : σ 35 1 = nI N) (hN : N ≤ 20) (ha : ¬ (inR a 10 ∧ inR b N)) : exC X 133 [.ref 35, .int a, .int b, .int z, .int x] (WW σ t) = ansV (WW (u2 σ 35 0 (nI 1)) t) := by
  rw [ent_133]
  have iw := fun z => r_wrong1 (X := X) (t := t) (z := z) hR hN ha
  by_cases hx : inR x 2000001
  · have i0 := fin_in (X := X) (h := WW σ t) hx
    simp (disch := omega) only [s133_0, s133_1, s133_2, s133_3, s133_5, s133_6, s133_8, s133_11, s133_14, s133_16, s133_17, s133_19, s133_22, s133_24, s133_27, s133_29, s133_30, s133_31, s133_32, s133_35, s133_38, s133_39, s133_42, s133_43, s133_46, s133_49, s133_50, s133_51, s133_54, s133_55, s133_58, s133_60, s133_61, s133_62, s133_63, s133_64, s133_66, s133_67, s133_70, s133_71, s133_74, s133_76, s133_77, s133_78, s133_79, s133_80, s133_82, s133_83, eq_self, bnd_l, bnd_r, Option.toList_some, Option.toList_none, List.cons_append, List.nil_append, Nat.add_zero, Nat.zero_add, ↓reduceIte, nI_add, nI_mul, nI_subI, lt_t, lt_f, eq_f, lt_m1, m1_lt, eq_m1, m1_eq, i0, iw, c_holds]
  · have i0 := fin_no (X := X) (h := WW σ t) hx
    simp (disch := omega) only [s133_0, s133_1, s133_2, s133_3, s133_5, s133_6, s133_8, s133_11, s133_14, s133_16, s133_17, s133_19, s133_22, s133_24, s133_27, s133_29, s133_30, s133_31, s133_32, s133_35, s133_38, s133_39, s133_42, s133_43, s133_46, s133_49, s133_50, s133_51, s133_54, s133_55, s133_58, s133_60, s133_61, s133_62, s133_63, s133_64, s133_66, s133_67, s133_70, s133_71, s133_74, s133_76, s133_77, s133_78, s133_79, s133_80, s133_82, s133_83, eq_self, bnd_l, bnd_r, Option.toList_some, Option.toList_none, List.cons_append, List.nil_append, Nat.add_zero, Nat.zero_add, ↓reduceIte, nI_add, nI_mul, nI_subI, lt_t, lt_f, eq_f, lt_m1, m1_lt, eq_m1, m1_eq, i0, iw, c_holds]
theorem q_finish2 {N c i : Nat} {z x : Int32} (hR : σ 35 1 = nI N) (hN : N ≤ 20) (hc : c < 10) (hi : i < N) (hb : ¬ (σ 36 i = nI 2 ∧ inR x 2000001)) : exC X 133 [.ref 35, .int (nI c), .int (nI i), .int z, .int x] (WW σ t) = ansV (WW (u2 σ 35 0 (nI 2)) t) := by
  rw [ent_133]
  by_cases hx : inR x 2000001
  · have i0 := fin_in (X := X) (h := WW σ t) hx
    have iw := r_wrong2 (X := X) (t := t) (z := nI 1) hR hN hc hi (fun q => hb ⟨q.1, hx⟩) (Or.inr rfl)
    simp (disch := omega) only [s133_0, s133_1, s133_2, s133_3, s133_5, s133_6, s133_8, s133_11, s133_14, s133_16, s133_17, s133_19, s133_22, s133_24, s133_27, s133_29, s133_30, s133_31, s133_32, s133_35, s133_38, s133_39, s133_42, s133_43, s133_46, s133_49, s133_50, s133_51, s133_54, s133_55, s133_58, s133_60, s133_61, s133_62, s133_63, s133_64, s133_66, s133_67, s133_70, s133_71, s133_74, s133_76, s133_77, s133_78, s133_79, s133_80, s133_82, s133_83, eq_self, bnd_l, bnd_r, Option.toList_some, Option.toList_none, List.cons_append, List.nil_append, Nat.add_zero, Nat.zero_add, ↓reduceIte, nI_add, nI_mul, nI_subI, lt_t, lt_f, eq_f, lt_m1, m1_lt, eq_m1, m1_eq, i0, iw, c_holds]
  · have i0 := fin_no (X := X) (h := WW σ t) hx
    have iw := r_wrong2 (X := X) (t := t) (z := nI 0) hR hN hc hi (fun q => by have := q.2; rw [eq_f (by omega) (by omega) (by omega)] at this; exact this) (Or.inl rfl)
    simp (disch := omega) only [s133_0, s133_1, s133_2, s133_3, s133_5, s133_6, s133_8, s133_11, s133_14, s133_16, s133_17, s133_19, s133_22, s133_24, s133_27, s133_29, s133_30, s133_31, s133_32, s133_35, s133_38, s133_39, s133_42, s133_43, s133_46, s133_49, s133_50, s133_51, s133_54, s133_55, s133_58, s133_60, s133_61, s133_62, s133_63, s133_64, s133_66, s133_67, s133_70, s133_71, s133_74, s133_76, s133_77, s133_78, s133_79, s133_80, s133_82, s133_83, eq_self, bnd_l, bnd_r, Option.toList_some, Option.toList_none, List.cons_append, List.nil_append, Nat.add_zero, Nat.zero_add, ↓reduceIte, nI_add, nI_mul, nI_subI, lt_t, lt_f, eq_f, lt_m1, m1_lt, eq_m1, m1_eq, i0, iw, c_holds]
theorem q_finish3 {N c i : Nat} {z x : Int32} (hR : RK σ N) (hc : c < 10) (hi : i < N) (hk : σ 36 i = nI 2) (hx : inR x 2000001) (hS : stM (σ 40 (10 * (i - 1) + c))) (hs : σ 40 (10 * (i - 1) + c) = -1 ∨ x < startF (σ 40) c i) : exC X 133 [.ref 35, .int (nI c), .int (nI i), .int z, .int x] (WW σ t) = ansV (WW (u2 σ 35 0 (nI 3)) t) := by
  rw [ent_133]
  have hN := hR.1
  have i0 := fin_in (X := X) (h := WW σ t) hx
  by_cases h1 : σ 40 (10 * (i - 1) + c) = -1
  · have iw := r_wrong3 (X := X) (t := t) hR hc hi hk h1
    simp (disch := omega) only [s133_0, s133_1, s133_2, s133_3, s133_5, s133_6, s133_8, s133_11, s133_14, s133_16, s133_17, s133_19, s133_22, s133_24, s133_27, s133_29, s133_30, s133_31, s133_32, s133_35, s133_38, s133_39, s133_42, s133_43, s133_46, s133_49, s133_50, s133_51, s133_54, s133_55, s133_58, s133_60, s133_61, s133_62, s133_63, s133_64, s133_66, s133_67, s133_70, s133_71, s133_74, s133_76, s133_77, s133_78, s133_79, s133_80, s133_82, s133_83, eq_self, bnd_l, bnd_r, Option.toList_some, Option.toList_none, List.cons_append, List.nil_append, Nat.add_zero, Nat.zero_add, ↓reduceIte, nI_add, nI_mul, nI_subI, lt_t, lt_f, eq_f, lt_m1, m1_lt, eq_m1, m1_eq, i0, iw, c_holds]
  · have h2 := hs.resolve_left h1
    have iw := r_wrong0 (X := X) (t := t) hR hc hi hk hS h1
    have i2 := c_startOf (X := X) (σ := σ) (t := t) hc (stage_pos hR hi hk) (by omega : i < 20)
    simp (disch := omega) only [s133_0, s133_1, s133_2, s133_3, s133_5, s133_6, s133_8, s133_11, s133_14, s133_16, s133_17, s133_19, s133_22, s133_24, s133_27, s133_29, s133_30, s133_31, s133_32, s133_35, s133_38, s133_39, s133_42, s133_43, s133_46, s133_49, s133_50, s133_51, s133_54, s133_55, s133_58, s133_60, s133_61, s133_62, s133_63, s133_64, s133_66, s133_67, s133_70, s133_71, s133_74, s133_76, s133_77, s133_78, s133_79, s133_80, s133_82, s133_83, eq_self, bnd_l, bnd_r, Option.toList_some, Option.toList_none, List.cons_append, List.nil_append, Nat.add_zero, Nat.zero_add, ↓reduceIte, nI_add, nI_mul, nI_subI, lt_t, lt_f, eq_f, lt_m1, m1_lt, eq_m1, m1_eq, i0, iw, i2, h2, c_holds]
theorem q_finish0 {N c i : Nat} {z x : Int32} (hR : RK σ N) (hc : c < 10) (hi : i < N) (hk : σ 36 i = nI 2) (hx : inR x 2000001) (hS : stM (σ 40 (10 * (i - 1) + c))) (h1 : ¬ σ 40 (10 * (i - 1) + c) = -1) (h2 : ¬ x < startF (σ 40) c i) : exC X 133 [.ref 35, .int (nI c), .int (nI i), .int z, .int x] (WW σ t) = ansV (WW (u2 (u2 σ 35 0 (nI 0)) (if z = nI 0 then 43 else 42) (10 * i + c) x) t) := by
  rw [ent_133]
  have hN := hR.1
  have i0 := fin_in (X := X) (h := WW σ t) hx
  have iw := r_wrong0 (X := X) (t := t) hR hc hi hk hS h1
  have i2 := c_startOf (X := X) (σ := σ) (t := t) hc (stage_pos hR hi hk) (by omega : i < 20)
  by_cases hz : z = nI 0
  · simp (disch := omega) only [s133_0, s133_1, s133_2, s133_3, s133_5, s133_6, s133_8, s133_11, s133_14, s133_16, s133_17, s133_19, s133_22, s133_24, s133_27, s133_29, s133_30, s133_31, s133_32, s133_35, s133_38, s133_39, s133_42, s133_43, s133_46, s133_49, s133_50, s133_51, s133_54, s133_55, s133_58, s133_60, s133_61, s133_62, s133_63, s133_64, s133_66, s133_67, s133_70, s133_71, s133_74, s133_76, s133_77, s133_78, s133_79, s133_80, s133_82, s133_83, eq_self, bnd_l, bnd_r, Option.toList_some, Option.toList_none, List.cons_append, List.nil_append, Nat.add_zero, Nat.zero_add, ↓reduceIte, nI_add, nI_mul, nI_subI, lt_t, lt_f, eq_f, lt_m1, m1_lt, eq_m1, m1_eq, i0, iw, i2, h2, c_holds, hz]
  · simp (disch := omega) only [s133_0, s133_1, s133_2, s133_3, s133_5, s133_6, s133_8, s133_11, s133_14, s133_16, s133_17, s133_19, s133_22, s133_24, s133_27, s133_29, s133_30, s133_31, s133_32, s133_35, s133_38, s133_39, s133_42, s133_43, s133_46, s133_49, s133_50, s133_51, s133_54, s133_55, s133_58, s133_60, s133_61, s133_62, s133_63, s133_64, s133_66, s133_67, s133_70, s133_71, s133_74, s133_76, s133_77, s133_78, s133_79, s133_80, s133_82, s133_83, eq_self, bnd_l, bnd_r, Option.toList_some, Option.toList_none, List.cons_append, List.nil_append, Nat.add_zero, Nat.zero_add, ↓reduceIte, nI_add, nI_mul, nI_subI, lt_t, lt_f, eq_f, lt_m1, m1_lt, eq_m1, m1_eq, i0, iw, i2, h2, c_holds, hz]
theorem q_held1 {N : Nat} {a b z : Int32} (hR : σ 35 1 = nI N) (hN : N ≤ 20) (ha : ¬ (inR a 10 ∧ inR b N)) : exC X 134 [.ref 35, .int a, .int b, .int z] (WW σ t) = ans (nI 0) (WW (u2 σ 35 0 (nI 1)) t) := by
  rw [ent_134]
  have iw := r_wrong1 (X := X) (t := t) (z := nI 1) hR hN ha
  simp (disch := omega) only [s134_0, s134_1, s134_2, s134_3, s134_4, s134_5, s134_8, s134_11, s134_14, s134_15, s134_16, s134_17, s134_20, s134_22, s134_23, s134_24, s134_25, s134_26, s134_27 nar0, s134_27 nar1, s134_28, s134_29, s134_30, s134_31, s134_34, eq_self, bnd_l, bnd_r, Option.toList_some, Option.toList_none, List.cons_append, List.nil_append, Nat.add_zero, Nat.zero_add, ↓reduceIte, nI_add, nI_mul, nI_subI, lt_t, lt_f, eq_f, lt_m1, m1_lt, eq_m1, m1_eq, iw, c_holds]
theorem q_held2 {N c i : Nat} {z : Int32} (hR : σ 35 1 = nI N) (hN : N ≤ 20) (hc : c < 10) (hi : i < N) (hb : ¬ σ 36 i = nI 2) : exC X 134 [.ref 35, .int (nI c), .int (nI i), .int z] (WW σ t) = ans (nI 0) (WW (u2 σ 35 0 (nI 2)) t) := by
  rw [ent_134]
  have iw := r_wrong2 (X := X) (t := t) (z := nI 1) hR hN hc hi (fun q => hb q.1) (Or.inr rfl)
  simp (disch := omega) only [s134_0, s134_1, s134_2, s134_3, s134_4, s134_5, s134_8, s134_11, s134_14, s134_15, s134_16, s134_17, s134_20, s134_22, s134_23, s134_24, s134_25, s134_26, s134_27 nar0, s134_27 nar1, s134_28, s134_29, s134_30, s134_31, s134_34, eq_self, bnd_l, bnd_r, Option.toList_some, Option.toList_none, List.cons_append, List.nil_append, Nat.add_zero, Nat.zero_add, ↓reduceIte, nI_add, nI_mul, nI_subI, lt_t, lt_f, eq_f, lt_m1, m1_lt, eq_m1, m1_eq, iw, c_holds]
theorem q_held3 {N c i : Nat} {z : Int32} (hR : RK σ N) (hc : c < 10) (hi : i < N) (hk : σ 36 i = nI 2) (h1 : σ 40 (10 * (i - 1) + c) = -1) : exC X 134 [.ref 35, .int (nI c), .int (nI i), .int z] (WW σ t) = ans (nI 0) (WW (u2 σ 35 0 (nI 3)) t) := by
  rw [ent_134]
  have iw := r_wrong3 (X := X) (t := t) hR hc hi hk h1
  simp (disch := omega) only [s134_0, s134_1, s134_2, s134_3, s134_4, s134_5, s134_8, s134_11, s134_14, s134_15, s134_16, s134_17, s134_20, s134_22, s134_23, s134_24, s134_25, s134_26, s134_27 nar0, s134_27 nar1, s134_28, s134_29, s134_30, s134_31, s134_34, eq_self, bnd_l, bnd_r, Option.toList_some, Option.toList_none, List.cons_append, List.nil_append, Nat.add_zero, Nat.zero_add, ↓reduceIte, nI_add, nI_mul, nI_subI, lt_t, lt_f, eq_f, lt_m1, m1_lt, eq_m1, m1_eq, iw, c_holds]
theorem q_held0 {N c i : Nat} {z : Int32} (hR : RK σ N) (hc : c < 10) (hi : i < N) (hk : σ 36 i = nI 2) (hS : stM (σ 40 (10 * (i - 1) + c))) (h1 : ¬ σ 40 (10 * (i - 1) + c) = -1) (hz : z = nI 0 ∨ z = nI 1) : exC X 134 [.ref 35, .int (nI c), .int (nI i), .int z] (WW σ t) = ans (tmR (u2 (u2 σ 35 0 (nI 0)) 44 (10 * i + c) z) i c) (WW (u2 (u2 σ 35 0 (nI 0)) 44 (10 * i + c) z) t) := by
  rw [ent_134]
  have hN := hR.1
  have iw := r_wrong0 (X := X) (t := t) hR hc hi hk hS h1
  have it := r_time (X := X) (σ := u2 (u2 σ 35 0 (nI 0)) 44 (10 * i + c) z) (t := t) (N := N) hR hc hi hk
  rcases hz with rfl | rfl
  · simp (disch := omega) only [s134_0, s134_1, s134_2, s134_3, s134_4, s134_5, s134_8, s134_11, s134_14, s134_15, s134_16, s134_17, s134_20, s134_22, s134_23, s134_24, s134_25, s134_26, s134_27 nar0, s134_27 nar1, s134_28, s134_29, s134_30, s134_31, s134_34, eq_self, bnd_l, bnd_r, Option.toList_some, Option.toList_none, List.cons_append, List.nil_append, Nat.add_zero, Nat.zero_add, ↓reduceIte, nI_add, nI_mul, nI_subI, lt_t, lt_f, eq_f, lt_m1, m1_lt, eq_m1, m1_eq, iw, it, c_holds]
  · simp (disch := omega) only [s134_0, s134_1, s134_2, s134_3, s134_4, s134_5, s134_8, s134_11, s134_14, s134_15, s134_16, s134_17, s134_20, s134_22, s134_23, s134_24, s134_25, s134_26, s134_27 nar0, s134_27 nar1, s134_28, s134_29, s134_30, s134_31, s134_34, eq_self, bnd_l, bnd_r, Option.toList_some, Option.toList_none, List.cons_append, List.nil_append, Nat.add_zero, Nat.zero_add, ↓reduceIte, nI_add, nI_mul, nI_subI, lt_t, lt_f, eq_f, lt_m1, m1_lt, eq_m1, m1_eq, iw, it, c_holds]
/-- an award is in its range -/
def okW (x : Int32) : Prop := x = -1 ∨ inR x 100000
theorem isIn_a {x : Int32} : (okW x → exC X 109 [.int x, .int (-1), .int (nI 99999)] h = ans (nI 1) h) ∧ (¬ okW x → exC X 109 [.int x, .int (-1), .int (nI 99999)] h = ans (nI 0) h) := by
  rw [c_isIn]
  constructor
  · rintro (rfl | ⟨j, hj, rfl⟩)
    · rw [if_neg (by decide +kernel), if_neg (by decide +kernel)]
    · rw [if_neg (by rw [lt_m1 (by omega)]; exact id), if_neg (nI_nlt (by omega) (by omega))]
  · intro hn
    by_cases h1 : x < -1
    · rw [if_pos h1]
    · rw [if_neg h1]
      by_cases h2 : nI 99999 < x
      · rw [if_pos h2]
      · refine absurd ?_ hn
        by_cases h3 : x < nI 0
        · refine Or.inl (Int32.toInt_inj.mp ?_)
          rw [Int32.lt_iff_toInt_lt] at h1 h3
          rw [m1_toInt] at h1 ⊢
          rw [nI_toInt (by omega)] at h3
          omega
        · exact Or.inr (inR_of (by omega) h3 h2)
theorem q_award1 {N : Nat} {a b x : Int32} (hR : σ 35 1 = nI N) (hN : N ≤ 20) (ha : ¬ (inR a 10 ∧ inR b N)) : exC X 135 [.ref 35, .int a, .int b, .int x] (WW σ t) = ans (nI 0) (WW (u2 σ 35 0 (nI 1)) t) := by
  rw [ent_135]
  have iw := fun z => r_wrong1 (X := X) (t := t) (z := z) hR hN ha
  by_cases hx : okW x
  · have i0 := isIn_a (X := X) (h := WW σ t).1 hx
    simp (disch := omega) only [s135_0, s135_1, s135_2, s135_3, s135_4, s135_5, s135_6, s135_8, s135_11, s135_14, s135_17, s135_20, s135_21, s135_22, s135_23, s135_26, s135_28, s135_29, s135_30, s135_31, s135_32, s135_33, s135_34, s135_35, s135_36, s135_37, s135_40, eq_self, bnd_l, bnd_r, Option.toList_some, Option.toList_none, List.cons_append, List.nil_append, Nat.add_zero, Nat.zero_add, ↓reduceIte, nI_add, nI_mul, nI_subI, lt_t, lt_f, eq_f, lt_m1, m1_lt, eq_m1, m1_eq, i0, iw, c_holds]
  · have i0 := isIn_a (X := X) (h := WW σ t).2 hx
    simp (disch := omega) only [s135_0, s135_1, s135_2, s135_3, s135_4, s135_5, s135_6, s135_8, s135_11, s135_14, s135_17, s135_20, s135_21, s135_22, s135_23, s135_26, s135_28, s135_29, s135_30, s135_31, s135_32, s135_33, s135_34, s135_35, s135_36, s135_37, s135_40, eq_self, bnd_l, bnd_r, Option.toList_some, Option.toList_none, List.cons_append, List.nil_append, Nat.add_zero, Nat.zero_add, ↓reduceIte, nI_add, nI_mul, nI_subI, lt_t, lt_f, eq_f, lt_m1, m1_lt, eq_m1, m1_eq, i0, iw, c_holds]
theorem q_award2 {N c i : Nat} {x : Int32} (hR : σ 35 1 = nI N) (hN : N ≤ 20) (hc : c < 10) (hi : i < N) (hb : ¬ (σ 36 i = nI 2 ∧ okW x)) : exC X 135 [.ref 35, .int (nI c), .int (nI i), .int x] (WW σ t) = ans (nI 0) (WW (u2 σ 35 0 (nI 2)) t) := by
  rw [ent_135]
  by_cases hx : okW x
  · have i0 := isIn_a (X := X) (h := WW σ t).1 hx
    have iw := r_wrong2 (X := X) (t := t) (z := nI 1) hR hN hc hi (fun q => hb ⟨q.1, hx⟩) (Or.inr rfl)
    simp (disch := omega) only [s135_0, s135_1, s135_2, s135_3, s135_4, s135_5, s135_6, s135_8, s135_11, s135_14, s135_17, s135_20, s135_21, s135_22, s135_23, s135_26, s135_28, s135_29, s135_30, s135_31, s135_32, s135_33, s135_34, s135_35, s135_36, s135_37, s135_40, eq_self, bnd_l, bnd_r, Option.toList_some, Option.toList_none, List.cons_append, List.nil_append, Nat.add_zero, Nat.zero_add, ↓reduceIte, nI_add, nI_mul, nI_subI, lt_t, lt_f, eq_f, lt_m1, m1_lt, eq_m1, m1_eq, i0, iw, c_holds]
  · have i0 := isIn_a (X := X) (h := WW σ t).2 hx
    have iw := r_wrong2 (X := X) (t := t) (z := nI 0) hR hN hc hi (fun q => by have := q.2; rw [eq_f (by omega) (by omega) (by omega)] at this; exact this) (Or.inl rfl)
    simp (disch := omega) only [s135_0, s135_1, s135_2, s135_3, s135_4, s135_5, s135_6, s135_8, s135_11, s135_14, s135_17, s135_20, s135_21, s135_22, s135_23, s135_26, s135_28, s135_29, s135_30, s135_31, s135_32, s135_33, s135_34, s135_35, s135_36, s135_37, s135_40, eq_self, bnd_l, bnd_r, Option.toList_some, Option.toList_none, List.cons_append, List.nil_append, Nat.add_zero, Nat.zero_add, ↓reduceIte, nI_add, nI_mul, nI_subI, lt_t, lt_f, eq_f, lt_m1, m1_lt, eq_m1, m1_eq, i0, iw, c_holds]
theorem q_award3 {N c i : Nat} {x : Int32} (hR : RK σ N) (hc : c < 10) (hi : i < N) (hk : σ 36 i = nI 2) (hx : okW x) (h1 : σ 40 (10 * (i - 1) + c) = -1) : exC X 135 [.ref 35, .int (nI c), .int (nI i), .int x] (WW σ t) = ans (nI 0) (WW (u2 σ 35 0 (nI 3)) t) := by
  rw [ent_135]
  have i0 := isIn_a (X := X) (h := WW σ t).1 hx
  have iw := r_wrong3 (X := X) (t := t) hR hc hi hk h1
  simp (disch := omega) only [s135_0, s135_1, s135_2, s135_3, s135_4, s135_5, s135_6, s135_8, s135_11, s135_14, s135_17, s135_20, s135_21, s135_22, s135_23, s135_26, s135_28, s135_29, s135_30, s135_31, s135_32, s135_33, s135_34, s135_35, s135_36, s135_37, s135_40, eq_self, bnd_l, bnd_r, Option.toList_some, Option.toList_none, List.cons_append, List.nil_append, Nat.add_zero, Nat.zero_add, ↓reduceIte, nI_add, nI_mul, nI_subI, lt_t, lt_f, eq_f, lt_m1, m1_lt, eq_m1, m1_eq, i0, iw, c_holds]
theorem q_award0 {N c i : Nat} {x : Int32} (hR : RK σ N) (hc : c < 10) (hi : i < N) (hk : σ 36 i = nI 2) (hx : okW x) (hS : stM (σ 40 (10 * (i - 1) + c))) (h1 : ¬ σ 40 (10 * (i - 1) + c) = -1) : exC X 135 [.ref 35, .int (nI c), .int (nI i), .int x] (WW σ t) = ans (tmR (u2 (u2 σ 35 0 (nI 0)) 45 (10 * i + c) x) i c) (WW (u2 (u2 σ 35 0 (nI 0)) 45 (10 * i + c) x) t) := by
  rw [ent_135]
  have hN := hR.1
  have i0 := isIn_a (X := X) (h := WW σ t).1 hx
  have iw := r_wrong0 (X := X) (t := t) hR hc hi hk hS h1
  have it := r_time (X := X) (σ := u2 (u2 σ 35 0 (nI 0)) 45 (10 * i + c) x) (t := t) (N := N) hR hc hi hk
  simp (disch := omega) only [s135_0, s135_1, s135_2, s135_3, s135_4, s135_5, s135_6, s135_8, s135_11, s135_14, s135_17, s135_20, s135_21, s135_22, s135_23, s135_26, s135_28, s135_29, s135_30, s135_31, s135_32, s135_33, s135_34, s135_35, s135_36, s135_37, s135_40, eq_self, bnd_l, bnd_r, Option.toList_some, Option.toList_none, List.cons_append, List.nil_append, Nat.add_zero, Nat.zero_add, ↓reduceIte, nI_add, nI_mul, nI_subI, lt_t, lt_f, eq_f, lt_m1, m1_lt, eq_m1, m1_eq, i0, iw, it, c_holds]
theorem q_time1 {N : Nat} {a b : Int32} (hR : σ 35 1 = nI N) (hN : N ≤ 20) (ha : ¬ (inR a 10 ∧ inR b N)) : exC X 136 [.ref 35, .int a, .int b] (WW σ t) = ans (nI 0) (WW (u2 σ 35 0 (nI 1)) t) := by
  rw [ent_136]
  by_cases h1 : inR a 10
  · have h2 : ¬ inR b N := fun z => ha ⟨h1, z⟩
    obtain ⟨j, hj, rfl⟩ := h1
    have i0 := isCar_in (X := X) (h := WW σ t) hj
    have i1 := isItem_no (X := X) (t := t) hR hN h2
    simp (disch := omega) only [s136_0, s136_1, s136_4, s136_7, s136_8, s136_9, s136_12, s136_15, s136_16, s136_19, s136_20, s136_21, s136_22, s136_23, s136_26, s136_27, s136_30, s136_31, s136_34, s136_35, s136_36, s136_37, s136_40, s136_41, s136_44, s136_45, s136_48, s136_51, s136_52, s136_53, s136_54, s136_55, s136_56, s136_59, eq_self, bnd_l, bnd_r, Option.toList_some, Option.toList_none, List.cons_append, List.nil_append, Nat.add_zero, Nat.zero_add, ↓reduceIte, nI_add, nI_mul, nI_subI, lt_t, lt_f, eq_f, lt_m1, m1_lt, eq_m1, m1_eq, i0, i1, c_holds]
  · have i0 := isCar_no (X := X) (h := WW σ t) h1
    simp (disch := omega) only [s136_0, s136_1, s136_4, s136_7, s136_8, s136_9, s136_12, s136_15, s136_16, s136_19, s136_20, s136_21, s136_22, s136_23, s136_26, s136_27, s136_30, s136_31, s136_34, s136_35, s136_36, s136_37, s136_40, s136_41, s136_44, s136_45, s136_48, s136_51, s136_52, s136_53, s136_54, s136_55, s136_56, s136_59, eq_self, bnd_l, bnd_r, Option.toList_some, Option.toList_none, List.cons_append, List.nil_append, Nat.add_zero, Nat.zero_add, ↓reduceIte, nI_add, nI_mul, nI_subI, lt_t, lt_f, eq_f, lt_m1, m1_lt, eq_m1, m1_eq, i0, c_holds]
theorem q_time2 {N c i : Nat} (hR : σ 35 1 = nI N) (hN : N ≤ 20) (hc : c < 10) (hi : i < N) (hk : ¬ σ 36 i = nI 2) : exC X 136 [.ref 35, .int (nI c), .int (nI i)] (WW σ t) = ans (nI 0) (WW (u2 σ 35 0 (nI 2)) t) := by
  rw [ent_136]
  have i0 := isCar_in (X := X) (h := WW σ t) hc
  have i1 := isItem_in (X := X) (t := t) hR hN hi
  simp (disch := omega) only [s136_0, s136_1, s136_4, s136_7, s136_8, s136_9, s136_12, s136_15, s136_16, s136_19, s136_20, s136_21, s136_22, s136_23, s136_26, s136_27, s136_30, s136_31, s136_34, s136_35, s136_36, s136_37, s136_40, s136_41, s136_44, s136_45, s136_48, s136_51, s136_52, s136_53, s136_54, s136_55, s136_56, s136_59, eq_self, bnd_l, bnd_r, Option.toList_some, Option.toList_none, List.cons_append, List.nil_append, Nat.add_zero, Nat.zero_add, ↓reduceIte, nI_add, nI_mul, nI_subI, lt_t, lt_f, eq_f, lt_m1, m1_lt, eq_m1, m1_eq, i0, i1, c_holds, hk]
theorem q_time0 {N c i : Nat} (hR : RK σ N) (hc : c < 10) (hi : i < N) (hk : σ 36 i = nI 2) : exC X 136 [.ref 35, .int (nI c), .int (nI i)] (WW σ t) = ans (tmR σ i c) (WW (u2 σ 35 0 (nI 0)) t) := by
  rw [ent_136]
  have hN := hR.1
  have i0 := isCar_in (X := X) (h := WW σ t) hc
  have i1 := isItem_in (X := X) (t := t) hR.2.1 hN hi
  have it : exC X 131 [.ref 35, .int (nI c), .int (nI i)] (WW (u2 σ 35 0 (nI 0)) t) = ans (tmR σ i c) (WW (u2 σ 35 0 (nI 0)) t) := r_time (σ := (u2 σ 35 0 (nI 0))) (N := N) hR hc hi hk
  simp (disch := omega) only [s136_0, s136_1, s136_4, s136_7, s136_8, s136_9, s136_12, s136_15, s136_16, s136_19, s136_20, s136_21, s136_22, s136_23, s136_26, s136_27, s136_30, s136_31, s136_34, s136_35, s136_36, s136_37, s136_40, s136_41, s136_44, s136_45, s136_48, s136_51, s136_52, s136_53, s136_54, s136_55, s136_56, s136_59, eq_self, bnd_l, bnd_r, Option.toList_some, Option.toList_none, List.cons_append, List.nil_append, Nat.add_zero, Nat.zero_add, ↓reduceIte, nI_add, nI_mul, nI_subI, lt_t, lt_f, eq_f, lt_m1, m1_lt, eq_m1, m1_eq, i0, i1, c_holds, hk, it]
/-! tyres -/
theorem code_in {x : Int32} (hx : inR x 100) : exC X 109 [.int x, .int (nI 0), .int (nI 99)] h = ans (nI 1) h := by
  obtain ⟨j, hj, rfl⟩ := hx
  exact isIn_in (by omega) (by omega) (by omega)
theorem code_no {x : Int32} (hx : ¬ inR x 100) : exC X 109 [.int x, .int (nI 0), .int (nI 99)] h = ans (nI 0) h := isIn_no (by omega) hx
theorem q_alloc1 {a b : Int32} (ha : ¬ inR a 10) : exC X 137 [.ref 35, .int a, .int b] (WW σ t) = ans (nI 0) (WW (u2 σ 35 0 (nI 1)) t) := by
  rw [ent_137]
  have i0 := isCar_no (X := X) (h := WW σ t) ha
  by_cases hb : inR b 100
  · have i1 := code_in (X := X) (h := WW σ t) hb
    simp (disch := omega) only [s137_0, s137_1, s137_4, s137_5, s137_6, s137_7, s137_9, s137_12, s137_14, s137_15, s137_18, s137_20, s137_23, s137_24, s137_27, s137_29, s137_30, s137_31, s137_32, s137_33, s137_34, s137_37, s137_38, s137_41, s137_42, s137_43, s137_45, s137_48, s137_49, s137_52, s137_53, s137_55, s137_56, s137_57, s137_60, s137_61, s137_64, s137_66, s137_69, s137_70, s137_73, s137_75, s137_78, s137_79, s137_82, s137_83, s137_86, s137_89, s137_90, s137_91, s137_92, s137_95, s137_97, s137_98, s137_99, s137_100, s137_101, s137_102 nar0, s137_102 nar1, s137_103, s137_104, s137_107, s137_108, s137_109, s137_110, s137_111, s137_112, s137_113, s137_114, s137_117, s137_118, s137_119, eq_self, bnd_l, bnd_r, Option.toList_some, Option.toList_none, List.cons_append, List.nil_append, Nat.add_zero, Nat.zero_add, ↓reduceIte, nI_add, nI_mul, nI_subI, lt_t, lt_f, eq_f, lt_m1, m1_lt, eq_m1, m1_eq, i0, i1, c_holds]
  · have i1 := code_no (X := X) (h := WW σ t) hb
    simp (disch := omega) only [s137_0, s137_1, s137_4, s137_5, s137_6, s137_7, s137_9, s137_12, s137_14, s137_15, s137_18, s137_20, s137_23, s137_24, s137_27, s137_29, s137_30, s137_31, s137_32, s137_33, s137_34, s137_37, s137_38, s137_41, s137_42, s137_43, s137_45, s137_48, s137_49, s137_52, s137_53, s137_55, s137_56, s137_57, s137_60, s137_61, s137_64, s137_66, s137_69, s137_70, s137_73, s137_75, s137_78, s137_79, s137_82, s137_83, s137_86, s137_89, s137_90, s137_91, s137_92, s137_95, s137_97, s137_98, s137_99, s137_100, s137_101, s137_102 nar0, s137_102 nar1, s137_103, s137_104, s137_107, s137_108, s137_109, s137_110, s137_111, s137_112, s137_113, s137_114, s137_117, s137_118, s137_119, eq_self, bnd_l, bnd_r, Option.toList_some, Option.toList_none, List.cons_append, List.nil_append, Nat.add_zero, Nat.zero_add, ↓reduceIte, nI_add, nI_mul, nI_subI, lt_t, lt_f, eq_f, lt_m1, m1_lt, eq_m1, m1_eq, i0, i1, c_holds]
theorem q_alloc2 {c : Nat} {b : Int32} (hc : c < 10) (hb : ¬ inR b 100) : exC X 137 [.ref 35, .int (nI c), .int b] (WW σ t) = ans (nI 0) (WW (u2 σ 35 0 (nI 2)) t) := by
  rw [ent_137]
  have i0 := isCar_in (X := X) (h := WW σ t) hc
  have i1 := code_no (X := X) (h := WW σ t) hb
  simp (disch := omega) only [s137_0, s137_1, s137_4, s137_5, s137_6, s137_7, s137_9, s137_12, s137_14, s137_15, s137_18, s137_20, s137_23, s137_24, s137_27, s137_29, s137_30, s137_31, s137_32, s137_33, s137_34, s137_37, s137_38, s137_41, s137_42, s137_43, s137_45, s137_48, s137_49, s137_52, s137_53, s137_55, s137_56, s137_57, s137_60, s137_61, s137_64, s137_66, s137_69, s137_70, s137_73, s137_75, s137_78, s137_79, s137_82, s137_83, s137_86, s137_89, s137_90, s137_91, s137_92, s137_95, s137_97, s137_98, s137_99, s137_100, s137_101, s137_102 nar0, s137_102 nar1, s137_103, s137_104, s137_107, s137_108, s137_109, s137_110, s137_111, s137_112, s137_113, s137_114, s137_117, s137_118, s137_119, eq_self, bnd_l, bnd_r, Option.toList_some, Option.toList_none, List.cons_append, List.nil_append, Nat.add_zero, Nat.zero_add, ↓reduceIte, nI_add, nI_mul, nI_subI, lt_t, lt_f, eq_f, lt_m1, m1_lt, eq_m1, m1_eq, i0, i1, c_holds]
theorem q_alloc3 {c k : Nat} (hc : c < 10) (hk : k < 100) (hn : ¬ (σ 51 (100 * c + k) = nI 0 ∧ σ 53 c < nI 6)) : exC X 137 [.ref 35, .int (nI c), .int (nI k)] (WW σ t) = ans (nI 0) (WW (u2 σ 35 0 (nI 3)) t) := by
  rw [ent_137]
  have i0 := isCar_in (X := X) (h := WW σ t) hc
  have i1 := code_in (X := X) (h := WW σ t) ⟨k, hk, rfl⟩
  by_cases h1 : σ 51 (100 * c + k) = nI 0
  · have h2 : ¬ σ 53 c < nI 6 := fun z => hn ⟨h1, z⟩
    simp (disch := omega) only [s137_0, s137_1, s137_4, s137_5, s137_6, s137_7, s137_9, s137_12, s137_14, s137_15, s137_18, s137_20, s137_23, s137_24, s137_27, s137_29, s137_30, s137_31, s137_32, s137_33, s137_34, s137_37, s137_38, s137_41, s137_42, s137_43, s137_45, s137_48, s137_49, s137_52, s137_53, s137_55, s137_56, s137_57, s137_60, s137_61, s137_64, s137_66, s137_69, s137_70, s137_73, s137_75, s137_78, s137_79, s137_82, s137_83, s137_86, s137_89, s137_90, s137_91, s137_92, s137_95, s137_97, s137_98, s137_99, s137_100, s137_101, s137_102 nar0, s137_102 nar1, s137_103, s137_104, s137_107, s137_108, s137_109, s137_110, s137_111, s137_112, s137_113, s137_114, s137_117, s137_118, s137_119, eq_self, bnd_l, bnd_r, Option.toList_some, Option.toList_none, List.cons_append, List.nil_append, Nat.add_zero, Nat.zero_add, ↓reduceIte, nI_add, nI_mul, nI_subI, lt_t, lt_f, eq_f, lt_m1, m1_lt, eq_m1, m1_eq, i0, i1, c_holds, h1, h2]
  · simp (disch := omega) only [s137_0, s137_1, s137_4, s137_5, s137_6, s137_7, s137_9, s137_12, s137_14, s137_15, s137_18, s137_20, s137_23, s137_24, s137_27, s137_29, s137_30, s137_31, s137_32, s137_33, s137_34, s137_37, s137_38, s137_41, s137_42, s137_43, s137_45, s137_48, s137_49, s137_52, s137_53, s137_55, s137_56, s137_57, s137_60, s137_61, s137_64, s137_66, s137_69, s137_70, s137_73, s137_75, s137_78, s137_79, s137_82, s137_83, s137_86, s137_89, s137_90, s137_91, s137_92, s137_95, s137_97, s137_98, s137_99, s137_100, s137_101, s137_102 nar0, s137_102 nar1, s137_103, s137_104, s137_107, s137_108, s137_109, s137_110, s137_111, s137_112, s137_113, s137_114, s137_117, s137_118, s137_119, eq_self, bnd_l, bnd_r, Option.toList_some, Option.toList_none, List.cons_append, List.nil_append, Nat.add_zero, Nat.zero_add, ↓reduceIte, nI_add, nI_mul, nI_subI, lt_t, lt_f, eq_f, lt_m1, m1_lt, eq_m1, m1_eq, i0, i1, c_holds, h1]
theorem q_alloc0 {c k : Nat} (hc : c < 10) (hk : k < 100) (h1 : σ 51 (100 * c + k) = nI 0) (h2 : σ 53 c < nI 6) : exC X 137 [.ref 35, .int (nI c), .int (nI k)] (WW σ t) = ans (σ 53 c + nI 1) (WW (u2 (u2 (u2 σ 35 0 (nI 0)) 51 (100 * c + k) (nI 1)) 53 c (σ 53 c + nI 1)) t) := by
  rw [ent_137]
  have i0 := isCar_in (X := X) (h := WW σ t) hc
  have i1 := code_in (X := X) (h := WW σ t) ⟨k, hk, rfl⟩
  simp (disch := omega) only [s137_0, s137_1, s137_4, s137_5, s137_6, s137_7, s137_9, s137_12, s137_14, s137_15, s137_18, s137_20, s137_23, s137_24, s137_27, s137_29, s137_30, s137_31, s137_32, s137_33, s137_34, s137_37, s137_38, s137_41, s137_42, s137_43, s137_45, s137_48, s137_49, s137_52, s137_53, s137_55, s137_56, s137_57, s137_60, s137_61, s137_64, s137_66, s137_69, s137_70, s137_73, s137_75, s137_78, s137_79, s137_82, s137_83, s137_86, s137_89, s137_90, s137_91, s137_92, s137_95, s137_97, s137_98, s137_99, s137_100, s137_101, s137_102 nar0, s137_102 nar1, s137_103, s137_104, s137_107, s137_108, s137_109, s137_110, s137_111, s137_112, s137_113, s137_114, s137_117, s137_118, s137_119, eq_self, bnd_l, bnd_r, Option.toList_some, Option.toList_none, List.cons_append, List.nil_append, Nat.add_zero, Nat.zero_add, ↓reduceIte, nI_add, nI_mul, nI_subI, lt_t, lt_f, eq_f, lt_m1, m1_lt, eq_m1, m1_eq, i0, i1, c_holds, h1, h2, u2_ne, u2_eq, upd_eq]
theorem q_seen1 {a b : Int32} (ha : ¬ inR a 10) : exC X 138 [.ref 35, .int a, .int b] (WW σ t) = ans (nI 0) (WW (u2 σ 35 0 (nI 1)) t) := by
  rw [ent_138]
  have i0 := isCar_no (X := X) (h := WW σ t) ha
  simp (disch := omega) only [s138_0, s138_1, s138_2, s138_5, s138_8, s138_9, s138_12, s138_13, s138_14, s138_16, s138_19, s138_22, s138_23, s138_26, s138_27, s138_30, s138_33, s138_34, s138_35, s138_37, s138_38, s138_39, s138_40, s138_41, s138_42, s138_43, s138_46, s138_47, s138_48, s138_51, s138_52, s138_55, s138_56, s138_57, s138_60, s138_61, s138_64, s138_67, s138_69, s138_70, s138_73, s138_74, s138_75, s138_78, s138_79, s138_80, s138_83, s138_85, s138_88, s138_89, s138_92, s138_93 nar0, s138_93 nar1, s138_94, s138_95, s138_98, s138_99, s138_100, s138_101, s138_103, s138_104, s138_105, s138_107, eq_self, bnd_l, bnd_r, Option.toList_some, Option.toList_none, List.cons_append, List.nil_append, Nat.add_zero, Nat.zero_add, ↓reduceIte, nI_add, nI_mul, nI_subI, lt_t, lt_f, eq_f, lt_m1, m1_lt, eq_m1, m1_eq, i0, c_holds]
theorem q_seen2 {c : Nat} {b : Int32} (hc : c < 10) (hb : ¬ inR b 100) : exC X 138 [.ref 35, .int (nI c), .int b] (WW σ t) = ans (nI 0) (WW (u2 σ 35 0 (nI 2)) t) := by
  rw [ent_138]
  have i0 := isCar_in (X := X) (h := WW σ t) hc
  have i1 := code_no (X := X) (h := WW σ t) hb
  simp (disch := omega) only [s138_0, s138_1, s138_2, s138_5, s138_8, s138_9, s138_12, s138_13, s138_14, s138_16, s138_19, s138_22, s138_23, s138_26, s138_27, s138_30, s138_33, s138_34, s138_35, s138_37, s138_38, s138_39, s138_40, s138_41, s138_42, s138_43, s138_46, s138_47, s138_48, s138_51, s138_52, s138_55, s138_56, s138_57, s138_60, s138_61, s138_64, s138_67, s138_69, s138_70, s138_73, s138_74, s138_75, s138_78, s138_79, s138_80, s138_83, s138_85, s138_88, s138_89, s138_92, s138_93 nar0, s138_93 nar1, s138_94, s138_95, s138_98, s138_99, s138_100, s138_101, s138_103, s138_104, s138_105, s138_107, eq_self, bnd_l, bnd_r, Option.toList_some, Option.toList_none, List.cons_append, List.nil_append, Nat.add_zero, Nat.zero_add, ↓reduceIte, nI_add, nI_mul, nI_subI, lt_t, lt_f, eq_f, lt_m1, m1_lt, eq_m1, m1_eq, i0, i1, c_holds]
theorem upd_self {f : Nat → Int32} {k : Nat} {x : Int32} (h : f k = x) : upd f k x = f := by
  funext i
  unfold upd
  by_cases e : i = k
  · subst e; rw [if_pos rfl, h]
  · rw [if_neg e]
theorem u2_self {p k : Nat} {x : Int32} (h : σ p k = x) : u2 σ p k x = σ := by
  rw [u2_def, upd_self h, sA_self]
/-- a tyre that the car has or was fined for: nothing -/
theorem q_seen0n {c k : Nat} (hc : c < 10) (hk : k < 100) (hb : σ 52 (100 * c + k) = nI 0 ∨ σ 52 (100 * c + k) = nI 1) (hn : ¬ (σ 51 (100 * c + k) = nI 0 ∧ σ 52 (100 * c + k) = nI 0)) : exC X 138 [.ref 35, .int (nI c), .int (nI k)] (WW σ t) = ans (nI 0) (WW (u2 σ 35 0 (nI 0)) t) := by
  rw [ent_138]
  have i0 := isCar_in (X := X) (h := WW σ t) hc
  have i1 := code_in (X := X) (h := WW σ t) ⟨k, hk, rfl⟩
  have e46 : u2 (u2 σ 35 0 (nI 0)) 46 c (σ 46 c + nI 0) = (u2 σ 35 0 (nI 0)) := u2_self (σ := (u2 σ 35 0 (nI 0))) (by rw [← nIz, Int32.add_zero]; rfl)
  by_cases h1 : σ 51 (100 * c + k) = nI 0
  · rcases hb with h2 | h2
    · exact absurd ⟨h1, h2⟩ hn
    · have e52 : u2 (u2 σ 35 0 (nI 0)) 52 (100 * c + k) (nI 1) = (u2 σ 35 0 (nI 0)) := u2_self (σ := (u2 σ 35 0 (nI 0))) h2
      simp (disch := omega) only [s138_0, s138_1, s138_2, s138_5, s138_8, s138_9, s138_12, s138_13, s138_14, s138_16, s138_19, s138_22, s138_23, s138_26, s138_27, s138_30, s138_33, s138_34, s138_35, s138_37, s138_38, s138_39, s138_40, s138_41, s138_42, s138_43, s138_46, s138_47, s138_48, s138_51, s138_52, s138_55, s138_56, s138_57, s138_60, s138_61, s138_64, s138_67, s138_69, s138_70, s138_73, s138_74, s138_75, s138_78, s138_79, s138_80, s138_83, s138_85, s138_88, s138_89, s138_92, s138_93 nar0, s138_93 nar1, s138_94, s138_95, s138_98, s138_99, s138_100, s138_101, s138_103, s138_104, s138_105, s138_107, eq_self, bnd_l, bnd_r, Option.toList_some, Option.toList_none, List.cons_append, List.nil_append, Nat.add_zero, Nat.zero_add, ↓reduceIte, nI_add, nI_mul, nI_subI, lt_t, lt_f, eq_f, lt_m1, m1_lt, eq_m1, m1_eq, i0, i1, c_holds, h1, h2, u2_ne, e52, e46]
  · rcases hb with h2 | h2
    · have e52 : u2 (u2 σ 35 0 (nI 0)) 52 (100 * c + k) (nI 0) = (u2 σ 35 0 (nI 0)) := u2_self (σ := (u2 σ 35 0 (nI 0))) h2
      simp (disch := omega) only [s138_0, s138_1, s138_2, s138_5, s138_8, s138_9, s138_12, s138_13, s138_14, s138_16, s138_19, s138_22, s138_23, s138_26, s138_27, s138_30, s138_33, s138_34, s138_35, s138_37, s138_38, s138_39, s138_40, s138_41, s138_42, s138_43, s138_46, s138_47, s138_48, s138_51, s138_52, s138_55, s138_56, s138_57, s138_60, s138_61, s138_64, s138_67, s138_69, s138_70, s138_73, s138_74, s138_75, s138_78, s138_79, s138_80, s138_83, s138_85, s138_88, s138_89, s138_92, s138_93 nar0, s138_93 nar1, s138_94, s138_95, s138_98, s138_99, s138_100, s138_101, s138_103, s138_104, s138_105, s138_107, eq_self, bnd_l, bnd_r, Option.toList_some, Option.toList_none, List.cons_append, List.nil_append, Nat.add_zero, Nat.zero_add, ↓reduceIte, nI_add, nI_mul, nI_subI, lt_t, lt_f, eq_f, lt_m1, m1_lt, eq_m1, m1_eq, i0, i1, c_holds, h1, h2, u2_ne, e52, e46]
    · have e52 : u2 (u2 σ 35 0 (nI 0)) 52 (100 * c + k) (nI 1) = (u2 σ 35 0 (nI 0)) := u2_self (σ := (u2 σ 35 0 (nI 0))) h2
      simp (disch := omega) only [s138_0, s138_1, s138_2, s138_5, s138_8, s138_9, s138_12, s138_13, s138_14, s138_16, s138_19, s138_22, s138_23, s138_26, s138_27, s138_30, s138_33, s138_34, s138_35, s138_37, s138_38, s138_39, s138_40, s138_41, s138_42, s138_43, s138_46, s138_47, s138_48, s138_51, s138_52, s138_55, s138_56, s138_57, s138_60, s138_61, s138_64, s138_67, s138_69, s138_70, s138_73, s138_74, s138_75, s138_78, s138_79, s138_80, s138_83, s138_85, s138_88, s138_89, s138_92, s138_93 nar0, s138_93 nar1, s138_94, s138_95, s138_98, s138_99, s138_100, s138_101, s138_103, s138_104, s138_105, s138_107, eq_self, bnd_l, bnd_r, Option.toList_some, Option.toList_none, List.cons_append, List.nil_append, Nat.add_zero, Nat.zero_add, ↓reduceIte, nI_add, nI_mul, nI_subI, lt_t, lt_f, eq_f, lt_m1, m1_lt, eq_m1, m1_eq, i0, i1, c_holds, h1, h2, u2_ne, e52, e46]
theorem q_seen0 {c k : Nat} (hc : c < 10) (hk : k < 100) (h1 : σ 51 (100 * c + k) = nI 0) (h2 : σ 52 (100 * c + k) = nI 0) : exC X 138 [.ref 35, .int (nI c), .int (nI k)] (WW σ t) = ans (nI 600) (WW (u2 (u2 (u2 σ 35 0 (nI 0)) 52 (100 * c + k) (nI 1)) 46 c (σ 46 c + nI 600)) t) := by
  rw [ent_138]
  have i0 := isCar_in (X := X) (h := WW σ t) hc
  have i1 := code_in (X := X) (h := WW σ t) ⟨k, hk, rfl⟩
  simp (disch := omega) only [s138_0, s138_1, s138_2, s138_5, s138_8, s138_9, s138_12, s138_13, s138_14, s138_16, s138_19, s138_22, s138_23, s138_26, s138_27, s138_30, s138_33, s138_34, s138_35, s138_37, s138_38, s138_39, s138_40, s138_41, s138_42, s138_43, s138_46, s138_47, s138_48, s138_51, s138_52, s138_55, s138_56, s138_57, s138_60, s138_61, s138_64, s138_67, s138_69, s138_70, s138_73, s138_74, s138_75, s138_78, s138_79, s138_80, s138_83, s138_85, s138_88, s138_89, s138_92, s138_93 nar0, s138_93 nar1, s138_94, s138_95, s138_98, s138_99, s138_100, s138_101, s138_103, s138_104, s138_105, s138_107, eq_self, bnd_l, bnd_r, Option.toList_some, Option.toList_none, List.cons_append, List.nil_append, Nat.add_zero, Nat.zero_add, ↓reduceIte, nI_add, nI_mul, nI_subI, lt_t, lt_f, eq_f, lt_m1, m1_lt, eq_m1, m1_eq, i0, i1, c_holds, h1, h2, u2_ne]
theorem q_retire1 {a z : Int32} (ha : ¬ inR a 10) : exC X 139 [.ref 35, .int a, .int z] (WW σ t) = ansV (WW (u2 σ 35 0 (nI 1)) t) := by
  rw [ent_139]
  have i0 := isCar_no (X := X) (h := WW σ t) ha
  simp (disch := omega) only [s139_0, s139_1, s139_4, s139_5, s139_6, s139_7, s139_10, s139_11, s139_14, s139_15, s139_18, s139_19, s139_20, s139_23, s139_24, s139_27, s139_28, s139_29, s139_32, s139_33, s139_36, s139_37, s139_40, s139_43, s139_44, s139_47, s139_48, s139_49 nar0, s139_49 nar1, s139_50, s139_51, s139_54, s139_55, s139_56 nar0, s139_56 nar1, s139_57, eq_self, bnd_l, bnd_r, Option.toList_some, Option.toList_none, List.cons_append, List.nil_append, Nat.add_zero, Nat.zero_add, ↓reduceIte, nI_add, nI_mul, nI_subI, lt_t, lt_f, eq_f, lt_m1, m1_lt, eq_m1, m1_eq, i0, c_holds]
theorem q_retire2 {c : Nat} {z : Int32} (hc : c < 10) (hn : ¬ (σ 49 c = nI 0 ∧ σ 48 c = nI 0)) : exC X 139 [.ref 35, .int (nI c), .int z] (WW σ t) = ansV (WW (u2 σ 35 0 (nI 2)) t) := by
  rw [ent_139]
  have i0 := isCar_in (X := X) (h := WW σ t) hc
  by_cases h1 : σ 49 c = nI 0
  · have h2 : ¬ σ 48 c = nI 0 := fun z => hn ⟨h1, z⟩
    simp (disch := omega) only [s139_0, s139_1, s139_4, s139_5, s139_6, s139_7, s139_10, s139_11, s139_14, s139_15, s139_18, s139_19, s139_20, s139_23, s139_24, s139_27, s139_28, s139_29, s139_32, s139_33, s139_36, s139_37, s139_40, s139_43, s139_44, s139_47, s139_48, s139_49 nar0, s139_49 nar1, s139_50, s139_51, s139_54, s139_55, s139_56 nar0, s139_56 nar1, s139_57, eq_self, bnd_l, bnd_r, Option.toList_some, Option.toList_none, List.cons_append, List.nil_append, Nat.add_zero, Nat.zero_add, ↓reduceIte, nI_add, nI_mul, nI_subI, lt_t, lt_f, eq_f, lt_m1, m1_lt, eq_m1, m1_eq, i0, c_holds, h1, h2]
  · simp (disch := omega) only [s139_0, s139_1, s139_4, s139_5, s139_6, s139_7, s139_10, s139_11, s139_14, s139_15, s139_18, s139_19, s139_20, s139_23, s139_24, s139_27, s139_28, s139_29, s139_32, s139_33, s139_36, s139_37, s139_40, s139_43, s139_44, s139_47, s139_48, s139_49 nar0, s139_49 nar1, s139_50, s139_51, s139_54, s139_55, s139_56 nar0, s139_56 nar1, s139_57, eq_self, bnd_l, bnd_r, Option.toList_some, Option.toList_none, List.cons_append, List.nil_append, Nat.add_zero, Nat.zero_add, ↓reduceIte, nI_add, nI_mul, nI_subI, lt_t, lt_f, eq_f, lt_m1, m1_lt, eq_m1, m1_eq, i0, c_holds, h1]
theorem q_retire0 {c : Nat} {z : Int32} (hc : c < 10) (h1 : σ 49 c = nI 0) (h2 : σ 48 c = nI 0) (hz : z = nI 0 ∨ z = nI 1) : exC X 139 [.ref 35, .int (nI c), .int z] (WW σ t) = ansV (WW (u2 (u2 (u2 σ 35 0 (nI 0)) 49 c (nI 1)) 50 c z) t) := by
  rw [ent_139]
  have i0 := isCar_in (X := X) (h := WW σ t) hc
  rcases hz with rfl | rfl
  · simp (disch := omega) only [s139_0, s139_1, s139_4, s139_5, s139_6, s139_7, s139_10, s139_11, s139_14, s139_15, s139_18, s139_19, s139_20, s139_23, s139_24, s139_27, s139_28, s139_29, s139_32, s139_33, s139_36, s139_37, s139_40, s139_43, s139_44, s139_47, s139_48, s139_49 nar0, s139_49 nar1, s139_50, s139_51, s139_54, s139_55, s139_56 nar0, s139_56 nar1, s139_57, eq_self, bnd_l, bnd_r, Option.toList_some, Option.toList_none, List.cons_append, List.nil_append, Nat.add_zero, Nat.zero_add, ↓reduceIte, nI_add, nI_mul, nI_subI, lt_t, lt_f, eq_f, lt_m1, m1_lt, eq_m1, m1_eq, i0, c_holds, h1, h2]
  · simp (disch := omega) only [s139_0, s139_1, s139_4, s139_5, s139_6, s139_7, s139_10, s139_11, s139_14, s139_15, s139_18, s139_19, s139_20, s139_23, s139_24, s139_27, s139_28, s139_29, s139_32, s139_33, s139_36, s139_37, s139_40, s139_43, s139_44, s139_47, s139_48, s139_49 nar0, s139_49 nar1, s139_50, s139_51, s139_54, s139_55, s139_56 nar0, s139_56 nar1, s139_57, eq_self, bnd_l, bnd_r, Option.toList_some, Option.toList_none, List.cons_append, List.nil_append, Nat.add_zero, Nat.zero_add, ↓reduceIte, nI_add, nI_mul, nI_subI, lt_t, lt_f, eq_f, lt_m1, m1_lt, eq_m1, m1_eq, i0, c_holds, h1, h2]
end REF7
