/-! THE REFERENCE: legs opened, the rally closed -/
section REF9
variable {X : rX} {h : rH} {σ : Nat → Nat → Int32} {t : rH}
/-- turned round -/
theorem l_openT {i : Nat} {o3 o4 o5 : Value} {o6 o7 : Option Value} {L : List Nat} (hi : i < 20) (hL : L.length ≤ 10) {Q : Option rR} (hQ : ∀ o5 o6 o7, exM X 116 290 [some (.ref 35), some (.int (nI i)), some (.int (nI 2)), some o3, some o4, some o5, o6, o7] [] (WW (JO σ i (rev5 L)) t) 0 0 = Q) :
    exM X 116 183 [some (.ref 35), some (.int (nI i)), some (.int (nI 2)), some o3, some o4, some o5, o6, o7] [] (WW (JO σ i L) t) 0 0 = Q := by
  have a0 : 10 * i = 10 * i + 0 := rfl
  match L, hL, hQ with
  | [], _, hQ =>
    simp (disch := omega) only [s116_183, s116_184, s116_187, s116_188, s116_189, s116_190, s116_193, s116_194, s116_197, s116_198, s116_199, s116_202, s116_203, s116_205, s116_206, s116_208, s116_210, s116_212, s116_214, s116_217, s116_218, s116_219, s116_222, s116_223, s116_226, s116_228, s116_229, s116_230, s116_232, s116_233, s116_234, s116_236, s116_237, s116_240, s116_242, s116_243, s116_244, s116_246, s116_247, s116_248, s116_251, s116_253, s116_254, s116_255, s116_257, s116_258, s116_259, s116_260, s116_262, s116_263, s116_264, s116_265, s116_266, s116_269, s116_271, s116_272, s116_273, s116_275, s116_276, s116_277, s116_278, s116_280, s116_281, s116_283, s116_284, s116_287, eq_self, bnd_l, bnd_r, Option.toList_some, Option.toList_none, List.cons_append, List.nil_append, Nat.add_zero, Nat.zero_add, ↓reduceIte, nI_add, nI_mul, nI_subI, lt_t, lt_f, eq_f, lt_m1, m1_lt, eq_m1, m1_eq, JO_39, List.length_nil, s116_213 e20, d02]
    exact hQ _ _ _
  | [a], _, hQ =>
    simp (disch := omega) only [s116_183, s116_184, s116_187, s116_188, s116_189, s116_190, s116_193, s116_194, s116_197, s116_198, s116_199, s116_202, s116_203, s116_205, s116_206, s116_208, s116_210, s116_212, s116_214, s116_217, s116_218, s116_219, s116_222, s116_223, s116_226, s116_228, s116_229, s116_230, s116_232, s116_233, s116_234, s116_236, s116_237, s116_240, s116_242, s116_243, s116_244, s116_246, s116_247, s116_248, s116_251, s116_253, s116_254, s116_255, s116_257, s116_258, s116_259, s116_260, s116_262, s116_263, s116_264, s116_265, s116_266, s116_269, s116_271, s116_272, s116_273, s116_275, s116_276, s116_277, s116_278, s116_280, s116_281, s116_283, s116_284, s116_287, eq_self, bnd_l, bnd_r, Option.toList_some, Option.toList_none, List.cons_append, List.nil_append, Nat.add_zero, Nat.zero_add, ↓reduceIte, nI_add, nI_mul, nI_subI, lt_t, lt_f, eq_f, lt_m1, m1_lt, eq_m1, m1_eq, JO_39, List.length_nil, List.length_cons, s116_213 e20, d12]
    exact hQ _ _ _
  | [a, b], _, hQ =>
    have g0 := @JO_38 σ i 0 [a, b] (by simp)
    have g1 := @JO_38 σ i 1 [a, b] (by simp)
    have s0 := @JO_set σ i 0 b [a, b] (by simp)
    have s1 := @JO_set σ i 1 a [b, b] (by simp)
    rw [Nat.add_zero] at g0 s0
    have a1 : 10 * i + 2 - 1 = 10 * i + 1 := by omega
    simp (disch := omega) only [s116_183, s116_184, s116_187, s116_188, s116_189, s116_190, s116_193, s116_194, s116_197, s116_198, s116_199, s116_202, s116_203, s116_205, s116_206, s116_208, s116_210, s116_212, s116_214, s116_217, s116_218, s116_219, s116_222, s116_223, s116_226, s116_228, s116_229, s116_230, s116_232, s116_233, s116_234, s116_236, s116_237, s116_240, s116_242, s116_243, s116_244, s116_246, s116_247, s116_248, s116_251, s116_253, s116_254, s116_255, s116_257, s116_258, s116_259, s116_260, s116_262, s116_263, s116_264, s116_265, s116_266, s116_269, s116_271, s116_272, s116_273, s116_275, s116_276, s116_277, s116_278, s116_280, s116_281, s116_283, s116_284, s116_287, eq_self, bnd_l, bnd_r, Option.toList_some, Option.toList_none, List.cons_append, List.nil_append, Nat.add_zero, Nat.zero_add, ↓reduceIte, nI_add, nI_mul, nI_subI, lt_t, lt_f, eq_f, lt_m1, m1_lt, eq_m1, m1_eq, JO_39, List.length_nil, List.length_cons, s116_213 e20, d22, g0, g1, a1, Nat.sub_zero, List.getD_cons_zero, List.getD_cons_succ, s0, List.set_cons_zero, List.set_cons_succ, s1]
    exact hQ _ _ _
  | [a, b, c], _, hQ =>
    have g0 := @JO_38 σ i 0 [a, b, c] (by simp)
    have g1 := @JO_38 σ i 2 [a, b, c] (by simp)
    have s0 := @JO_set σ i 0 c [a, b, c] (by simp)
    have s1 := @JO_set σ i 2 a [c, b, c] (by simp)
    rw [Nat.add_zero] at g0 s0
    have a1 : 10 * i + 3 - 1 = 10 * i + 2 := by omega
    simp (disch := omega) only [s116_183, s116_184, s116_187, s116_188, s116_189, s116_190, s116_193, s116_194, s116_197, s116_198, s116_199, s116_202, s116_203, s116_205, s116_206, s116_208, s116_210, s116_212, s116_214, s116_217, s116_218, s116_219, s116_222, s116_223, s116_226, s116_228, s116_229, s116_230, s116_232, s116_233, s116_234, s116_236, s116_237, s116_240, s116_242, s116_243, s116_244, s116_246, s116_247, s116_248, s116_251, s116_253, s116_254, s116_255, s116_257, s116_258, s116_259, s116_260, s116_262, s116_263, s116_264, s116_265, s116_266, s116_269, s116_271, s116_272, s116_273, s116_275, s116_276, s116_277, s116_278, s116_280, s116_281, s116_283, s116_284, s116_287, eq_self, bnd_l, bnd_r, Option.toList_some, Option.toList_none, List.cons_append, List.nil_append, Nat.add_zero, Nat.zero_add, ↓reduceIte, nI_add, nI_mul, nI_subI, lt_t, lt_f, eq_f, lt_m1, m1_lt, eq_m1, m1_eq, JO_39, List.length_nil, List.length_cons, s116_213 e20, d32, g0, g1, a1, Nat.sub_zero, List.getD_cons_zero, List.getD_cons_succ, s0, List.set_cons_zero, List.set_cons_succ, s1]
    exact hQ _ _ _
  | [a, b, c, d], _, hQ =>
    have g0 := @JO_38 σ i 0 [a, b, c, d] (by simp)
    have g1 := @JO_38 σ i 3 [a, b, c, d] (by simp)
    have s0 := @JO_set σ i 0 d [a, b, c, d] (by simp)
    have s1 := @JO_set σ i 3 a [d, b, c, d] (by simp)
    have h0 := @JO_38 σ i 1 [d, b, c, a] (by simp)
    have h1 := @JO_38 σ i 2 [d, b, c, a] (by simp)
    have r0 := @JO_set σ i 1 c [d, b, c, a] (by simp)
    have r1 := @JO_set σ i 2 b [d, c, c, a] (by simp)
    rw [Nat.add_zero] at g0 s0
    have a1 : 10 * i + 4 - 1 = 10 * i + 3 := by omega
    have a2 : 10 * i + 3 - 1 = 10 * i + 2 := by omega
    simp (disch := omega) only [s116_183, s116_184, s116_187, s116_188, s116_189, s116_190, s116_193, s116_194, s116_197, s116_198, s116_199, s116_202, s116_203, s116_205, s116_206, s116_208, s116_210, s116_212, s116_214, s116_217, s116_218, s116_219, s116_222, s116_223, s116_226, s116_228, s116_229, s116_230, s116_232, s116_233, s116_234, s116_236, s116_237, s116_240, s116_242, s116_243, s116_244, s116_246, s116_247, s116_248, s116_251, s116_253, s116_254, s116_255, s116_257, s116_258, s116_259, s116_260, s116_262, s116_263, s116_264, s116_265, s116_266, s116_269, s116_271, s116_272, s116_273, s116_275, s116_276, s116_277, s116_278, s116_280, s116_281, s116_283, s116_284, s116_287, eq_self, bnd_l, bnd_r, Option.toList_some, Option.toList_none, List.cons_append, List.nil_append, Nat.add_zero, Nat.zero_add, ↓reduceIte, nI_add, nI_mul, nI_subI, lt_t, lt_f, eq_f, lt_m1, m1_lt, eq_m1, m1_eq, JO_39, List.length_nil, List.length_cons, s116_213 e20, d42, g0, g1, a1, a2, Nat.sub_zero, List.getD_cons_zero, List.getD_cons_succ, s0, List.set_cons_zero, List.set_cons_succ, s1, h0, h1, r0, r1]
    exact hQ _ _ _
  | a :: b :: c :: d :: e :: f, hL2, hQ =>
    have g0 := @JO_38 σ i 0 (a :: b :: c :: d :: e :: f) (by simp)
    have g1 := @JO_38 σ i 4 (a :: b :: c :: d :: e :: f) (by simp)
    have s0 := @JO_set σ i 0 e (a :: b :: c :: d :: e :: f) (by simp)
    have s1 := @JO_set σ i 4 a (e :: b :: c :: d :: e :: f) (by simp)
    have h0 := @JO_38 σ i 1 (e :: b :: c :: d :: a :: f) (by simp)
    have h1 := @JO_38 σ i 3 (e :: b :: c :: d :: a :: f) (by simp)
    have r0 := @JO_set σ i 1 d (e :: b :: c :: d :: a :: f) (by simp)
    have r1 := @JO_set σ i 3 b (e :: d :: c :: d :: a :: f) (by simp)
    rw [Nat.add_zero] at g0 s0
    have a1 : 10 * i + 5 - 1 = 10 * i + 4 := by omega
    have a2 : 10 * i + 4 - 1 = 10 * i + 3 := by omega
    have hl : f.length + 1 + 1 + 1 + 1 + 1 < 2 ^ 31 := by simp only [List.length_cons] at hL2; omega
    simp (disch := omega) only [s116_183, s116_184, s116_187, s116_188, s116_189, s116_190, s116_193, s116_194, s116_197, s116_198, s116_199, s116_202, s116_203, s116_205, s116_206, s116_208, s116_210, s116_212, s116_214, s116_217, s116_218, s116_219, s116_222, s116_223, s116_226, s116_228, s116_229, s116_230, s116_232, s116_233, s116_234, s116_236, s116_237, s116_240, s116_242, s116_243, s116_244, s116_246, s116_247, s116_248, s116_251, s116_253, s116_254, s116_255, s116_257, s116_258, s116_259, s116_260, s116_262, s116_263, s116_264, s116_265, s116_266, s116_269, s116_271, s116_272, s116_273, s116_275, s116_276, s116_277, s116_278, s116_280, s116_281, s116_283, s116_284, s116_287, eq_self, bnd_l, bnd_r, Option.toList_some, Option.toList_none, List.cons_append, List.nil_append, Nat.add_zero, Nat.zero_add, ↓reduceIte, nI_add, nI_mul, nI_subI, lt_t, lt_f, eq_f, lt_m1, m1_lt, eq_m1, m1_eq, JO_39, List.length_nil, List.length_cons, s116_213 e20, d52, g0, g1, a1, a2, Nat.sub_zero, List.getD_cons_zero, List.getD_cons_succ, s0, List.set_cons_zero, List.set_cons_succ, s1, h0, h1, r0, r1]
    exact hQ _ _ _
/-- whether a car comes back -/
def retB (σ : Nat → Nat → Int32) (c : Nat) : Bool := decide (¬ σ 49 c = nI 0 ∧ ¬ σ 50 c = nI 0 ∧ σ 48 c = nI 0 ∧ ¬ σ 40 c = -1)
def retL (σ : Nat → Nat → Int32) (j : Nat) : List Nat := (List.range j).filter (retB σ)
theorem retL_t {j : Nat} (h : retB σ j = true) : retL σ (j + 1) = retL σ j ++ [j] := by
  unfold retL
  rw [List.range_succ, List.filter_append]
  simp [h]
theorem retL_f {j : Nat} (h : retB σ j = false) : retL σ (j + 1) = retL σ j := by
  unfold retL
  rw [List.range_succ, List.filter_append]
  simp [h]
theorem retL_mono {j : Nat} : ∀ n, (retL σ j).length ≤ (retL σ (j + n)).length
  | 0 => Nat.le_refl _
  | n + 1 => by
    have := retL_mono (j := j) n
    rw [← Nat.add_assoc]
    by_cases h : retB σ (j + n) = true
    · rw [retL_t h, List.length_append]
      omega
    · rw [retL_f (by simpa using h)]
      exact this
/-- who is retired after j cars came back -/
def rtF (σ : Nat → Nat → Int32) (j : Nat) : Nat → Int32 := fun c => if c < j ∧ retB σ c = true then nI 0 else σ 49 c
theorem rtF_0 : rtF σ 0 = σ 49 := by
  funext c
  unfold rtF
  rw [if_neg (by omega)]
theorem rtF_t {j : Nat} (h : retB σ j = true) : upd (rtF σ j) j (nI 0) = rtF σ (j + 1) := by
  funext c
  unfold upd rtF
  by_cases h1 : c = j
  · subst h1; rw [if_pos rfl, if_pos ⟨by omega, h⟩]
  · rw [if_neg h1]
    by_cases h2 : c < j ∧ retB σ c = true
    · rw [if_pos h2, if_pos ⟨by omega, h2.2⟩]
    · rw [if_neg h2, if_neg (fun q => h2 ⟨by omega, q.2⟩)]
theorem rtF_f {j : Nat} (h : retB σ j = false) : rtF σ j = rtF σ (j + 1) := by
  funext c
  unfold rtF
  by_cases h2 : c < j ∧ retB σ c = true
  · rw [if_pos h2, if_pos ⟨by omega, h2.2⟩]
  · rw [if_neg h2, if_neg (fun q => h2 ⟨by
      by_cases e : c = j
      · subst e; rw [h] at q; exact absurd q.2 (by decide)
      · omega, q.2⟩)]
theorem rtF_at {j : Nat} : rtF σ j j = σ 49 j := by
  unfold rtF
  rw [if_neg (by omega)]
theorem JO_sA {i : Nat} {L : List Nat} {f g : Nat → Int32} : sA (sA (JO σ i L) 49 f) 49 g = sA (JO σ i L) 49 g := sA_sA
theorem JO_swap {i : Nat} {L : List Nat} {f : Nat → Int32} : JO (sA σ 49 f) i L = sA (JO σ i L) 49 f := by
  funext p
  unfold sA JO
  by_cases h1 : p = 38
  · subst h1; rfl
  · by_cases h2 : p = 39
    · subst h2; rfl
    · simp [h1, h2]
theorem o_joinsB {i c : Nat} {L : List Nat} {f : Nat → Int32} (hi : i < 20) (hL : L.length < 10) : exC X 115 [.ref 35, .int (nI i), .int (nI c)] (WW (sA (JO σ i L) 49 f) t) = ansV (WW (sA (JO σ i (L ++ [c])) 49 f) t) := by
  have := o_joins (X := X) (σ := sA σ 49 f) (t := t) (c := c) (L := L) hi hL
  rw [JO_swap, JO_swap] at this
  exact this
theorem l_openB {i : Nat} {w o3 o4 o5 : Value} {o7 : Option Value} {L : List Nat} (hi : i < 20) (hi0 : 0 < i) (hL : L.length + (retL σ 10).length ≤ 10) {Q : Option rR} (hQ : ans (nI (L ++ retL σ 10).length) (WW (sA (JO σ i (L ++ retL σ 10)) 49 (rtF σ 10)) t) = Q) :
    ∀ n j, j + n = 10 → exM X 116 293 [some (.ref 35), some (.int (nI i)), some w, some o3, some o4, some o5, some (.int (nI j)), o7] [] (WW (sA (JO σ i (L ++ retL σ j)) 49 (rtF σ j)) t) 0 0 = Q := by
  intro n
  induction n with
  | zero =>
    intro j hj
    have e : j = 10 := by omega
    subst e
    simp (disch := omega) only [s116_293, s116_295, s116_297, s116_300, s116_301, s116_304, s116_305, s116_308, s116_310, s116_311, s116_314, s116_315, s116_318, s116_320, s116_321, s116_324, s116_325, s116_328, s116_330, s116_331, s116_334, s116_335, s116_338, s116_340, s116_341, s116_342, s116_345, s116_346, s116_349, s116_351, s116_352 nar0, s116_352 nar1, s116_353, s116_354, s116_355, s116_357, s116_360, s116_363, s116_366, s116_367, s116_370, s116_371, s116_372, eq_self, bnd_l, bnd_r, Option.toList_some, Option.toList_none, List.cons_append, List.nil_append, Nat.add_zero, Nat.zero_add, ↓reduceIte, nI_add, nI_mul, nI_subI, lt_t, lt_f, eq_f, lt_m1, m1_lt, eq_m1, m1_eq, sA_ne, JO_39]
    exact hQ
  | succ n ih =>
    intro j hj
    rw [s116_293]
    have i1 := ih (j + 1) (by omega)
    have hm := retL_mono (σ := σ) (j := j) (n + 1)
    rw [hj] at hm
    by_cases hb : retB σ j = true
    · obtain ⟨b1, b2, b3, b4⟩ := of_decide_eq_true hb
      have hm2 := retL_mono (σ := σ) (j := j + 1) n
      rw [show j + 1 + n = 10 by omega, retL_t hb, List.length_append, List.length_singleton] at hm2
      have hj2 := o_joinsB (X := X) (σ := σ) (t := t) (c := j) (L := L ++ retL σ j) (f := rtF σ (j + 1)) hi (by rw [List.length_append]; omega)
      rw [retL_t hb, ← List.append_assoc] at i1
      simp (disch := omega) only [s116_295, s116_297, s116_300, s116_301, s116_304, s116_305, s116_308, s116_310, s116_311, s116_314, s116_315, s116_318, s116_320, s116_321, s116_324, s116_325, s116_328, s116_330, s116_331, s116_334, s116_335, s116_338, s116_340, s116_341, s116_342, s116_345, s116_346, s116_349, s116_351, s116_352 nar0, s116_352 nar1, s116_353, s116_354, s116_355, s116_357, s116_360, s116_363, eq_self, bnd_l, bnd_r, Option.toList_some, Option.toList_none, List.cons_append, List.nil_append, Nat.add_zero, Nat.zero_add, ↓reduceIte, nI_add, nI_mul, nI_subI, lt_t, lt_f, eq_f, lt_m1, m1_lt, eq_m1, m1_eq, sA_ne, sA_eq, JO_ne, rtF_at, b1, b2, b3, b4, u2_sA, rtF_t hb, hj2]
      exact i1
    · have hb' : retB σ j = false := by simpa using hb
      rw [retL_f hb', ← rtF_f hb'] at i1
      by_cases b1 : σ 49 j = nI 0
      · simp (disch := omega) only [s116_295, s116_297, s116_300, s116_301, s116_304, s116_305, s116_308, s116_310, s116_311, s116_314, s116_315, s116_318, s116_320, s116_321, s116_324, s116_325, s116_328, s116_330, s116_331, s116_334, s116_335, s116_338, s116_340, s116_341, s116_342, s116_345, s116_346, s116_349, s116_351, s116_352 nar0, s116_352 nar1, s116_353, s116_354, s116_355, s116_357, s116_360, s116_363, eq_self, bnd_l, bnd_r, Option.toList_some, Option.toList_none, List.cons_append, List.nil_append, Nat.add_zero, Nat.zero_add, ↓reduceIte, nI_add, nI_mul, nI_subI, lt_t, lt_f, eq_f, lt_m1, m1_lt, eq_m1, m1_eq, sA_ne, sA_eq, JO_ne, rtF_at, b1]
        exact i1
      · by_cases b2 : σ 50 j = nI 0
        · simp (disch := omega) only [s116_295, s116_297, s116_300, s116_301, s116_304, s116_305, s116_308, s116_310, s116_311, s116_314, s116_315, s116_318, s116_320, s116_321, s116_324, s116_325, s116_328, s116_330, s116_331, s116_334, s116_335, s116_338, s116_340, s116_341, s116_342, s116_345, s116_346, s116_349, s116_351, s116_352 nar0, s116_352 nar1, s116_353, s116_354, s116_355, s116_357, s116_360, s116_363, eq_self, bnd_l, bnd_r, Option.toList_some, Option.toList_none, List.cons_append, List.nil_append, Nat.add_zero, Nat.zero_add, ↓reduceIte, nI_add, nI_mul, nI_subI, lt_t, lt_f, eq_f, lt_m1, m1_lt, eq_m1, m1_eq, sA_ne, sA_eq, JO_ne, rtF_at, b1, b2]
          exact i1
        · by_cases b3 : σ 48 j = nI 0
          · have b4 : σ 40 j = -1 := by
              by_cases b4 : σ 40 j = -1
              · exact b4
              · exact absurd (decide_eq_true ⟨b1, b2, b3, b4⟩) hb
            simp (disch := omega) only [s116_295, s116_297, s116_300, s116_301, s116_304, s116_305, s116_308, s116_310, s116_311, s116_314, s116_315, s116_318, s116_320, s116_321, s116_324, s116_325, s116_328, s116_330, s116_331, s116_334, s116_335, s116_338, s116_340, s116_341, s116_342, s116_345, s116_346, s116_349, s116_351, s116_352 nar0, s116_352 nar1, s116_353, s116_354, s116_355, s116_357, s116_360, s116_363, eq_self, bnd_l, bnd_r, Option.toList_some, Option.toList_none, List.cons_append, List.nil_append, Nat.add_zero, Nat.zero_add, ↓reduceIte, nI_add, nI_mul, nI_subI, lt_t, lt_f, eq_f, lt_m1, m1_lt, eq_m1, m1_eq, sA_ne, sA_eq, JO_ne, rtF_at, b1, b2, b3, b4]
            exact i1
          · simp (disch := omega) only [s116_295, s116_297, s116_300, s116_301, s116_304, s116_305, s116_308, s116_310, s116_311, s116_314, s116_315, s116_318, s116_320, s116_321, s116_324, s116_325, s116_328, s116_330, s116_331, s116_334, s116_335, s116_338, s116_340, s116_341, s116_342, s116_345, s116_346, s116_349, s116_351, s116_352 nar0, s116_352 nar1, s116_353, s116_354, s116_355, s116_357, s116_360, s116_363, eq_self, bnd_l, bnd_r, Option.toList_some, Option.toList_none, List.cons_append, List.nil_append, Nat.add_zero, Nat.zero_add, ↓reduceIte, nI_add, nI_mul, nI_subI, lt_t, lt_f, eq_f, lt_m1, m1_lt, eq_m1, m1_eq, sA_ne, sA_eq, JO_ne, rtF_at, b1, b2, b3]
            exact i1
/-- who returns to a leg -/
def rtL (σ : Nat → Nat → Int32) (i : Nat) : List Nat := if i = 0 then [] else retL σ 10
def rt49 (σ : Nat → Nat → Int32) (i : Nat) : Nat → Int32 := if i = 0 then σ 49 else rtF σ 10
theorem l_openB' {i : Nat} {w o3 o4 o5 : Value} {o6 o7 : Option Value} {L : List Nat} (hi : i < 20) (hL : L.length + (rtL σ i).length ≤ 10) {Q : Option rR} (hQ : ans (nI (L ++ rtL σ i).length) (WW (sA (JO σ i (L ++ rtL σ i)) 49 (rt49 σ i)) t) = Q) :
    exM X 116 290 [some (.ref 35), some (.int (nI i)), some w, some o3, some o4, some o5, o6, o7] [] (WW (JO σ i L) t) 0 0 = Q := by
  by_cases h0 : i = 0
  · subst h0
    have e1 : sA (JO σ 0 (L ++ rtL σ 0)) 49 (rt49 σ 0) = JO σ 0 L := by
      rw [show rtL σ 0 = [] from rfl, List.append_nil]
      exact sA_self (σ := JO σ 0 L) (p := 49)
    rw [e1, show rtL σ 0 = [] from rfl, List.append_nil] at hQ
    simp (disch := omega) only [s116_290, s116_291, s116_293, s116_295, s116_297, s116_300, s116_301, s116_304, s116_305, s116_308, s116_310, s116_311, s116_314, s116_315, s116_318, s116_320, s116_321, s116_324, s116_325, s116_328, s116_330, s116_331, s116_334, s116_335, s116_338, s116_340, s116_341, s116_342, s116_345, s116_346, s116_349, s116_351, s116_352 nar0, s116_352 nar1, s116_353, s116_354, s116_355, s116_357, s116_360, s116_363, s116_366, s116_367, s116_370, s116_371, s116_372, eq_self, bnd_l, bnd_r, Option.toList_some, Option.toList_none, List.cons_append, List.nil_append, Nat.add_zero, Nat.zero_add, ↓reduceIte, nI_add, nI_mul, nI_subI, lt_t, lt_f, eq_f, lt_m1, m1_lt, eq_m1, m1_eq, JO_39]
    exact hQ
  · rw [show rtL σ i = retL σ 10 from if_neg h0] at hL hQ
    rw [show rt49 σ i = rtF σ 10 from if_neg h0] at hQ
    have hL2 := l_openB (X := X) (σ := σ) (t := t) (L := L) (w := w) (o3 := o3) (o4 := o4) (o5 := o5) (o7 := o7) hi (by omega) hL hQ 10 0 (by omega)
    have e1 : sA (JO σ i (L ++ retL σ 0)) 49 (rtF σ 0) = JO σ i L := by
      rw [show retL σ 0 = [] from rfl, List.append_nil, rtF_0]
      exact sA_self (σ := JO σ i L) (p := 49)
    rw [e1] at hL2
    simp (disch := omega) only [s116_290, s116_291, eq_self, bnd_l, bnd_r, Option.toList_some, Option.toList_none, List.cons_append, List.nil_append, Nat.add_zero, Nat.zero_add, ↓reduceIte, nI_add, nI_mul, nI_subI, lt_t, lt_f, eq_f, lt_m1, m1_lt, eq_m1, m1_eq]
    exact hL2
/-- the order of the ranks, by the way -/
def ordL (rk : Nat → Int32) (w : Nat) : List Nat := if w = 0 then numL rk 10 else if w = 1 then rkL rk 10 else rev5 (rkL rk 10)
theorem ordL_le {rk : Nat → Int32} {w : Nat} : (ordL rk w).length ≤ 10 := by
  unfold ordL
  split
  · exact numL_le
  · split
    · exact rkL_le
    · rw [rev5_len]; exact rkL_le
theorem l_openM {i w : Nat} {o3 o4 : Value} {o5 o6 o7 : Option Value} (hi : i < 20) (hw : w ≤ 2) (hL : (ordL (σ 55) w).length + (rtL σ i).length ≤ 10) {Q : Option rR} (hQ : ans (nI (ordL (σ 55) w ++ rtL σ i).length) (WW (sA (JO σ i (ordL (σ 55) w ++ rtL σ i)) 49 (rt49 σ i)) t) = Q) :
    exM X 116 97 [some (.ref 35), some (.int (nI i)), some (.int (nI w)), some o3, some o4, o5, o6, o7] [] (WW σ t) 0 0 = Q := by
  have hB := fun (L : List Nat) (e : L = ordL (σ 55) w) o5 o6 o7 => l_openB' (X := X) (σ := σ) (t := t) (L := L) (Q := Q) (w := .int (nI w)) (o3 := o3) (o4 := o4) (o5 := o5) (o6 := o6) (o7 := o7) hi (by rw [e]; exact hL) (by rw [e]; exact hQ)
  by_cases h0 : w = 0
  · subst h0
    have hN := l_openN (X := X) (σ := σ) (t := t) (w := .int (nI 0)) (o3 := o3) (o4 := o4) (o6 := o6) (o7 := o7) hi (Q := Q) (by
      simp (disch := omega) only [s116_142, s116_143, s116_145, s116_147, s116_149, s116_152, s116_153, s116_156, s116_157, s116_159, s116_162, s116_164, s116_166, s116_167, s116_170, s116_171, s116_172, s116_174, s116_177, s116_180, eq_self, bnd_l, bnd_r, Option.toList_some, Option.toList_none, List.cons_append, List.nil_append, Nat.add_zero, Nat.zero_add, ↓reduceIte, nI_add, nI_mul, nI_subI, lt_t, lt_f, eq_f, lt_m1, m1_lt, eq_m1, m1_eq]
      exact l_openW hi (by rw [eq_f (by omega) (by omega) (by omega)]; exact id) numL_le (fun o5 => hB _ rfl _ _ _)) 10 0 (by omega)
    rw [show numL (σ 55) 0 = [] from rfl, ← JO_nil] at hN
    simp (disch := omega) only [s116_97, s116_98, s116_101, s116_102, s116_103, s116_104, s116_105, s116_108, s116_109, eq_self, bnd_l, bnd_r, Option.toList_some, Option.toList_none, List.cons_append, List.nil_append, Nat.add_zero, Nat.zero_add, ↓reduceIte, nI_add, nI_mul, nI_subI, lt_t, lt_f, eq_f, lt_m1, m1_lt, eq_m1, m1_eq]
    exact hN
  · have hR := l_openR (X := X) (σ := σ) (t := t) (w := nI w) (o3 := o3) (o4 := o4) (o7 := o7) hi (by rw [eq_f (by omega) (by omega) (by omega)]; exact id) (Q := Q) (fun o6 => by
      by_cases h1 : w = 1
      · subst h1
        exact l_openW hi (by rw [eq_f (by omega) (by omega) (by omega)]; exact id) rkL_le (fun o5 => hB _ rfl _ _ _)
      · have h2 : w = 2 := by omega
        subst h2
        exact l_openT hi rkL_le (fun o5 o6 o7 => hB _ rfl _ _ _)) 10 0 (by omega) o6
    rw [show rkL (σ 55) 0 = [] from rfl, ← JO_nil] at hR
    simp (disch := omega) only [s116_97, s116_98, s116_101, s116_102, s116_103, s116_104, s116_105, s116_108, s116_109, s116_142, s116_143, eq_self, bnd_l, bnd_r, Option.toList_some, Option.toList_none, List.cons_append, List.nil_append, Nat.add_zero, Nat.zero_add, ↓reduceIte, nI_add, nI_mul, nI_subI, lt_t, lt_f, eq_f, lt_m1, m1_lt, eq_m1, m1_eq]
    exact hR
/-- what an opening makes of the state -/
noncomputable def opnR (σ : Nat → Nat → Int32) (N i w : Nat) : Nat → Nat → Int32 :=
  sA (JO (layR (if i = 0 then nI 1 else nI 0) (u2 σ 35 0 (nI 0)) N) i (ordL (layR (if i = 0 then nI 1 else nI 0) (u2 σ 35 0 (nI 0)) N 55) w ++ rtL σ i)) 49 (rt49 σ i)
theorem q_open1 {N : Nat} {a b : Int32} (hR : σ 35 1 = nI N) (hN : N ≤ 20) (ha : ¬ inR a N) : exC X 116 [.ref 35, .int a, .int b] (WW σ t) = ans (nI 0) (WW (u2 σ 35 0 (nI 1)) t) := by
  rw [ent_116]
  have i1 := isItem_no (X := X) (t := t) hR hN ha
  simp (disch := omega) only [s116_0, s116_1, s116_2, s116_5, s116_6, s116_7, s116_10, s116_11, s116_12, s116_13, s116_16, s116_19, s116_20, s116_23, s116_24, s116_25, s116_28, s116_29, s116_32, s116_33, s116_35, s116_36, s116_37, s116_40, s116_41, s116_44, s116_46, s116_49, s116_50, s116_53, s116_54, s116_57, s116_58, s116_59, s116_60, s116_63, s116_64, s116_65, s116_68, s116_71, s116_72, s116_75, s116_76, s116_79, s116_82, s116_83, eq_self, bnd_l, bnd_r, Option.toList_some, Option.toList_none, List.cons_append, List.nil_append, Nat.add_zero, Nat.zero_add, ↓reduceIte, nI_add, nI_mul, nI_subI, lt_t, lt_f, eq_f, lt_m1, m1_lt, eq_m1, m1_eq, i1, c_holds]
theorem q_open2 {N i : Nat} {b : Int32} (hR : σ 35 1 = nI N) (hN : N ≤ 20) (hi : i < N) (hb : ¬ (inR b 3 ∧ σ 36 i = nI 0)) : exC X 116 [.ref 35, .int (nI i), .int b] (WW σ t) = ans (nI 0) (WW (u2 σ 35 0 (nI 2)) t) := by
  rw [ent_116]
  have i1 := isItem_in (X := X) (t := t) hR hN hi
  by_cases h1 : inR b 3
  · have h2 : ¬ σ 36 i = nI 0 := fun z => hb ⟨h1, z⟩
    obtain ⟨j, hj, rfl⟩ := h1
    have i2 : exC X 109 [.int (nI j), .int (nI 0), .int (nI 2)] (WW σ t) = ans (nI 1) (WW σ t) := isIn_in (by omega) (by omega) (by omega)
    simp (disch := omega) only [s116_0, s116_1, s116_2, s116_5, s116_6, s116_7, s116_10, s116_11, s116_12, s116_13, s116_16, s116_19, s116_20, s116_23, s116_24, s116_25, s116_28, s116_29, s116_32, s116_33, s116_35, s116_36, s116_37, s116_40, s116_41, s116_44, s116_46, s116_49, s116_50, s116_53, s116_54, s116_57, s116_58, s116_59, s116_60, s116_63, s116_64, s116_65, s116_68, s116_71, s116_72, s116_75, s116_76, s116_79, s116_82, s116_83, eq_self, bnd_l, bnd_r, Option.toList_some, Option.toList_none, List.cons_append, List.nil_append, Nat.add_zero, Nat.zero_add, ↓reduceIte, nI_add, nI_mul, nI_subI, lt_t, lt_f, eq_f, lt_m1, m1_lt, eq_m1, m1_eq, i1, i2, c_holds, h2]
  · have i2 := isIn_no (X := X) (h := WW σ t) (b := 2) (by omega) h1
    simp (disch := omega) only [s116_0, s116_1, s116_2, s116_5, s116_6, s116_7, s116_10, s116_11, s116_12, s116_13, s116_16, s116_19, s116_20, s116_23, s116_24, s116_25, s116_28, s116_29, s116_32, s116_33, s116_35, s116_36, s116_37, s116_40, s116_41, s116_44, s116_46, s116_49, s116_50, s116_53, s116_54, s116_57, s116_58, s116_59, s116_60, s116_63, s116_64, s116_65, s116_68, s116_71, s116_72, s116_75, s116_76, s116_79, s116_82, s116_83, eq_self, bnd_l, bnd_r, Option.toList_some, Option.toList_none, List.cons_append, List.nil_append, Nat.add_zero, Nat.zero_add, ↓reduceIte, nI_add, nI_mul, nI_subI, lt_t, lt_f, eq_f, lt_m1, m1_lt, eq_m1, m1_eq, i1, i2, c_holds]
theorem q_open3 {N i w : Nat} (hR : σ 35 1 = nI N) (hN : N ≤ 20) (hi : i < N) (hw : w ≤ 2) (hk : σ 36 i = nI 0) (hn : ¬ (σ 39 i = -1 ∧ opnF (σ 36) (σ 39) i)) : exC X 116 [.ref 35, .int (nI i), .int (nI w)] (WW σ t) = ans (nI 0) (WW (u2 σ 35 0 (nI 3)) t) := by
  rw [ent_116]
  have i1 := isItem_in (X := X) (t := t) hR hN hi
  have i2 : exC X 109 [.int (nI w), .int (nI 0), .int (nI 2)] (WW σ t) = ans (nI 1) (WW σ t) := isIn_in (by omega) (by omega) (by omega)
  by_cases h1 : σ 39 i = -1
  · have i3 := (r_openAhead (X := X) (σ := σ) (t := t) (by omega : i < 20)).2 (fun z => hn ⟨h1, z⟩)
    simp (disch := omega) only [s116_0, s116_1, s116_2, s116_5, s116_6, s116_7, s116_10, s116_11, s116_12, s116_13, s116_16, s116_19, s116_20, s116_23, s116_24, s116_25, s116_28, s116_29, s116_32, s116_33, s116_35, s116_36, s116_37, s116_40, s116_41, s116_44, s116_46, s116_49, s116_50, s116_53, s116_54, s116_57, s116_58, s116_59, s116_60, s116_63, s116_64, s116_65, s116_68, s116_71, s116_72, s116_75, s116_76, s116_79, s116_82, s116_83, eq_self, bnd_l, bnd_r, Option.toList_some, Option.toList_none, List.cons_append, List.nil_append, Nat.add_zero, Nat.zero_add, ↓reduceIte, nI_add, nI_mul, nI_subI, lt_t, lt_f, eq_f, lt_m1, m1_lt, eq_m1, m1_eq, i1, i2, c_holds, hk, h1, i3]
  · simp (disch := omega) only [s116_0, s116_1, s116_2, s116_5, s116_6, s116_7, s116_10, s116_11, s116_12, s116_13, s116_16, s116_19, s116_20, s116_23, s116_24, s116_25, s116_28, s116_29, s116_32, s116_33, s116_35, s116_36, s116_37, s116_40, s116_41, s116_44, s116_46, s116_49, s116_50, s116_53, s116_54, s116_57, s116_58, s116_59, s116_60, s116_63, s116_64, s116_65, s116_68, s116_71, s116_72, s116_75, s116_76, s116_79, s116_82, s116_83, eq_self, bnd_l, bnd_r, Option.toList_some, Option.toList_none, List.cons_append, List.nil_append, Nat.add_zero, Nat.zero_add, ↓reduceIte, nI_add, nI_mul, nI_subI, lt_t, lt_f, eq_f, lt_m1, m1_lt, eq_m1, m1_eq, i1, i2, c_holds, hk, h1]
theorem q_open0 {N i w : Nat} (hR : RK σ N) (hi : i < N) (hw : w ≤ 2) (hk : σ 36 i = nI 0) (h1 : σ 39 i = -1) (h2 : opnF (σ 36) (σ 39) i) (hL : (ordL (layR (if i = 0 then nI 1 else nI 0) (u2 σ 35 0 (nI 0)) N 55) w).length + (rtL σ i).length ≤ 10) :
    exC X 116 [.ref 35, .int (nI i), .int (nI w)] (WW σ t) = ans (nI (ordL (layR (if i = 0 then nI 1 else nI 0) (u2 σ 35 0 (nI 0)) N 55) w ++ rtL σ i).length) (WW (opnR σ N i w) t) := by
  rw [ent_116]
  have hN := hR.1
  have i1 := isItem_in (X := X) (t := t) hR.2.1 hN hi
  have i2 : exC X 109 [.int (nI w), .int (nI 0), .int (nI 2)] (WW σ t) = ans (nI 1) (WW σ t) := isIn_in (by omega) (by omega) (by omega)
  have i3 := (r_openAhead (X := X) (σ := σ) (t := t) (by omega : i < 20)).1 h2
  unfold opnR
  by_cases h0 : i = 0
  · subst h0
    rw [if_pos rfl] at hL ⊢
    have i4 := r_laysRanks (X := X) (σ := (u2 σ 35 0 (nI 0))) (t := t) (z := nI 1) (N := N) (Or.inr rfl) hR
    have hM := l_openM (X := X) (σ := layR (nI 1) (u2 σ 35 0 (nI 0)) N) (t := t) (i := 0) (w := w) (o3 := .int (nI 1)) (o4 := .int (nI 1)) (o5 := none) (o6 := none) (o7 := none) (by omega) hw hL rfl
    simp (disch := omega) only [s116_0, s116_1, s116_2, s116_5, s116_6, s116_7, s116_10, s116_11, s116_12, s116_13, s116_16, s116_19, s116_20, s116_23, s116_24, s116_25, s116_28, s116_29, s116_32, s116_33, s116_35, s116_36, s116_37, s116_40, s116_41, s116_44, s116_46, s116_49, s116_50, s116_53, s116_54, s116_57, s116_58, s116_59, s116_60, s116_63, s116_64, s116_65, s116_68, s116_71, s116_72, s116_75, s116_76, s116_79, s116_82, s116_83, s116_84, s116_85, s116_86, s116_89, s116_90, s116_93, s116_94, eq_self, bnd_l, bnd_r, Option.toList_some, Option.toList_none, List.cons_append, List.nil_append, Nat.add_zero, Nat.zero_add, ↓reduceIte, nI_add, nI_mul, nI_subI, lt_t, lt_f, eq_f, lt_m1, m1_lt, eq_m1, m1_eq, i1, i2, i3, c_holds, hk, h1, i4]
    exact hM
  · rw [if_neg h0] at hL ⊢
    have i4 := r_laysRanks (X := X) (σ := (u2 σ 35 0 (nI 0))) (t := t) (z := nI 0) (N := N) (Or.inl rfl) hR
    have hM := l_openM (X := X) (σ := layR (nI 0) (u2 σ 35 0 (nI 0)) N) (t := t) (i := i) (w := w) (o3 := .int (nI 1)) (o4 := .int (nI 1)) (o5 := none) (o6 := none) (o7 := none) (by omega) hw hL rfl
    simp (disch := omega) only [s116_0, s116_1, s116_2, s116_5, s116_6, s116_7, s116_10, s116_11, s116_12, s116_13, s116_16, s116_19, s116_20, s116_23, s116_24, s116_25, s116_28, s116_29, s116_32, s116_33, s116_35, s116_36, s116_37, s116_40, s116_41, s116_44, s116_46, s116_49, s116_50, s116_53, s116_54, s116_57, s116_58, s116_59, s116_60, s116_63, s116_64, s116_65, s116_68, s116_71, s116_72, s116_75, s116_76, s116_79, s116_82, s116_83, s116_84, s116_85, s116_86, s116_89, s116_90, s116_93, s116_94, eq_self, bnd_l, bnd_r, Option.toList_some, Option.toList_none, List.cons_append, List.nil_append, Nat.add_zero, Nat.zero_add, ↓reduceIte, nI_add, nI_mul, nI_subI, lt_t, lt_f, eq_f, lt_m1, m1_lt, eq_m1, m1_eq, i1, i2, i3, c_holds, hk, h1, i4]
    exact hM
end REF9
