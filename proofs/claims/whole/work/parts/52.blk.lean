/-! THE LAW: its blocks -/
/-- the law ends with true, having made at most K cells of S slots -/
def FIN (q : Option rR) (K S : Nat) : Prop := ∃ h k s, q = some (.inl (some (.int (nI 1))), h, k, s) ∧ k ≤ K ∧ s ≤ S
def NXT (X : rX) (i : Nat) (σ : Nat → Nat → Int32) (τ : Nat → Int64) (t : rH) (n pc : Nat) : Prop := ∃ σ2 τ1 t1 N' r' k1 s1, k1 ≤ 33 ∧ s1 ≤ 4036 ∧ INV σ2 N' r' (n + 1) ∧ t1.length ≤ t.length + 32 ∧ ∀ o5 o6 k s, ∃ o5' o6', ∀ K S,
  FIN (exM X 175 1428 [some (.ref 100000), some (.ref 0), some (.ref 35), some (.ref 57), some (.int (nI i)), o5', o6'] [] (WW σ2 (outc τ1 :: t1)) (k + k1) (s + s1)) K S → FIN (exM X 175 pc [some (.ref 100000), some (.ref 0), some (.ref 35), some (.ref 57), some (.int (nI i)), o5, o6] [] (WW σ (outc τ :: t)) k s) K S
section BLK
variable {X : rX} {σ : Nat → Nat → Int32} {τ : Nat → Int64} {t : rH} {N r n i : Nat}
theorem b_item (h : INV σ N r n) (hn : n ≤ 512) (hi : i + 5 ≤ X.1) (hX : X.1 < 2 ^ 31) : NXT X i σ τ t n 128 := by
  obtain ⟨c, σ1, τ1, σ2, N', b, k1, s1, hc, hk, hs, i1, i2, e3, hI, e4⟩ := lw_item (X := X) (τ := τ) (t := t) (a := X.2 (i + 1)) (b := X.2 (i + 2)) h
  have i3 := q_thrown (X := X) (σ := σ2) (t := outc τ1 :: t)
  rw [e3] at i3
  refine ⟨σ2, τ1, t, N', r, k1, s1, by omega, by omega, hI, by omega, fun o5 o6 k s => ⟨some (.int (nI c)), some (.int b), fun K S hF => ?_⟩⟩
  by_cases hz : c = 0
  · subst hz
    have e6 : lg_cmp (τ1 0) b.toInt64 = nI 0 := by rw [e4 rfl]; exact lcmp_self
    simp (disch := omega) only [s175_128, s175_129, s175_130, s175_132, s175_133, s175_134, s175_135, s175_136, s175_138, s175_139, s175_140, s175_141, s175_142, s175_145, s175_147, s175_148, s175_149, s175_151, s175_152, s175_153, s175_154, s175_155, s175_157, s175_158, s175_159, s175_160, s175_163, s175_165, s175_166, s175_169, s175_171, s175_174, s175_175z0, s175_175z1, s175_176, s175_178, s175_181, s175_182, s175_183, s175_184, s175_186, s175_187, s175_188, s175_191, s175_192z0, s175_192z1, s175_193, c10, c100, c6, eq_self, bnd_l, bnd_r, Option.toList_some, Option.toList_none, List.cons_append, List.nil_append, Nat.add_zero, Nat.zero_add, ↓reduceIte, nI_add, nI_mul, nI_subI, lt_t, lt_f, eq_f, lt_m1, m1_lt, eq_m1, m1_eq, i1, i2, i3, e6]
    exact hF
  · simp (disch := omega) only [s175_128, s175_129, s175_130, s175_132, s175_133, s175_134, s175_135, s175_136, s175_138, s175_139, s175_140, s175_141, s175_142, s175_145, s175_147, s175_148, s175_149, s175_151, s175_152, s175_153, s175_154, s175_155, s175_157, s175_158, s175_159, s175_160, s175_163, s175_165, s175_166, s175_169, s175_171, s175_174, s175_175z0, s175_175z1, s175_176, s175_178, s175_181, s175_182, s175_183, s175_184, s175_186, s175_187, s175_188, s175_191, s175_192z0, s175_192z1, s175_193, c10, c100, c6, eq_self, bnd_l, bnd_r, Option.toList_some, Option.toList_none, List.cons_append, List.nil_append, Nat.add_zero, Nat.zero_add, ↓reduceIte, nI_add, nI_mul, nI_subI, lt_t, lt_f, eq_f, lt_m1, m1_lt, eq_m1, m1_eq, i1, i2, i3]
    exact hF
theorem b_open (h : INV σ N r n) (hn : n ≤ 512) (hi : i + 5 ≤ X.1) (hX : X.1 < 2 ^ 31) : NXT X i σ τ t n 196 := by
  obtain ⟨c, σ1, τ1, σ2, N', b, k1, s1, hc, hk, hs, i1, i2, e3, hI, e4⟩ := lw_open (X := X) (τ := τ) (t := t) (a := X.2 (i + 1)) (b := X.2 (i + 2)) h hn
  have i3 := q_thrown (X := X) (σ := σ2) (t := outc τ1 :: t)
  rw [e3] at i3
  refine ⟨σ2, τ1, t, N', r, k1, s1, by omega, by omega, hI, by omega, fun o5 o6 k s => ⟨some (.int (nI c)), some (.int b), fun K S hF => ?_⟩⟩
  by_cases hz : c = 0
  · subst hz
    have e6 : lg_cmp (τ1 0) b.toInt64 = nI 0 := by rw [e4 rfl]; exact lcmp_self
    simp (disch := omega) only [s175_196, s175_197, s175_198, s175_200, s175_201, s175_202, s175_203, s175_204, s175_206, s175_207, s175_208, s175_209, s175_210, s175_213, s175_215, s175_216, s175_217, s175_219, s175_220, s175_221, s175_222, s175_223, s175_225, s175_226, s175_227, s175_228, s175_231, s175_233, s175_234, s175_237, s175_239, s175_242, s175_243z0, s175_243z1, s175_244, s175_246, s175_249, s175_250, s175_251, s175_252, s175_254, s175_255, s175_256, s175_259, s175_260z0, s175_260z1, s175_261, c10, c100, c6, eq_self, bnd_l, bnd_r, Option.toList_some, Option.toList_none, List.cons_append, List.nil_append, Nat.add_zero, Nat.zero_add, ↓reduceIte, nI_add, nI_mul, nI_subI, lt_t, lt_f, eq_f, lt_m1, m1_lt, eq_m1, m1_eq, i1, i2, i3, e6]
    exact hF
  · simp (disch := omega) only [s175_196, s175_197, s175_198, s175_200, s175_201, s175_202, s175_203, s175_204, s175_206, s175_207, s175_208, s175_209, s175_210, s175_213, s175_215, s175_216, s175_217, s175_219, s175_220, s175_221, s175_222, s175_223, s175_225, s175_226, s175_227, s175_228, s175_231, s175_233, s175_234, s175_237, s175_239, s175_242, s175_243z0, s175_243z1, s175_244, s175_246, s175_249, s175_250, s175_251, s175_252, s175_254, s175_255, s175_256, s175_259, s175_260z0, s175_260z1, s175_261, c10, c100, c6, eq_self, bnd_l, bnd_r, Option.toList_some, Option.toList_none, List.cons_append, List.nil_append, Nat.add_zero, Nat.zero_add, ↓reduceIte, nI_add, nI_mul, nI_subI, lt_t, lt_f, eq_f, lt_m1, m1_lt, eq_m1, m1_eq, i1, i2, i3]
    exact hF
theorem b_starts (h : INV σ N r n) (hn : n ≤ 512) (hi : i + 5 ≤ X.1) (hX : X.1 < 2 ^ 31) : NXT X i σ τ t n 264 := by
  obtain ⟨c, σ1, τ1, σ2, N', b, k1, s1, hc, hk, hs, i1, i2, e3, hI, e4⟩ := lw_starts (X := X) (τ := τ) (t := t) (a := X.2 (i + 1)) (b := X.2 (i + 2)) h
  have i3 := q_thrown (X := X) (σ := σ2) (t := outc τ1 :: t)
  rw [e3] at i3
  refine ⟨σ2, τ1, t, N', r, k1, s1, by omega, by omega, hI, by omega, fun o5 o6 k s => ⟨some (.int (nI c)), some (.int b), fun K S hF => ?_⟩⟩
  by_cases hz : c = 0
  · subst hz
    have e6 : lg_cmp (τ1 0) b.toInt64 = nI 0 := by rw [e4 rfl]; exact lcmp_self
    simp (disch := omega) only [s175_264, s175_265, s175_266, s175_268, s175_269, s175_270, s175_271, s175_272, s175_274, s175_275, s175_276, s175_277, s175_278, s175_281, s175_283, s175_284, s175_285, s175_287, s175_288, s175_289, s175_290, s175_291, s175_293, s175_294, s175_295, s175_296, s175_299, s175_301, s175_302, s175_305, s175_307, s175_310, s175_311z0, s175_311z1, s175_312, s175_314, s175_317, s175_318, s175_319, s175_320, s175_322, s175_323, s175_324, s175_327, s175_328z0, s175_328z1, s175_329, c10, c100, c6, eq_self, bnd_l, bnd_r, Option.toList_some, Option.toList_none, List.cons_append, List.nil_append, Nat.add_zero, Nat.zero_add, ↓reduceIte, nI_add, nI_mul, nI_subI, lt_t, lt_f, eq_f, lt_m1, m1_lt, eq_m1, m1_eq, i1, i2, i3, e6]
    exact hF
  · simp (disch := omega) only [s175_264, s175_265, s175_266, s175_268, s175_269, s175_270, s175_271, s175_272, s175_274, s175_275, s175_276, s175_277, s175_278, s175_281, s175_283, s175_284, s175_285, s175_287, s175_288, s175_289, s175_290, s175_291, s175_293, s175_294, s175_295, s175_296, s175_299, s175_301, s175_302, s175_305, s175_307, s175_310, s175_311z0, s175_311z1, s175_312, s175_314, s175_317, s175_318, s175_319, s175_320, s175_322, s175_323, s175_324, s175_327, s175_328z0, s175_328z1, s175_329, c10, c100, c6, eq_self, bnd_l, bnd_r, Option.toList_some, Option.toList_none, List.cons_append, List.nil_append, Nat.add_zero, Nat.zero_add, ↓reduceIte, nI_add, nI_mul, nI_subI, lt_t, lt_f, eq_f, lt_m1, m1_lt, eq_m1, m1_eq, i1, i2, i3]
    exact hF
theorem b_due (h : INV σ N r n) (hn : n ≤ 512) (hi : i + 5 ≤ X.1) (hX : X.1 < 2 ^ 31) : NXT X i σ τ t n 332 := by
  obtain ⟨c, σ1, τ1, σ2, N', b, k1, s1, hc, hk, hs, i1, i2, e3, hI, e4⟩ := lw_due (X := X) (τ := τ) (t := t) (a := X.2 (i + 1)) (b := X.2 (i + 2)) h
  have i3 := q_thrown (X := X) (σ := σ2) (t := outc τ1 :: t)
  rw [e3] at i3
  refine ⟨σ2, τ1, t, N', r, k1, s1, by omega, by omega, hI, by omega, fun o5 o6 k s => ⟨some (.int (nI c)), some (.int b), fun K S hF => ?_⟩⟩
  by_cases hz : c = 0
  · subst hz
    have e6 : lg_cmp (τ1 0) b.toInt64 = nI 0 := by rw [e4 rfl]; exact lcmp_self
    simp (disch := omega) only [s175_332, s175_333, s175_334, s175_336, s175_337, s175_338, s175_339, s175_340, s175_342, s175_343, s175_344, s175_345, s175_346, s175_349, s175_351, s175_352, s175_353, s175_355, s175_356, s175_357, s175_358, s175_359, s175_361, s175_362, s175_363, s175_364, s175_367, s175_369, s175_370, s175_373, s175_375, s175_378, s175_379z0, s175_379z1, s175_380, s175_382, s175_385, s175_386, s175_387, s175_388, s175_390, s175_391, s175_392, s175_395, s175_396z0, s175_396z1, s175_397, c10, c100, c6, eq_self, bnd_l, bnd_r, Option.toList_some, Option.toList_none, List.cons_append, List.nil_append, Nat.add_zero, Nat.zero_add, ↓reduceIte, nI_add, nI_mul, nI_subI, lt_t, lt_f, eq_f, lt_m1, m1_lt, eq_m1, m1_eq, i1, i2, i3, e6]
    exact hF
  · simp (disch := omega) only [s175_332, s175_333, s175_334, s175_336, s175_337, s175_338, s175_339, s175_340, s175_342, s175_343, s175_344, s175_345, s175_346, s175_349, s175_351, s175_352, s175_353, s175_355, s175_356, s175_357, s175_358, s175_359, s175_361, s175_362, s175_363, s175_364, s175_367, s175_369, s175_370, s175_373, s175_375, s175_378, s175_379z0, s175_379z1, s175_380, s175_382, s175_385, s175_386, s175_387, s175_388, s175_390, s175_391, s175_392, s175_395, s175_396z0, s175_396z1, s175_397, c10, c100, c6, eq_self, bnd_l, bnd_r, Option.toList_some, Option.toList_none, List.cons_append, List.nil_append, Nat.add_zero, Nat.zero_add, ↓reduceIte, nI_add, nI_mul, nI_subI, lt_t, lt_f, eq_f, lt_m1, m1_lt, eq_m1, m1_eq, i1, i2, i3]
    exact hF
theorem b_stamp (h : INV σ N r n) (hn : n ≤ 512) (hi : i + 5 ≤ X.1) (hX : X.1 < 2 ^ 31) : NXT X i σ τ t n 400 := by
  obtain ⟨c, σ1, τ1, σ2, N', b, k1, s1, hc, hk, hs, i1, i2, e3, hI, e4⟩ := lw_stamp (X := X) (τ := τ) (t := t) (a := X.2 (i + 1)) (b := X.2 (i + 2)) (c := X.2 (i + 3)) h
  have i3 := q_thrown (X := X) (σ := σ2) (t := outc τ1 :: t)
  rw [e3] at i3
  refine ⟨σ2, τ1, t, N', r, k1, s1, by omega, by omega, hI, by omega, fun o5 o6 k s => ⟨some (.int (nI c)), some (.int b), fun K S hF => ?_⟩⟩
  by_cases hz : c = 0
  · subst hz
    have e6 : lg_cmp (τ1 0) b.toInt64 = nI 0 := by rw [e4 rfl]; exact lcmp_self
    simp (disch := omega) only [s175_400, s175_401, s175_402, s175_404, s175_405, s175_406, s175_407, s175_408, s175_410, s175_411, s175_412, s175_413, s175_414, s175_416, s175_417, s175_418, s175_419, s175_420, s175_423, s175_425, s175_426, s175_427, s175_429, s175_430, s175_431, s175_432, s175_433, s175_435, s175_436, s175_437, s175_438, s175_439, s175_441, s175_442, s175_443, s175_444, s175_447, s175_449, s175_450, s175_453, s175_455, s175_458, s175_459z0, s175_459z1, s175_460, s175_462, s175_465, s175_466, s175_467, s175_468, s175_470, s175_471, s175_472, s175_475, s175_476z0, s175_476z1, s175_477, c10, c100, c6, eq_self, bnd_l, bnd_r, Option.toList_some, Option.toList_none, List.cons_append, List.nil_append, Nat.add_zero, Nat.zero_add, ↓reduceIte, nI_add, nI_mul, nI_subI, lt_t, lt_f, eq_f, lt_m1, m1_lt, eq_m1, m1_eq, i1, i2, i3, e6]
    exact hF
  · simp (disch := omega) only [s175_400, s175_401, s175_402, s175_404, s175_405, s175_406, s175_407, s175_408, s175_410, s175_411, s175_412, s175_413, s175_414, s175_416, s175_417, s175_418, s175_419, s175_420, s175_423, s175_425, s175_426, s175_427, s175_429, s175_430, s175_431, s175_432, s175_433, s175_435, s175_436, s175_437, s175_438, s175_439, s175_441, s175_442, s175_443, s175_444, s175_447, s175_449, s175_450, s175_453, s175_455, s175_458, s175_459z0, s175_459z1, s175_460, s175_462, s175_465, s175_466, s175_467, s175_468, s175_470, s175_471, s175_472, s175_475, s175_476z0, s175_476z1, s175_477, c10, c100, c6, eq_self, bnd_l, bnd_r, Option.toList_some, Option.toList_none, List.cons_append, List.nil_append, Nat.add_zero, Nat.zero_add, ↓reduceIte, nI_add, nI_mul, nI_subI, lt_t, lt_f, eq_f, lt_m1, m1_lt, eq_m1, m1_eq, i1, i2, i3]
    exact hF
theorem b_delay (h : INV σ N r n) (hn : n ≤ 512) (hi : i + 5 ≤ X.1) (hX : X.1 < 2 ^ 31) : NXT X i σ τ t n 480 := by
  obtain ⟨c, σ1, τ1, σ2, N', b, k1, s1, hc, hk, hs, i1, i2, e3, hI, e4⟩ := lw_delay (X := X) (τ := τ) (t := t) (a := X.2 (i + 1)) (b := X.2 (i + 2)) (c := X.2 (i + 3)) h
  have i3 := q_thrown (X := X) (σ := σ2) (t := outc τ1 :: t)
  rw [e3] at i3
  refine ⟨σ2, τ1, t, N', r, k1, s1, by omega, by omega, hI, by omega, fun o5 o6 k s => ⟨some (.int (nI c)), some (.int b), fun K S hF => ?_⟩⟩
  by_cases hz : c = 0
  · subst hz
    have e6 : lg_cmp (τ1 0) b.toInt64 = nI 0 := by rw [e4 rfl]; exact lcmp_self
    simp (disch := omega) only [s175_480, s175_481, s175_482, s175_484, s175_485, s175_486, s175_487, s175_488, s175_490, s175_491, s175_492, s175_493, s175_494, s175_496, s175_497, s175_498, s175_499, s175_500, s175_503, s175_505, s175_506, s175_507, s175_509, s175_510, s175_511, s175_512, s175_513, s175_515, s175_516, s175_517, s175_518, s175_519, s175_521, s175_522, s175_523, s175_524, s175_527, s175_529, s175_530, s175_533, s175_535, s175_538, s175_539z0, s175_539z1, s175_540, s175_542, s175_545, s175_546, s175_547, s175_548, s175_550, s175_551, s175_552, s175_555, s175_556z0, s175_556z1, s175_557, c10, c100, c6, eq_self, bnd_l, bnd_r, Option.toList_some, Option.toList_none, List.cons_append, List.nil_append, Nat.add_zero, Nat.zero_add, ↓reduceIte, nI_add, nI_mul, nI_subI, lt_t, lt_f, eq_f, lt_m1, m1_lt, eq_m1, m1_eq, i1, i2, i3, e6]
    exact hF
  · simp (disch := omega) only [s175_480, s175_481, s175_482, s175_484, s175_485, s175_486, s175_487, s175_488, s175_490, s175_491, s175_492, s175_493, s175_494, s175_496, s175_497, s175_498, s175_499, s175_500, s175_503, s175_505, s175_506, s175_507, s175_509, s175_510, s175_511, s175_512, s175_513, s175_515, s175_516, s175_517, s175_518, s175_519, s175_521, s175_522, s175_523, s175_524, s175_527, s175_529, s175_530, s175_533, s175_535, s175_538, s175_539z0, s175_539z1, s175_540, s175_542, s175_545, s175_546, s175_547, s175_548, s175_550, s175_551, s175_552, s175_555, s175_556z0, s175_556z1, s175_557, c10, c100, c6, eq_self, bnd_l, bnd_r, Option.toList_some, Option.toList_none, List.cons_append, List.nil_append, Nat.add_zero, Nat.zero_add, ↓reduceIte, nI_add, nI_mul, nI_subI, lt_t, lt_f, eq_f, lt_m1, m1_lt, eq_m1, m1_eq, i1, i2, i3]
    exact hF
theorem b_held (h : INV σ N r n) (hn : n ≤ 512) (hi : i + 5 ≤ X.1) (hX : X.1 < 2 ^ 31) : NXT X i σ τ t n 648 := by
  by_cases ez : X.2 (i + 3) = nI 0
  · have i0 := True.intro
    obtain ⟨c, σ1, τ1, σ2, N', b, k1, s1, hc, hk, hs, i1, i2, e3, hI, e4⟩ := lw_held (X := X) (τ := τ) (t := t) (a := X.2 (i + 1)) (b := X.2 (i + 2)) (c := nI 0) h (Or.inl rfl)
    have i3 := q_thrown (X := X) (σ := σ2) (t := outc τ1 :: t)
    rw [e3] at i3
    refine ⟨σ2, τ1, t, N', r, k1, s1, by omega, by omega, hI, by omega, fun o5 o6 k s => ⟨some (.int (nI c)), some (.int b), fun K S hF => ?_⟩⟩
    by_cases hz : c = 0
    · subst hz
      have e6 : lg_cmp (τ1 0) b.toInt64 = nI 0 := by rw [e4 rfl]; exact lcmp_self
      simp (disch := omega) only [s175_648, s175_649, s175_650, s175_652, s175_653, s175_654, s175_655, s175_656, s175_658, s175_659, s175_660, s175_661, s175_662, s175_664, s175_665, s175_666, s175_667, s175_670, s175_671, s175_674, s175_675, s175_676, s175_679, s175_681, s175_682, s175_683, s175_685, s175_686, s175_687, s175_688, s175_689, s175_691, s175_692, s175_693, s175_694, s175_695, s175_697, s175_698, s175_699, s175_700, s175_703, s175_704, s175_707, s175_708, s175_711, s175_713, s175_714, s175_717, s175_719, s175_722, s175_723z0, s175_723z1, s175_724, s175_726, s175_729, s175_730, s175_731, s175_732, s175_734, s175_735, s175_736, s175_739, s175_740z0, s175_740z1, s175_741, c10, c100, c6, eq_self, bnd_l, bnd_r, Option.toList_some, Option.toList_none, List.cons_append, List.nil_append, Nat.add_zero, Nat.zero_add, ↓reduceIte, nI_add, nI_mul, nI_subI, lt_t, lt_f, eq_f, lt_m1, m1_lt, eq_m1, m1_eq, i1, i2, i3, e6, ez]
      exact hF
    · simp (disch := omega) only [s175_648, s175_649, s175_650, s175_652, s175_653, s175_654, s175_655, s175_656, s175_658, s175_659, s175_660, s175_661, s175_662, s175_664, s175_665, s175_666, s175_667, s175_670, s175_671, s175_674, s175_675, s175_676, s175_679, s175_681, s175_682, s175_683, s175_685, s175_686, s175_687, s175_688, s175_689, s175_691, s175_692, s175_693, s175_694, s175_695, s175_697, s175_698, s175_699, s175_700, s175_703, s175_704, s175_707, s175_708, s175_711, s175_713, s175_714, s175_717, s175_719, s175_722, s175_723z0, s175_723z1, s175_724, s175_726, s175_729, s175_730, s175_731, s175_732, s175_734, s175_735, s175_736, s175_739, s175_740z0, s175_740z1, s175_741, c10, c100, c6, eq_self, bnd_l, bnd_r, Option.toList_some, Option.toList_none, List.cons_append, List.nil_append, Nat.add_zero, Nat.zero_add, ↓reduceIte, nI_add, nI_mul, nI_subI, lt_t, lt_f, eq_f, lt_m1, m1_lt, eq_m1, m1_eq, i1, i2, i3, ez]
      exact hF
  · have i0 := True.intro
    obtain ⟨c, σ1, τ1, σ2, N', b, k1, s1, hc, hk, hs, i1, i2, e3, hI, e4⟩ := lw_held (X := X) (τ := τ) (t := t) (a := X.2 (i + 1)) (b := X.2 (i + 2)) (c := nI 1) h (Or.inr rfl)
    have i3 := q_thrown (X := X) (σ := σ2) (t := outc τ1 :: t)
    rw [e3] at i3
    refine ⟨σ2, τ1, t, N', r, k1, s1, by omega, by omega, hI, by omega, fun o5 o6 k s => ⟨some (.int (nI c)), some (.int b), fun K S hF => ?_⟩⟩
    by_cases hz : c = 0
    · subst hz
      have e6 : lg_cmp (τ1 0) b.toInt64 = nI 0 := by rw [e4 rfl]; exact lcmp_self
      simp (disch := omega) only [s175_648, s175_649, s175_650, s175_652, s175_653, s175_654, s175_655, s175_656, s175_658, s175_659, s175_660, s175_661, s175_662, s175_664, s175_665, s175_666, s175_667, s175_670, s175_671, s175_674, s175_675, s175_676, s175_679, s175_681, s175_682, s175_683, s175_685, s175_686, s175_687, s175_688, s175_689, s175_691, s175_692, s175_693, s175_694, s175_695, s175_697, s175_698, s175_699, s175_700, s175_703, s175_704, s175_707, s175_708, s175_711, s175_713, s175_714, s175_717, s175_719, s175_722, s175_723z0, s175_723z1, s175_724, s175_726, s175_729, s175_730, s175_731, s175_732, s175_734, s175_735, s175_736, s175_739, s175_740z0, s175_740z1, s175_741, c10, c100, c6, eq_self, bnd_l, bnd_r, Option.toList_some, Option.toList_none, List.cons_append, List.nil_append, Nat.add_zero, Nat.zero_add, ↓reduceIte, nI_add, nI_mul, nI_subI, lt_t, lt_f, eq_f, lt_m1, m1_lt, eq_m1, m1_eq, i1, i2, i3, e6, ez]
      exact hF
    · simp (disch := omega) only [s175_648, s175_649, s175_650, s175_652, s175_653, s175_654, s175_655, s175_656, s175_658, s175_659, s175_660, s175_661, s175_662, s175_664, s175_665, s175_666, s175_667, s175_670, s175_671, s175_674, s175_675, s175_676, s175_679, s175_681, s175_682, s175_683, s175_685, s175_686, s175_687, s175_688, s175_689, s175_691, s175_692, s175_693, s175_694, s175_695, s175_697, s175_698, s175_699, s175_700, s175_703, s175_704, s175_707, s175_708, s175_711, s175_713, s175_714, s175_717, s175_719, s175_722, s175_723z0, s175_723z1, s175_724, s175_726, s175_729, s175_730, s175_731, s175_732, s175_734, s175_735, s175_736, s175_739, s175_740z0, s175_740z1, s175_741, c10, c100, c6, eq_self, bnd_l, bnd_r, Option.toList_some, Option.toList_none, List.cons_append, List.nil_append, Nat.add_zero, Nat.zero_add, ↓reduceIte, nI_add, nI_mul, nI_subI, lt_t, lt_f, eq_f, lt_m1, m1_lt, eq_m1, m1_eq, i1, i2, i3, ez]
      exact hF
theorem b_award (h : INV σ N r n) (hn : n ≤ 512) (hi : i + 5 ≤ X.1) (hX : X.1 < 2 ^ 31) : NXT X i σ τ t n 744 := by
  obtain ⟨c, σ1, τ1, σ2, N', b, k1, s1, hc, hk, hs, i1, i2, e3, hI, e4⟩ := lw_award (X := X) (τ := τ) (t := t) (a := X.2 (i + 1)) (b := X.2 (i + 2)) (c := X.2 (i + 3)) h
  have i3 := q_thrown (X := X) (σ := σ2) (t := outc τ1 :: t)
  rw [e3] at i3
  refine ⟨σ2, τ1, t, N', r, k1, s1, by omega, by omega, hI, by omega, fun o5 o6 k s => ⟨some (.int (nI c)), some (.int b), fun K S hF => ?_⟩⟩
  by_cases hz : c = 0
  · subst hz
    have e6 : lg_cmp (τ1 0) b.toInt64 = nI 0 := by rw [e4 rfl]; exact lcmp_self
    simp (disch := omega) only [s175_744, s175_745, s175_746, s175_748, s175_749, s175_750, s175_751, s175_752, s175_754, s175_755, s175_756, s175_757, s175_758, s175_760, s175_761, s175_762, s175_763, s175_764, s175_767, s175_769, s175_770, s175_771, s175_773, s175_774, s175_775, s175_776, s175_777, s175_779, s175_780, s175_781, s175_782, s175_783, s175_785, s175_786, s175_787, s175_788, s175_791, s175_793, s175_794, s175_797, s175_799, s175_802, s175_803z0, s175_803z1, s175_804, s175_806, s175_809, s175_810, s175_811, s175_812, s175_814, s175_815, s175_816, s175_819, s175_820z0, s175_820z1, s175_821, c10, c100, c6, eq_self, bnd_l, bnd_r, Option.toList_some, Option.toList_none, List.cons_append, List.nil_append, Nat.add_zero, Nat.zero_add, ↓reduceIte, nI_add, nI_mul, nI_subI, lt_t, lt_f, eq_f, lt_m1, m1_lt, eq_m1, m1_eq, i1, i2, i3, e6]
    exact hF
  · simp (disch := omega) only [s175_744, s175_745, s175_746, s175_748, s175_749, s175_750, s175_751, s175_752, s175_754, s175_755, s175_756, s175_757, s175_758, s175_760, s175_761, s175_762, s175_763, s175_764, s175_767, s175_769, s175_770, s175_771, s175_773, s175_774, s175_775, s175_776, s175_777, s175_779, s175_780, s175_781, s175_782, s175_783, s175_785, s175_786, s175_787, s175_788, s175_791, s175_793, s175_794, s175_797, s175_799, s175_802, s175_803z0, s175_803z1, s175_804, s175_806, s175_809, s175_810, s175_811, s175_812, s175_814, s175_815, s175_816, s175_819, s175_820z0, s175_820z1, s175_821, c10, c100, c6, eq_self, bnd_l, bnd_r, Option.toList_some, Option.toList_none, List.cons_append, List.nil_append, Nat.add_zero, Nat.zero_add, ↓reduceIte, nI_add, nI_mul, nI_subI, lt_t, lt_f, eq_f, lt_m1, m1_lt, eq_m1, m1_eq, i1, i2, i3]
    exact hF
theorem b_time (h : INV σ N r n) (hn : n ≤ 512) (hi : i + 5 ≤ X.1) (hX : X.1 < 2 ^ 31) : NXT X i σ τ t n 824 := by
  obtain ⟨c, σ1, τ1, σ2, N', b, k1, s1, hc, hk, hs, i1, i2, e3, hI, e4⟩ := lw_time (X := X) (τ := τ) (t := t) (a := X.2 (i + 1)) (b := X.2 (i + 2)) h
  have i3 := q_thrown (X := X) (σ := σ2) (t := outc τ1 :: t)
  rw [e3] at i3
  refine ⟨σ2, τ1, t, N', r, k1, s1, by omega, by omega, hI, by omega, fun o5 o6 k s => ⟨some (.int (nI c)), some (.int b), fun K S hF => ?_⟩⟩
  by_cases hz : c = 0
  · subst hz
    have e6 : lg_cmp (τ1 0) b.toInt64 = nI 0 := by rw [e4 rfl]; exact lcmp_self
    simp (disch := omega) only [s175_824, s175_825, s175_826, s175_828, s175_829, s175_830, s175_831, s175_832, s175_834, s175_835, s175_836, s175_837, s175_838, s175_841, s175_843, s175_844, s175_845, s175_847, s175_848, s175_849, s175_850, s175_851, s175_853, s175_854, s175_855, s175_856, s175_859, s175_861, s175_862, s175_865, s175_867, s175_870, s175_871z0, s175_871z1, s175_872, s175_874, s175_877, s175_878, s175_879, s175_880, s175_882, s175_883, s175_884, s175_887, s175_888z0, s175_888z1, s175_889, c10, c100, c6, eq_self, bnd_l, bnd_r, Option.toList_some, Option.toList_none, List.cons_append, List.nil_append, Nat.add_zero, Nat.zero_add, ↓reduceIte, nI_add, nI_mul, nI_subI, lt_t, lt_f, eq_f, lt_m1, m1_lt, eq_m1, m1_eq, i1, i2, i3, e6]
    exact hF
  · simp (disch := omega) only [s175_824, s175_825, s175_826, s175_828, s175_829, s175_830, s175_831, s175_832, s175_834, s175_835, s175_836, s175_837, s175_838, s175_841, s175_843, s175_844, s175_845, s175_847, s175_848, s175_849, s175_850, s175_851, s175_853, s175_854, s175_855, s175_856, s175_859, s175_861, s175_862, s175_865, s175_867, s175_870, s175_871z0, s175_871z1, s175_872, s175_874, s175_877, s175_878, s175_879, s175_880, s175_882, s175_883, s175_884, s175_887, s175_888z0, s175_888z1, s175_889, c10, c100, c6, eq_self, bnd_l, bnd_r, Option.toList_some, Option.toList_none, List.cons_append, List.nil_append, Nat.add_zero, Nat.zero_add, ↓reduceIte, nI_add, nI_mul, nI_subI, lt_t, lt_f, eq_f, lt_m1, m1_lt, eq_m1, m1_eq, i1, i2, i3]
    exact hF
theorem b_allocate (h : INV σ N r n) (hn : n ≤ 512) (hi : i + 5 ≤ X.1) (hX : X.1 < 2 ^ 31) : NXT X i σ τ t n 892 := by
  obtain ⟨c, σ1, τ1, σ2, N', b, k1, s1, hc, hk, hs, i1, i2, e3, hI, e4⟩ := lw_allocate (X := X) (τ := τ) (t := t) (a := X.2 (i + 1)) (b := X.2 (i + 2)) h
  have i3 := q_thrown (X := X) (σ := σ2) (t := outc τ1 :: t)
  rw [e3] at i3
  refine ⟨σ2, τ1, t, N', r, k1, s1, by omega, by omega, hI, by omega, fun o5 o6 k s => ⟨some (.int (nI c)), some (.int b), fun K S hF => ?_⟩⟩
  by_cases hz : c = 0
  · subst hz
    have e6 : lg_cmp (τ1 0) b.toInt64 = nI 0 := by rw [e4 rfl]; exact lcmp_self
    simp (disch := omega) only [s175_892, s175_893, s175_894, s175_896, s175_897, s175_898, s175_899, s175_900, s175_902, s175_903, s175_904, s175_905, s175_906, s175_909, s175_911, s175_912, s175_913, s175_915, s175_916, s175_917, s175_918, s175_919, s175_921, s175_922, s175_923, s175_924, s175_927, s175_929, s175_930, s175_933, s175_935, s175_938, s175_939z0, s175_939z1, s175_940, s175_942, s175_945, s175_946, s175_947, s175_948, s175_950, s175_951, s175_952, s175_955, s175_956z0, s175_956z1, s175_957, c10, c100, c6, eq_self, bnd_l, bnd_r, Option.toList_some, Option.toList_none, List.cons_append, List.nil_append, Nat.add_zero, Nat.zero_add, ↓reduceIte, nI_add, nI_mul, nI_subI, lt_t, lt_f, eq_f, lt_m1, m1_lt, eq_m1, m1_eq, i1, i2, i3, e6]
    exact hF
  · simp (disch := omega) only [s175_892, s175_893, s175_894, s175_896, s175_897, s175_898, s175_899, s175_900, s175_902, s175_903, s175_904, s175_905, s175_906, s175_909, s175_911, s175_912, s175_913, s175_915, s175_916, s175_917, s175_918, s175_919, s175_921, s175_922, s175_923, s175_924, s175_927, s175_929, s175_930, s175_933, s175_935, s175_938, s175_939z0, s175_939z1, s175_940, s175_942, s175_945, s175_946, s175_947, s175_948, s175_950, s175_951, s175_952, s175_955, s175_956z0, s175_956z1, s175_957, c10, c100, c6, eq_self, bnd_l, bnd_r, Option.toList_some, Option.toList_none, List.cons_append, List.nil_append, Nat.add_zero, Nat.zero_add, ↓reduceIte, nI_add, nI_mul, nI_subI, lt_t, lt_f, eq_f, lt_m1, m1_lt, eq_m1, m1_eq, i1, i2, i3]
    exact hF
theorem b_seen (h : INV σ N r n) (hn : n ≤ 512) (hi : i + 5 ≤ X.1) (hX : X.1 < 2 ^ 31) : NXT X i σ τ t n 960 := by
  obtain ⟨c, σ1, τ1, σ2, N', b, k1, s1, hc, hk, hs, i1, i2, e3, hI, e4⟩ := lw_seen (X := X) (τ := τ) (t := t) (a := X.2 (i + 1)) (b := X.2 (i + 2)) h
  have i3 := q_thrown (X := X) (σ := σ2) (t := outc τ1 :: t)
  rw [e3] at i3
  refine ⟨σ2, τ1, t, N', r, k1, s1, by omega, by omega, hI, by omega, fun o5 o6 k s => ⟨some (.int (nI c)), some (.int b), fun K S hF => ?_⟩⟩
  by_cases hz : c = 0
  · subst hz
    have e6 : lg_cmp (τ1 0) b.toInt64 = nI 0 := by rw [e4 rfl]; exact lcmp_self
    simp (disch := omega) only [s175_960, s175_961, s175_962, s175_964, s175_965, s175_966, s175_967, s175_968, s175_970, s175_971, s175_972, s175_973, s175_974, s175_977, s175_979, s175_980, s175_981, s175_983, s175_984, s175_985, s175_986, s175_987, s175_989, s175_990, s175_991, s175_992, s175_995, s175_997, s175_998, s175_1001, s175_1003, s175_1006, s175_1007z0, s175_1007z1, s175_1008, s175_1010, s175_1013, s175_1014, s175_1015, s175_1016, s175_1018, s175_1019, s175_1020, s175_1023, s175_1024z0, s175_1024z1, s175_1025, c10, c100, c6, eq_self, bnd_l, bnd_r, Option.toList_some, Option.toList_none, List.cons_append, List.nil_append, Nat.add_zero, Nat.zero_add, ↓reduceIte, nI_add, nI_mul, nI_subI, lt_t, lt_f, eq_f, lt_m1, m1_lt, eq_m1, m1_eq, i1, i2, i3, e6]
    exact hF
  · simp (disch := omega) only [s175_960, s175_961, s175_962, s175_964, s175_965, s175_966, s175_967, s175_968, s175_970, s175_971, s175_972, s175_973, s175_974, s175_977, s175_979, s175_980, s175_981, s175_983, s175_984, s175_985, s175_986, s175_987, s175_989, s175_990, s175_991, s175_992, s175_995, s175_997, s175_998, s175_1001, s175_1003, s175_1006, s175_1007z0, s175_1007z1, s175_1008, s175_1010, s175_1013, s175_1014, s175_1015, s175_1016, s175_1018, s175_1019, s175_1020, s175_1023, s175_1024z0, s175_1024z1, s175_1025, c10, c100, c6, eq_self, bnd_l, bnd_r, Option.toList_some, Option.toList_none, List.cons_append, List.nil_append, Nat.add_zero, Nat.zero_add, ↓reduceIte, nI_add, nI_mul, nI_subI, lt_t, lt_f, eq_f, lt_m1, m1_lt, eq_m1, m1_eq, i1, i2, i3]
    exact hF
theorem b_car (h : INV σ N r n) (hn : n ≤ 512) (hi : i + 5 ≤ X.1) (hX : X.1 < 2 ^ 31) : NXT X i σ τ t n 1092 := by
  obtain ⟨c, σ1, τ1, σ2, N', b, k1, s1, hc, hk, hs, i1, i2, e3, hI, e4⟩ := lw_car (X := X) (τ := τ) (t := t) (a := X.2 (i + 1)) (b := X.2 (i + 2)) h hn
  have i3 := q_thrown (X := X) (σ := σ2) (t := outc τ1 :: t)
  rw [e3] at i3
  refine ⟨σ2, τ1, t, N', r, k1, s1, by omega, by omega, hI, by omega, fun o5 o6 k s => ⟨some (.int (nI c)), some (.int b), fun K S hF => ?_⟩⟩
  by_cases hz : c = 0
  · subst hz
    have e6 : lg_cmp (τ1 0) b.toInt64 = nI 0 := by rw [e4 rfl]; exact lcmp_self
    simp (disch := omega) only [s175_1092, s175_1093, s175_1094, s175_1096, s175_1097, s175_1098, s175_1099, s175_1100, s175_1102, s175_1103, s175_1104, s175_1105, s175_1106, s175_1109, s175_1111, s175_1112, s175_1113, s175_1115, s175_1116, s175_1117, s175_1118, s175_1119, s175_1121, s175_1122, s175_1123, s175_1124, s175_1127, s175_1129, s175_1130, s175_1133, s175_1135, s175_1138, s175_1139z0, s175_1139z1, s175_1140, s175_1142, s175_1145, s175_1146, s175_1147, s175_1148, s175_1150, s175_1151, s175_1152, s175_1155, s175_1156z0, s175_1156z1, s175_1157, c10, c100, c6, eq_self, bnd_l, bnd_r, Option.toList_some, Option.toList_none, List.cons_append, List.nil_append, Nat.add_zero, Nat.zero_add, ↓reduceIte, nI_add, nI_mul, nI_subI, lt_t, lt_f, eq_f, lt_m1, m1_lt, eq_m1, m1_eq, i1, i2, i3, e6]
    exact hF
  · simp (disch := omega) only [s175_1092, s175_1093, s175_1094, s175_1096, s175_1097, s175_1098, s175_1099, s175_1100, s175_1102, s175_1103, s175_1104, s175_1105, s175_1106, s175_1109, s175_1111, s175_1112, s175_1113, s175_1115, s175_1116, s175_1117, s175_1118, s175_1119, s175_1121, s175_1122, s175_1123, s175_1124, s175_1127, s175_1129, s175_1130, s175_1133, s175_1135, s175_1138, s175_1139z0, s175_1139z1, s175_1140, s175_1142, s175_1145, s175_1146, s175_1147, s175_1148, s175_1150, s175_1151, s175_1152, s175_1155, s175_1156z0, s175_1156z1, s175_1157, c10, c100, c6, eq_self, bnd_l, bnd_r, Option.toList_some, Option.toList_none, List.cons_append, List.nil_append, Nat.add_zero, Nat.zero_add, ↓reduceIte, nI_add, nI_mul, nI_subI, lt_t, lt_f, eq_f, lt_m1, m1_lt, eq_m1, m1_eq, i1, i2, i3]
    exact hF
theorem b_totalAnew (h : INV σ N r n) (hn : n ≤ 512) (hi : i + 5 ≤ X.1) (hX : X.1 < 2 ^ 31) : NXT X i σ τ t n 1160 := by
  obtain ⟨c, σ1, τ1, σ2, N', b, k1, s1, hc, hk, hs, i1, i2, e3, hI, e4⟩ := lw_totalAnew (X := X) (τ := τ) (t := t) (a := X.2 (i + 1)) h
  have i3 := q_thrown (X := X) (σ := σ2) (t := outc τ1 :: t)
  rw [e3] at i3
  refine ⟨σ2, τ1, t, N', r, k1, s1, by omega, by omega, hI, by omega, fun o5 o6 k s => ⟨some (.int (nI c)), some (.int b), fun K S hF => ?_⟩⟩
  by_cases hz : c = 0
  · subst hz
    have e6 : lg_cmp (τ1 0) b.toInt64 = nI 0 := by rw [e4 rfl]; exact lcmp_self
    simp (disch := omega) only [s175_1160, s175_1161, s175_1162, s175_1164, s175_1165, s175_1166, s175_1167, s175_1168, s175_1171, s175_1173, s175_1174, s175_1175, s175_1177, s175_1178, s175_1179, s175_1180, s175_1183, s175_1185, s175_1186, s175_1189, s175_1191, s175_1194, s175_1195z0, s175_1195z1, s175_1196, s175_1198, s175_1201, s175_1202, s175_1203, s175_1204, s175_1206, s175_1207, s175_1208, s175_1211, s175_1212z0, s175_1212z1, s175_1213, c10, c100, c6, eq_self, bnd_l, bnd_r, Option.toList_some, Option.toList_none, List.cons_append, List.nil_append, Nat.add_zero, Nat.zero_add, ↓reduceIte, nI_add, nI_mul, nI_subI, lt_t, lt_f, eq_f, lt_m1, m1_lt, eq_m1, m1_eq, i1, i2, i3, e6]
    exact hF
  · simp (disch := omega) only [s175_1160, s175_1161, s175_1162, s175_1164, s175_1165, s175_1166, s175_1167, s175_1168, s175_1171, s175_1173, s175_1174, s175_1175, s175_1177, s175_1178, s175_1179, s175_1180, s175_1183, s175_1185, s175_1186, s175_1189, s175_1191, s175_1194, s175_1195z0, s175_1195z1, s175_1196, s175_1198, s175_1201, s175_1202, s175_1203, s175_1204, s175_1206, s175_1207, s175_1208, s175_1211, s175_1212z0, s175_1212z1, s175_1213, c10, c100, c6, eq_self, bnd_l, bnd_r, Option.toList_some, Option.toList_none, List.cons_append, List.nil_append, Nat.add_zero, Nat.zero_add, ↓reduceIte, nI_add, nI_mul, nI_subI, lt_t, lt_f, eq_f, lt_m1, m1_lt, eq_m1, m1_eq, i1, i2, i3]
    exact hF
theorem b_ranked (h : INV σ N r n) (hn : n ≤ 512) (hi : i + 5 ≤ X.1) (hX : X.1 < 2 ^ 31) : NXT X i σ τ t n 1216 := by
  obtain ⟨c, σ1, τ1, σ2, N', b, k1, s1, hc, hk, hs, i1, i2, e3, hI, e4⟩ := lw_ranked (X := X) (τ := τ) (t := t) (a := X.2 (i + 1)) h hn
  have i3 := q_thrown (X := X) (σ := σ2) (t := outc τ1 :: t)
  rw [e3] at i3
  refine ⟨σ2, τ1, t, N', r, k1, s1, by omega, by omega, hI, by omega, fun o5 o6 k s => ⟨some (.int (nI c)), some (.int b), fun K S hF => ?_⟩⟩
  by_cases hz : c = 0
  · subst hz
    have e6 : lg_cmp (τ1 0) b.toInt64 = nI 0 := by rw [e4 rfl]; exact lcmp_self
    simp (disch := omega) only [s175_1216, s175_1217, s175_1218, s175_1220, s175_1221, s175_1222, s175_1223, s175_1224, s175_1227, s175_1229, s175_1230, s175_1231, s175_1233, s175_1234, s175_1235, s175_1236, s175_1239, s175_1241, s175_1242, s175_1245, s175_1247, s175_1250, s175_1251z0, s175_1251z1, s175_1252, s175_1254, s175_1257, s175_1258, s175_1259, s175_1260, s175_1262, s175_1263, s175_1264, s175_1267, s175_1268z0, s175_1268z1, s175_1269, c10, c100, c6, eq_self, bnd_l, bnd_r, Option.toList_some, Option.toList_none, List.cons_append, List.nil_append, Nat.add_zero, Nat.zero_add, ↓reduceIte, nI_add, nI_mul, nI_subI, lt_t, lt_f, eq_f, lt_m1, m1_lt, eq_m1, m1_eq, i1, i2, i3, e6]
    exact hF
  · simp (disch := omega) only [s175_1216, s175_1217, s175_1218, s175_1220, s175_1221, s175_1222, s175_1223, s175_1224, s175_1227, s175_1229, s175_1230, s175_1231, s175_1233, s175_1234, s175_1235, s175_1236, s175_1239, s175_1241, s175_1242, s175_1245, s175_1247, s175_1250, s175_1251z0, s175_1251z1, s175_1252, s175_1254, s175_1257, s175_1258, s175_1259, s175_1260, s175_1262, s175_1263, s175_1264, s175_1267, s175_1268z0, s175_1268z1, s175_1269, c10, c100, c6, eq_self, bnd_l, bnd_r, Option.toList_some, Option.toList_none, List.cons_append, List.nil_append, Nat.add_zero, Nat.zero_add, ↓reduceIte, nI_add, nI_mul, nI_subI, lt_t, lt_f, eq_f, lt_m1, m1_lt, eq_m1, m1_eq, i1, i2, i3]
    exact hF
theorem b_points (h : INV σ N r n) (hn : n ≤ 512) (hi : i + 5 ≤ X.1) (hX : X.1 < 2 ^ 31) : NXT X i σ τ t n 1316 := by
  obtain ⟨c, σ1, τ1, σ2, N', b, k1, s1, hc, hk, hs, i1, i2, e3, hI, e4⟩ := lw_points (X := X) (τ := τ) (t := t) (a := X.2 (i + 1)) h
  have i3 := q_thrown (X := X) (σ := σ2) (t := outc τ1 :: t)
  rw [e3] at i3
  refine ⟨σ2, τ1, t, N', r, k1, s1, by omega, by omega, hI, by omega, fun o5 o6 k s => ⟨some (.int (nI c)), some (.int b), fun K S hF => ?_⟩⟩
  by_cases hz : c = 0
  · subst hz
    have e6 : lg_cmp (τ1 0) b.toInt64 = nI 0 := by rw [e4 rfl]; exact lcmp_self
    simp (disch := omega) only [s175_1316, s175_1317, s175_1318, s175_1320, s175_1321, s175_1322, s175_1323, s175_1324, s175_1327, s175_1329, s175_1330, s175_1331, s175_1333, s175_1334, s175_1335, s175_1336, s175_1339, s175_1341, s175_1342, s175_1345, s175_1347, s175_1350, s175_1351z0, s175_1351z1, s175_1352, s175_1354, s175_1357, s175_1358, s175_1359, s175_1360, s175_1362, s175_1363, s175_1364, s175_1367, s175_1368z0, s175_1368z1, s175_1369, c10, c100, c6, eq_self, bnd_l, bnd_r, Option.toList_some, Option.toList_none, List.cons_append, List.nil_append, Nat.add_zero, Nat.zero_add, ↓reduceIte, nI_add, nI_mul, nI_subI, lt_t, lt_f, eq_f, lt_m1, m1_lt, eq_m1, m1_eq, i1, i2, i3, e6]
    exact hF
  · simp (disch := omega) only [s175_1316, s175_1317, s175_1318, s175_1320, s175_1321, s175_1322, s175_1323, s175_1324, s175_1327, s175_1329, s175_1330, s175_1331, s175_1333, s175_1334, s175_1335, s175_1336, s175_1339, s175_1341, s175_1342, s175_1345, s175_1347, s175_1350, s175_1351z0, s175_1351z1, s175_1352, s175_1354, s175_1357, s175_1358, s175_1359, s175_1360, s175_1362, s175_1363, s175_1364, s175_1367, s175_1368z0, s175_1368z1, s175_1369, c10, c100, c6, eq_self, bnd_l, bnd_r, Option.toList_some, Option.toList_none, List.cons_append, List.nil_append, Nat.add_zero, Nat.zero_add, ↓reduceIte, nI_add, nI_mul, nI_subI, lt_t, lt_f, eq_f, lt_m1, m1_lt, eq_m1, m1_eq, i1, i2, i3]
    exact hF
theorem b_table (h : INV σ N r n) (hn : n ≤ 512) (hi : i + 5 ≤ X.1) (hX : X.1 < 2 ^ 31) : NXT X i σ τ t n 1372 := by
  obtain ⟨c, σ1, τ1, σ2, N', b, k1, s1, hc, hk, hs, i1, i2, e3, hI, e4⟩ := lw_table (X := X) (τ := τ) (t := t) (a := X.2 (i + 1)) h
  have i3 := q_thrown (X := X) (σ := σ2) (t := outc τ1 :: t)
  rw [e3] at i3
  refine ⟨σ2, τ1, t, N', r, k1, s1, by omega, by omega, hI, by omega, fun o5 o6 k s => ⟨some (.int (nI c)), some (.int b), fun K S hF => ?_⟩⟩
  by_cases hz : c = 0
  · subst hz
    have e6 : lg_cmp (τ1 0) b.toInt64 = nI 0 := by rw [e4 rfl]; exact lcmp_self
    simp (disch := omega) only [s175_1372, s175_1373, s175_1374, s175_1376, s175_1377, s175_1378, s175_1379, s175_1380, s175_1383, s175_1385, s175_1386, s175_1387, s175_1389, s175_1390, s175_1391, s175_1392, s175_1395, s175_1397, s175_1398, s175_1401, s175_1403, s175_1406, s175_1407z0, s175_1407z1, s175_1408, s175_1410, s175_1413, s175_1414, s175_1415, s175_1416, s175_1418, s175_1419, s175_1420, s175_1423, s175_1424z0, s175_1424z1, s175_1425, c10, c100, c6, eq_self, bnd_l, bnd_r, Option.toList_some, Option.toList_none, List.cons_append, List.nil_append, Nat.add_zero, Nat.zero_add, ↓reduceIte, nI_add, nI_mul, nI_subI, lt_t, lt_f, eq_f, lt_m1, m1_lt, eq_m1, m1_eq, i1, i2, i3, e6]
    exact hF
  · simp (disch := omega) only [s175_1372, s175_1373, s175_1374, s175_1376, s175_1377, s175_1378, s175_1379, s175_1380, s175_1383, s175_1385, s175_1386, s175_1387, s175_1389, s175_1390, s175_1391, s175_1392, s175_1395, s175_1397, s175_1398, s175_1401, s175_1403, s175_1406, s175_1407z0, s175_1407z1, s175_1408, s175_1410, s175_1413, s175_1414, s175_1415, s175_1416, s175_1418, s175_1419, s175_1420, s175_1423, s175_1424z0, s175_1424z1, s175_1425, c10, c100, c6, eq_self, bnd_l, bnd_r, Option.toList_some, Option.toList_none, List.cons_append, List.nil_append, Nat.add_zero, Nat.zero_add, ↓reduceIte, nI_add, nI_mul, nI_subI, lt_t, lt_f, eq_f, lt_m1, m1_lt, eq_m1, m1_eq, i1, i2, i3]
    exact hF
theorem b_finish (h : INV σ N r n) (hn : n ≤ 512) (hi : i + 5 ≤ X.1) (hX : X.1 < 2 ^ 31) : NXT X i σ τ t n 560 := by
  by_cases ez : X.2 (i + 3) = nI 0
  · have i0 := True.intro
    obtain ⟨c, σ1, σ2, N', k1, s1, hc, hk, hs, i1, i2, e3, hI⟩ := lw_finish (X := X) (τ := τ) (t := t) (a := X.2 (i + 1)) (b := X.2 (i + 2)) (c := nI 0) (d := X.2 (i + 4)) h (Or.inl rfl)
    have i3 := q_thrown (X := X) (σ := σ2) (t := outc τ :: t)
    rw [e3] at i3
    refine ⟨σ2, τ, t, N', r, k1, s1, by omega, by omega, hI, by omega, fun o5 o6 k s => ⟨some (.int (nI c)), o6, fun K S hF => ?_⟩⟩
    simp (disch := omega) only [s175_560, s175_561, s175_562, s175_564, s175_565, s175_566, s175_567, s175_568, s175_570, s175_571, s175_572, s175_573, s175_574, s175_576, s175_577, s175_578, s175_579, s175_582, s175_583, s175_586, s175_587, s175_588, s175_590, s175_591, s175_592, s175_593, s175_596, s175_598, s175_599, s175_600, s175_602, s175_603, s175_604, s175_605, s175_606, s175_608, s175_609, s175_610, s175_611, s175_612, s175_614, s175_615, s175_616, s175_617, s175_620, s175_621, s175_624, s175_625, s175_626, s175_628, s175_629, s175_630, s175_631, s175_634, s175_635, s175_638, s175_640, s175_643, s175_644z0, s175_644z1, s175_645, c10, c100, c6, eq_self, bnd_l, bnd_r, Option.toList_some, Option.toList_none, List.cons_append, List.nil_append, Nat.add_zero, Nat.zero_add, ↓reduceIte, nI_add, nI_mul, nI_subI, lt_t, lt_f, eq_f, lt_m1, m1_lt, eq_m1, m1_eq, i1, i2, i3, ez]
    exact hF
  · have i0 := True.intro
    obtain ⟨c, σ1, σ2, N', k1, s1, hc, hk, hs, i1, i2, e3, hI⟩ := lw_finish (X := X) (τ := τ) (t := t) (a := X.2 (i + 1)) (b := X.2 (i + 2)) (c := nI 1) (d := X.2 (i + 4)) h (Or.inr rfl)
    have i3 := q_thrown (X := X) (σ := σ2) (t := outc τ :: t)
    rw [e3] at i3
    refine ⟨σ2, τ, t, N', r, k1, s1, by omega, by omega, hI, by omega, fun o5 o6 k s => ⟨some (.int (nI c)), o6, fun K S hF => ?_⟩⟩
    simp (disch := omega) only [s175_560, s175_561, s175_562, s175_564, s175_565, s175_566, s175_567, s175_568, s175_570, s175_571, s175_572, s175_573, s175_574, s175_576, s175_577, s175_578, s175_579, s175_582, s175_583, s175_586, s175_587, s175_588, s175_590, s175_591, s175_592, s175_593, s175_596, s175_598, s175_599, s175_600, s175_602, s175_603, s175_604, s175_605, s175_606, s175_608, s175_609, s175_610, s175_611, s175_612, s175_614, s175_615, s175_616, s175_617, s175_620, s175_621, s175_624, s175_625, s175_626, s175_628, s175_629, s175_630, s175_631, s175_634, s175_635, s175_638, s175_640, s175_643, s175_644z0, s175_644z1, s175_645, c10, c100, c6, eq_self, bnd_l, bnd_r, Option.toList_some, Option.toList_none, List.cons_append, List.nil_append, Nat.add_zero, Nat.zero_add, ↓reduceIte, nI_add, nI_mul, nI_subI, lt_t, lt_f, eq_f, lt_m1, m1_lt, eq_m1, m1_eq, i1, i2, i3, ez]
    exact hF
theorem b_retire (h : INV σ N r n) (hn : n ≤ 512) (hi : i + 5 ≤ X.1) (hX : X.1 < 2 ^ 31) : NXT X i σ τ t n 1028 := by
  by_cases ez : X.2 (i + 2) = nI 0
  · have i0 := True.intro
    obtain ⟨c, σ1, σ2, N', k1, s1, hc, hk, hs, i1, i2, e3, hI⟩ := lw_retire (X := X) (τ := τ) (t := t) (a := X.2 (i + 1)) (b := nI 0) h (Or.inl rfl)
    have i3 := q_thrown (X := X) (σ := σ2) (t := outc τ :: t)
    rw [e3] at i3
    refine ⟨σ2, τ, t, N', r, k1, s1, by omega, by omega, hI, by omega, fun o5 o6 k s => ⟨some (.int (nI c)), o6, fun K S hF => ?_⟩⟩
    simp (disch := omega) only [s175_1028, s175_1029, s175_1030, s175_1032, s175_1033, s175_1034, s175_1035, s175_1036, s175_1038, s175_1039, s175_1040, s175_1041, s175_1044, s175_1045, s175_1048, s175_1049, s175_1052, s175_1054, s175_1055, s175_1056, s175_1058, s175_1059, s175_1060, s175_1061, s175_1062, s175_1064, s175_1065, s175_1066, s175_1067, s175_1070, s175_1071, s175_1074, s175_1075, s175_1078, s175_1079, s175_1082, s175_1084, s175_1087, s175_1088z0, s175_1088z1, s175_1089, c10, c100, c6, eq_self, bnd_l, bnd_r, Option.toList_some, Option.toList_none, List.cons_append, List.nil_append, Nat.add_zero, Nat.zero_add, ↓reduceIte, nI_add, nI_mul, nI_subI, lt_t, lt_f, eq_f, lt_m1, m1_lt, eq_m1, m1_eq, i1, i2, i3, ez]
    exact hF
  · have i0 := True.intro
    obtain ⟨c, σ1, σ2, N', k1, s1, hc, hk, hs, i1, i2, e3, hI⟩ := lw_retire (X := X) (τ := τ) (t := t) (a := X.2 (i + 1)) (b := nI 1) h (Or.inr rfl)
    have i3 := q_thrown (X := X) (σ := σ2) (t := outc τ :: t)
    rw [e3] at i3
    refine ⟨σ2, τ, t, N', r, k1, s1, by omega, by omega, hI, by omega, fun o5 o6 k s => ⟨some (.int (nI c)), o6, fun K S hF => ?_⟩⟩
    simp (disch := omega) only [s175_1028, s175_1029, s175_1030, s175_1032, s175_1033, s175_1034, s175_1035, s175_1036, s175_1038, s175_1039, s175_1040, s175_1041, s175_1044, s175_1045, s175_1048, s175_1049, s175_1052, s175_1054, s175_1055, s175_1056, s175_1058, s175_1059, s175_1060, s175_1061, s175_1062, s175_1064, s175_1065, s175_1066, s175_1067, s175_1070, s175_1071, s175_1074, s175_1075, s175_1078, s175_1079, s175_1082, s175_1084, s175_1087, s175_1088z0, s175_1088z1, s175_1089, c10, c100, c6, eq_self, bnd_l, bnd_r, Option.toList_some, Option.toList_none, List.cons_append, List.nil_append, Nat.add_zero, Nat.zero_add, ↓reduceIte, nI_add, nI_mul, nI_subI, lt_t, lt_f, eq_f, lt_m1, m1_lt, eq_m1, m1_eq, i1, i2, i3, ez]
    exact hF
end BLK
