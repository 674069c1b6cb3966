/-! THE LAW: its step, case by case -/
theorem upd_own {f : Nat → Int32} {k : Nat} : upd f k (f k) = f := by
  funext j
  by_cases h : j = k
  · subst h; exact upd_eq
  · exact upd_ne h
section STP
variable {X : rX} {σ : Nat → Nat → Int32} {δ κ τ : Nat → Int32} {t : rH} {N r n b c i : Nat} {x4 x5 x10 : Int32}
theorem k3 (h : INV σ N r n) (hi : i < N) : σ 36 i = nI 0 ∨ σ 36 i = nI 1 ∨ σ 36 i = nI 2 := h.1.1.1.2.2.2.2 i hi
theorem m2 (b : Nat) : b % 2 = 0 ∨ b % 2 = 1 := by omega
theorem k01 : (nI 0 = nI 1) = False := eq_f (by omega) (by omega) (by omega)
theorem k02 : (nI 0 = nI 2) = False := eq_f (by omega) (by omega) (by omega)
theorem k12 : (nI 1 = nI 2) = False := eq_f (by omega) (by omega) (by omega)
/-- when a car is due, running or not -/
theorem dueD_B (h : INV σ N r n) (hn : n ≤ 50) (hi : i < N) (hc : c < 10) : dueD σ c i = -1 ∨ (runP σ c ∧ dueD σ c i = dueC σ c i ∧ ∃ d, d ≤ 34800 ∧ dueC σ c i = nI d) := by
  by_cases hr : runP σ c
  · rw [dueD_t hr]
    rcases due_B h (by omega) hi hc with e | e
    · exact Or.inl e
    · exact Or.inr ⟨hr, rfl, e⟩
  · exact Or.inl (dueD_f hr)
theorem LOK_of1 {σ' : Nat → Nat → Int32} {q : Option rR} {N' r' k s : Nat} {δ' κ' τ' : Nat → Int32} (e : q = some (.inl (some (.int (nI 1))), WW σ' (dA δ' :: kA κ' :: tA τ' :: t), k, s)) (hk : k ≤ 1) (hs : s ≤ 6) (h : INV σ' N' r' (n + 1)) (hl : LI σ' N' r' δ' κ' τ') : LOK X n t q :=
  ⟨σ', N', r', δ', κ', τ', t, _, k, s, e, by omega, by omega, h, hl, by omega, TRX_rfl⟩
theorem s_add (h : INV σ N r n) (hl : LI σ N r δ κ τ) (hb : b < 2 ^ 31) : LOK X n t (exM X 116 144 [some (.ref 0), some (.ref 35), some (.ref 36), some (.ref 37), some (.int x4), some (.int x5), some (.int (nI b)), some (.int (nI c)), some (.int (nI i)), some (.int (σ 13 c + σ 29 c)), some (.int x10), none, none, none, none, none, none, none, none, none, none, none, none, none] [] (WW σ (dA δ :: kA κ :: tA τ :: t)) 0 0) := by
  have hx := Nat.mod_lt (b / 3) (by omega : 0 < 200)
  have hy := Nat.mod_lt b (by omega : 0 < 3)
  have hz := Nat.div_le_self b 3
  have d0 := hl.1
  by_cases w : N = 0
  · subst w
    obtain ⟨σ', N', r', δ', κ', τ', t', h', k, s, e, z⟩ := l_added (X := X) (t := t) h hl (a := 0) (b := b / 3 % 200) (by omega) (by omega) (fun _ => rfl)
    refine ⟨σ', N', r', δ', κ', τ', t', h', k, s, ?_, z⟩
    simp (disch := omega) only [s116_144, s116_145, s116_146, s116_147, s116_148, s116_149, s116_150, s116_153, s116_154, s116_157, s116_159, s116_160, s116_161, s116_163, s116_164, s116_165, s116_168, s116_169, s116_172z0, s116_172z1, c10, c100, c6, eq_self, bnd_l, bnd_r, Option.toList_some, Option.toList_none, List.cons_append, List.nil_append, Nat.add_zero, Nat.zero_add, ↓reduceIte, nI_add, nI_mul, nI_subI, lt_t, lt_f, eq_f, lt_m1, m1_lt, eq_m1, m1_eq, e, d0]
  · obtain ⟨σ', N', r', δ', κ', τ', t', h', k, s, e, z⟩ := l_added (X := X) (t := t) h hl (a := b % 3) (b := b / 3 % 200) (by omega) (by omega) (fun q => absurd q w)
    have hN := h.1.1.1.1
    refine ⟨σ', N', r', δ', κ', τ', t', h', k, s, ?_, z⟩
    simp (disch := omega) only [s116_144, s116_145, s116_146, s116_147, s116_148, s116_149, s116_150, s116_153, s116_154, s116_157, s116_159, s116_160, s116_161, s116_163, s116_164, s116_165, s116_168, s116_169, s116_172z0, s116_172z1, c10, c100, c6, eq_self, bnd_l, bnd_r, Option.toList_some, Option.toList_none, List.cons_append, List.nil_append, Nat.add_zero, Nat.zero_add, ↓reduceIte, nI_add, nI_mul, nI_subI, lt_t, lt_f, eq_f, lt_m1, m1_lt, eq_m1, m1_eq, e, d0]
theorem s_open (h : INV σ N r n) (hl : LI σ N r δ κ τ) (hn : n ≤ 50) (hb : b < 2 ^ 31) (hc : c < 10) (hi : i < N) : LOK X n t (exM X 116 173 [some (.ref 0), some (.ref 35), some (.ref 36), some (.ref 37), some (.int x4), some (.int x5), some (.int (nI b)), some (.int (nI c)), some (.int (nI i)), some (.int (σ 13 c + σ 29 c)), some (.int x10), none, none, none, none, none, none, none, none, none, none, none, none, none] [] (WW σ (dA δ :: kA κ :: tA τ :: t)) 0 0) := by
  obtain ⟨d0, d1, d1', d2, kk, tt⟩ := id hl
  have hN := h.1.1.1.1
  have ek := kk i hi
  have hw := Nat.mod_lt b (by omega : 0 < 3)
  by_cases hk : σ 36 i = nI 0
  · rw [hk] at ek
    by_cases ho : σ 39 i = -1 ∧ opnF (σ 36) (σ 39) i
    · obtain ⟨l1, l2, l3⟩ := opL_ok σ N (i := i) (w := b % 3) (by omega)
      have i1 := w_opens (c_open0 (X := X) (t := dA δ :: kA κ :: tA τ :: t) h hi (w := b % 3) (by omega) hk ho)
      have hI := INV_open h hi (w := b % 3) (by omega) hk ho
      have h0 : i = 0 → (opL σ N i (b % 3)).length = 10 := fun q => by subst q; exact opL_0 σ N (by omega)
      have e39 : opG σ N i (b % 3) 39 i = nI (opL σ N i (b % 3)).length := by
        show upd (σ 39) i _ i = _
        rw [upd_eq]
      have i2 := l_order (X := X) (t := dA (upd δ 1 (nI 1)) :: kA κ :: tA τ :: t) hI hi hk l3 e39 h0
      have hop : ¬ opG σ N i (b % 3) 39 0 = -1 := by
        show ¬ upd (σ 39) i (nI (opL σ N i (b % 3)).length) 0 = -1
        by_cases q : 0 = i
        · rw [← q, upd_eq, q, eq_m1 (by omega)]
          exact id
        · rw [upd_ne q]
          exact (opnF_of i).mp ho.2 0 (by omega) (h.1.1.1.2.2.2.1 (by omega))
      generalize (opL σ N i (b % 3)).length = m at *
      have lI : LI (opG σ N i (b % 3)) N r (upd δ 1 (nI 1)) κ τ := ⟨(upd_ne (by omega)).trans d0, fun z => absurd z hop, fun _ => upd_eq, (upd_ne (by omega)).trans d2, kk, tt⟩
      refine LOK_of (k := 0) (s := 0) ?_ (by omega) (by omega) hI lI
      by_cases q : i = 0
      · subst q
        have em := h0 rfl
        subst em
        simp (disch := omega) only [s116_173, s116_174, s116_176, s116_177, s116_180, s116_181, s116_183, s116_184, s116_187, s116_190, s116_191, s116_194, s116_195z0, s116_195z1, s116_196, s116_197, s116_199, s116_201, s116_202, s116_203, s116_206, s116_208, s116_209, s116_210, s116_212, s116_214, s116_217, s116_218, s116_219, s116_220, s116_223, s116_224, s116_225, s116_227, s116_229, s116_232, s116_233, s116_234, s116_235, s116_236, s116_239, s116_241, s116_244, s116_245, s116_248, s116_249, s116_252, s116_254, s116_256, s116_259, s116_261, s116_264, s116_266, s116_268, s116_271, s116_272, s116_274, s116_276, s116_279, s116_282, s116_283, s116_286, s116_287z0, s116_287z1, c10, c100, c6, eq_self, bnd_l, bnd_r, Option.toList_some, Option.toList_none, List.cons_append, List.nil_append, Nat.add_zero, Nat.zero_add, ↓reduceIte, nI_add, nI_mul, nI_subI, lt_t, lt_f, eq_f, lt_m1, m1_lt, eq_m1, m1_eq, ek, i1, i2, eq_m2]
      · simp (disch := omega) only [s116_173, s116_174, s116_176, s116_177, s116_180, s116_181, s116_183, s116_184, s116_187, s116_190, s116_191, s116_194, s116_195z0, s116_195z1, s116_196, s116_197, s116_199, s116_201, s116_202, s116_203, s116_206, s116_208, s116_209, s116_210, s116_212, s116_214, s116_217, s116_218, s116_219, s116_220, s116_223, s116_224, s116_225, s116_227, s116_229, s116_232, s116_233, s116_234, s116_235, s116_236, s116_239, s116_241, s116_244, s116_245, s116_248, s116_249, s116_252, s116_254, s116_256, s116_259, s116_261, s116_264, s116_266, s116_268, s116_271, s116_272, s116_274, s116_276, s116_279, s116_282, s116_283, s116_286, s116_287z0, s116_287z1, c10, c100, c6, eq_self, bnd_l, bnd_r, Option.toList_some, Option.toList_none, List.cons_append, List.nil_append, Nat.add_zero, Nat.zero_add, ↓reduceIte, nI_add, nI_mul, nI_subI, lt_t, lt_f, eq_f, lt_m1, m1_lt, eq_m1, m1_eq, ek, i1, i2, eq_m2]
    · have i1 := n_opens (c_open1 (X := X) (t := dA δ :: kA κ :: tA τ :: t) h hi (w := b % 3) (by omega) hk ho)
      refine LOK_of (k := 1) (s := 6) (σ' := σ) (δ' := upd δ 1 (δ 1)) ?_ (by omega) (by omega) h (by rw [upd_own]; exact hl)
      by_cases q : i = 0
      · subst q
        have e1 := d1' fun z => ho ⟨z, trivial⟩
        simp (disch := omega) only [s116_173, s116_174, s116_176, s116_177, s116_180, s116_181, s116_183, s116_184, s116_187, s116_190, s116_191, s116_194, s116_195z0, s116_195z1, s116_196, s116_197, s116_199, s116_201, s116_202, s116_203, s116_206, s116_208, s116_209, s116_210, s116_212, s116_214, s116_217, s116_218, s116_219, s116_220, s116_223, s116_224, s116_225, s116_227, s116_229, s116_232, s116_233, s116_234, s116_235, s116_236, s116_239, s116_241, s116_244, s116_245, s116_248, s116_249, s116_252, s116_254, s116_256, s116_259, s116_261, s116_264, s116_266, s116_268, s116_271, s116_272, s116_274, s116_276, s116_279, s116_282, s116_283, s116_286, s116_287z0, s116_287z1, c10, c100, c6, eq_self, bnd_l, bnd_r, Option.toList_some, Option.toList_none, List.cons_append, List.nil_append, Nat.add_zero, Nat.zero_add, ↓reduceIte, nI_add, nI_mul, nI_subI, lt_t, lt_f, eq_f, lt_m1, m1_lt, eq_m1, m1_eq, ek, i1, upd_eq, e1]
      · by_cases q2 : σ 39 0 = -1
        · have e1 := d1 q2
          simp (disch := omega) only [s116_173, s116_174, s116_176, s116_177, s116_180, s116_181, s116_183, s116_184, s116_187, s116_190, s116_191, s116_194, s116_195z0, s116_195z1, s116_196, s116_197, s116_199, s116_201, s116_202, s116_203, s116_206, s116_208, s116_209, s116_210, s116_212, s116_214, s116_217, s116_218, s116_219, s116_220, s116_223, s116_224, s116_225, s116_227, s116_229, s116_232, s116_233, s116_234, s116_235, s116_236, s116_239, s116_241, s116_244, s116_245, s116_248, s116_249, s116_252, s116_254, s116_256, s116_259, s116_261, s116_264, s116_266, s116_268, s116_271, s116_272, s116_274, s116_276, s116_279, s116_282, s116_283, s116_286, s116_287z0, s116_287z1, c10, c100, c6, eq_self, bnd_l, bnd_r, Option.toList_some, Option.toList_none, List.cons_append, List.nil_append, Nat.add_zero, Nat.zero_add, ↓reduceIte, nI_add, nI_mul, nI_subI, lt_t, lt_f, eq_f, lt_m1, m1_lt, eq_m1, m1_eq, ek, i1, upd_eq, e1]
        · have e1 := d1' q2
          simp (disch := omega) only [s116_173, s116_174, s116_176, s116_177, s116_180, s116_181, s116_183, s116_184, s116_187, s116_190, s116_191, s116_194, s116_195z0, s116_195z1, s116_196, s116_197, s116_199, s116_201, s116_202, s116_203, s116_206, s116_208, s116_209, s116_210, s116_212, s116_214, s116_217, s116_218, s116_219, s116_220, s116_223, s116_224, s116_225, s116_227, s116_229, s116_232, s116_233, s116_234, s116_235, s116_236, s116_239, s116_241, s116_244, s116_245, s116_248, s116_249, s116_252, s116_254, s116_256, s116_259, s116_261, s116_264, s116_266, s116_268, s116_271, s116_272, s116_274, s116_276, s116_279, s116_282, s116_283, s116_286, s116_287z0, s116_287z1, c10, c100, c6, eq_self, bnd_l, bnd_r, Option.toList_some, Option.toList_none, List.cons_append, List.nil_append, Nat.add_zero, Nat.zero_add, ↓reduceIte, nI_add, nI_mul, nI_subI, lt_t, lt_f, eq_f, lt_m1, m1_lt, eq_m1, m1_eq, ek, i1, upd_eq, e1]
  · have i1 := p_carC (X := X) (σ := σ) (t := dA δ :: kA κ :: tA τ :: t) hc
    refine LOK_of (k := 0) (s := 0) (σ' := σ) ?_ (by omega) (by omega) h hl
    rw [ek.symm] at hk
    have hk : ¬ κ i = nI 0 := by rw [ek]; rw [ek] at hk; exact hk
    by_cases w : nI 30 < σ 14 c
    · rw [if_pos w] at i1
      simp (disch := omega) only [s116_173, s116_174, s116_176, s116_177, s116_180, s116_181, s116_183, s116_184, s116_187, s116_190, s116_191, s116_194, s116_195z0, s116_195z1, c10, c100, c6, eq_self, bnd_l, bnd_r, Option.toList_some, Option.toList_none, List.cons_append, List.nil_append, Nat.add_zero, Nat.zero_add, ↓reduceIte, nI_add, nI_mul, nI_subI, lt_t, lt_f, eq_f, lt_m1, m1_lt, eq_m1, m1_eq, hk, i1]
    · rw [if_neg w] at i1
      simp (disch := omega) only [s116_173, s116_174, s116_176, s116_177, s116_180, s116_181, s116_183, s116_184, s116_187, s116_190, s116_191, s116_194, s116_195z0, s116_195z1, c10, c100, c6, eq_self, bnd_l, bnd_r, Option.toList_some, Option.toList_none, List.cons_append, List.nil_append, Nat.add_zero, Nat.zero_add, ↓reduceIte, nI_add, nI_mul, nI_subI, lt_t, lt_f, eq_f, lt_m1, m1_lt, eq_m1, m1_eq, hk, i1]
theorem s_minute (h : INV σ N r n) (hn : n ≤ 50) (hb : b < 2 ^ 31) (hc : c < 10) (hi : i < N) (hk : ¬ κ i = nI 2) (hk2 : ¬ σ 36 i = nI 2) : ∃ m, m ≤ 2000 ∧ ∀ Q : Option rR, exM X 116 387 [some (.ref 0), some (.ref 35), some (.ref 36), some (.ref 37), some (.int x4), some (.int x5), some (.int (nI b)), some (.int (nI c)), some (.int (nI i)), some (.int (σ 13 c + σ 29 c)), some (.int x10), none, some (.int (dueD σ c i)), some (.int (σ 14 c)), some (.int (nI m)), none, none, none, none, none, none, none, none, none] [] (WW σ (dA δ :: kA κ :: tA τ :: t)) 0 0 = Q → exM X 116 288 [some (.ref 0), some (.ref 35), some (.ref 36), some (.ref 37), some (.int x4), some (.int x5), some (.int (nI b)), some (.int (nI c)), some (.int (nI i)), some (.int (σ 13 c + σ 29 c)), some (.int x10), none, none, none, none, none, none, none, none, none, none, none, none, none] [] (WW σ (dA δ :: kA κ :: tA τ :: t)) 0 0 = Q := by
  have hN := h.1.1.1.1
  have i1 := p_due0 (X := X) (t := dA δ :: kA κ :: tA τ :: t) h.1.1.1 h.1.1.2.1 hc hi hk2
  have i2 := p_carB (X := X) (σ := σ) (t := dA δ :: kA κ :: tA τ :: t) hc
  have hx := Nat.mod_lt b (by omega : 0 < 2001)
  have hy := Nat.mod_lt b (by omega : 0 < 40)
  rcases dueD_B h hn hi hc with e | ⟨hr, e1, d, hd, e2⟩
  · refine ⟨b % 2001, by omega, fun Q hQ => ?_⟩
    rw [e] at i1 hQ
    simp (disch := omega) only [s116_288, s116_289, s116_291, s116_292, s116_293, s116_296, s116_297, s116_299, s116_301, s116_304, s116_305, s116_308, s116_309, s116_312, s116_313z0, s116_313z1, s116_314, s116_315, s116_317, s116_319, s116_322, s116_324, s116_325, s116_327, s116_328, s116_331, s116_333, s116_335, s116_336, s116_339, s116_341, s116_344, s116_345, s116_348, s116_350, s116_352, s116_354, s116_355, s116_356, s116_357, s116_358, s116_360, s116_362, s116_365, s116_366, s116_369, s116_371, s116_374, s116_377, s116_380, s116_383, s116_385, c10, c100, c6, eq_self, bnd_l, bnd_r, Option.toList_some, Option.toList_none, List.cons_append, List.nil_append, Nat.add_zero, Nat.zero_add, ↓reduceIte, nI_add, nI_mul, nI_subI, lt_t, lt_f, eq_f, lt_m1, m1_lt, eq_m1, m1_eq, hk, i1, i2]
    exact hQ
  · rw [e1, e2] at i1
    by_cases w : d + b % 40 < 4
    · have hlt := sub_l (x := d + b % 40) (y := 4) (by omega) (by omega)
      rw [eq_true w] at hlt
      refine ⟨0, by omega, fun Q hQ => ?_⟩
      rw [e1, e2] at hQ
      simp (disch := omega) only [s116_288, s116_289, s116_291, s116_292, s116_293, s116_296, s116_297, s116_299, s116_301, s116_304, s116_305, s116_308, s116_309, s116_312, s116_313z0, s116_313z1, s116_314, s116_315, s116_317, s116_319, s116_322, s116_324, s116_325, s116_327, s116_328, s116_331, s116_333, s116_335, s116_336, s116_339, s116_341, s116_344, s116_345, s116_348, s116_350, s116_352, s116_354, s116_355, s116_356, s116_357, s116_358, s116_360, s116_362, s116_365, s116_366, s116_369, s116_371, s116_374, s116_377, s116_380, s116_383, s116_385, c10, c100, c6, eq_self, bnd_l, bnd_r, Option.toList_some, Option.toList_none, List.cons_append, List.nil_append, Nat.add_zero, Nat.zero_add, ↓reduceIte, nI_add, nI_mul, nI_subI, lt_t, lt_f, eq_f, lt_m1, m1_lt, eq_m1, m1_eq, hk, i1, i2, hlt]
      exact hQ
    · by_cases w2 : 2000 < d + b % 40 - 4
      · refine ⟨2000, by omega, fun Q hQ => ?_⟩
        rw [e1, e2] at hQ
        simp (disch := omega) only [s116_288, s116_289, s116_291, s116_292, s116_293, s116_296, s116_297, s116_299, s116_301, s116_304, s116_305, s116_308, s116_309, s116_312, s116_313z0, s116_313z1, s116_314, s116_315, s116_317, s116_319, s116_322, s116_324, s116_325, s116_327, s116_328, s116_331, s116_333, s116_335, s116_336, s116_339, s116_341, s116_344, s116_345, s116_348, s116_350, s116_352, s116_354, s116_355, s116_356, s116_357, s116_358, s116_360, s116_362, s116_365, s116_366, s116_369, s116_371, s116_374, s116_377, s116_380, s116_383, s116_385, c10, c100, c6, eq_self, bnd_l, bnd_r, Option.toList_some, Option.toList_none, List.cons_append, List.nil_append, Nat.add_zero, Nat.zero_add, ↓reduceIte, nI_add, nI_mul, nI_subI, lt_t, lt_f, eq_f, lt_m1, m1_lt, eq_m1, m1_eq, hk, i1, i2]
        exact hQ
      · refine ⟨d + b % 40 - 4, by omega, fun Q hQ => ?_⟩
        rw [e1, e2] at hQ
        simp (disch := omega) only [s116_288, s116_289, s116_291, s116_292, s116_293, s116_296, s116_297, s116_299, s116_301, s116_304, s116_305, s116_308, s116_309, s116_312, s116_313z0, s116_313z1, s116_314, s116_315, s116_317, s116_319, s116_322, s116_324, s116_325, s116_327, s116_328, s116_331, s116_333, s116_335, s116_336, s116_339, s116_341, s116_344, s116_345, s116_348, s116_350, s116_352, s116_354, s116_355, s116_356, s116_357, s116_358, s116_360, s116_362, s116_365, s116_366, s116_369, s116_371, s116_374, s116_377, s116_380, s116_383, s116_385, c10, c100, c6, eq_self, bnd_l, bnd_r, Option.toList_some, Option.toList_none, List.cons_append, List.nil_append, Nat.add_zero, Nat.zero_add, ↓reduceIte, nI_add, nI_mul, nI_subI, lt_t, lt_f, eq_f, lt_m1, m1_lt, eq_m1, m1_eq, hk, i1, i2]
        exact hQ
theorem s_stamp (h : INV σ N r n) (hl : LI σ N r δ κ τ) (hn : n ≤ 50) (hb : b < 2 ^ 31) (hc : c < 10) (hi : i < N) : LOK X n t (exM X 116 288 [some (.ref 0), some (.ref 35), some (.ref 36), some (.ref 37), some (.int x4), some (.int x5), some (.int (nI b)), some (.int (nI c)), some (.int (nI i)), some (.int (σ 13 c + σ 29 c)), some (.int x10), none, none, none, none, none, none, none, none, none, none, none, none, none] [] (WW σ (dA δ :: kA κ :: tA τ :: t)) 0 0) := by
  obtain ⟨d0, d1, d1', d2, kk, tt⟩ := id hl
  have hN := h.1.1.1.1
  have ek := kk i hi
  by_cases hk : σ 36 i = nI 2
  · rw [hk] at ek
    have i1 := c_time (X := X) (t := dA δ :: kA κ :: tA τ :: t) h hc hi hk
    have h1 := nlt_m1 (tmC_M h hi hk hc)
    refine LOK_of (k := 0) (s := 0) (σ' := σ) ?_ (by omega) (by omega) h hl
    simp (disch := omega) only [s116_288, s116_289, s116_291, s116_292, s116_293, s116_296, s116_297, s116_299, s116_301, s116_304, s116_305, s116_308, s116_309, s116_312, s116_313z0, s116_313z1, c10, c100, c6, eq_self, bnd_l, bnd_r, Option.toList_some, Option.toList_none, List.cons_append, List.nil_append, Nat.add_zero, Nat.zero_add, ↓reduceIte, nI_add, nI_mul, nI_subI, lt_t, lt_f, eq_f, lt_m1, m1_lt, eq_m1, m1_eq, ek, i1, h1]
  · have hk' : ¬ κ i = nI 2 := by rw [ek]; exact hk
    obtain ⟨m, hm, front⟩ := s_minute (X := X) (t := t) (δ := δ) (κ := κ) (τ := τ) (x4 := x4) (x5 := x5) (x10 := x10) h hn hb hc hi hk' hk
    by_cases hs : runP σ c ∧ σ 11 (10 * i + c) = -1 ∧ ¬ dueC σ c i = -1
    · have i1 := w_stamps (c_stamp0 (X := X) (t := dA δ :: kA κ :: tA τ :: t) h hc hi hk hm hs)
      have hI := INV_stamp h (by omega) hc hi hm hs
      obtain ⟨d, hd, ed⟩ := (due_B h (by omega) hi hc).resolve_left hs.2.2
      rw [dueD_t hs.1] at front
      rw [ed] at i1 hI front
      have i2 := p_carA (X := X) (σ := stpC σ c i m (nI m - nI d)) (t := dA δ :: kA κ :: tA τ :: t) hc
      have i3 := p_carB (X := X) (σ := stpC σ c i m (nI m - nI d)) (t := dA δ :: kA κ :: tA τ :: t) hc
      have i4 := p_carC (X := X) (σ := stpC σ c i m (nI m - nI d)) (t := dA δ :: kA κ :: tA τ :: t) hc
      have e13 : stpC σ c i m (nI m - nI d) 13 c + stpC σ c i m (nI m - nI d) 29 c = σ 13 c + σ 29 c + byF (nI m - nI d) := by
        show upd (σ 13) c (σ 13 c + byF (nI m - nI d)) c + σ 29 c = _
        rw [upd_eq]
        ac_rfl
      have e14 : stpC σ c i m (nI m - nI d) 14 c = σ 14 c + (if nI 0 < nI m - nI d then nI m - nI d else nI 0) := by
        show upd (σ 14) c _ c = _
        rw [upd_eq]
      rw [e13] at i2
      rw [e14] at i3 i4
      have hL : LI (stpC σ c i m (nI m - nI d)) N r δ κ τ := LI_congr hl rfl rfl rfl
      generalize stpC σ c i m (nI m - nI d) = ρ at *
      refine LOK_of1 (k := 0) (s := 0) (front _ ?_) (by omega) (by omega) hI hL
      by_cases hlt : d < m
      · obtain ⟨e1, e2⟩ := by_late hm hlt
        rw [e2] at i3 i4
        rw [e1] at i1 i2
        by_cases w : nI 30 < σ 14 c + nI (m - d)
        · rw [if_pos w] at i4
          simp (disch := omega) only [s116_387, s116_388, s116_390, s116_392, s116_394, s116_397, s116_399, s116_401, s116_403, s116_406, s116_407, s116_409, s116_410, s116_413, s116_415, s116_418, s116_419, s116_422, s116_423, s116_426, s116_428, s116_429, s116_432, s116_434, s116_436, s116_438, s116_441, s116_443, s116_445, s116_447, s116_448, s116_449, s116_452, s116_455, s116_457, s116_459, s116_460, s116_461, s116_464, s116_465, s116_467, s116_468, s116_471, s116_473, s116_475, s116_476, s116_479, s116_480, s116_482, s116_483, s116_486, s116_488, s116_490, s116_492, s116_495, s116_497, s116_499, s116_500, s116_503, s116_504, s116_505, s116_508, s116_509, s116_511, s116_512, s116_515, s116_516, s116_519, s116_520, s116_523, s116_524, s116_525, s116_527, s116_528, s116_531, s116_533, s116_536, s116_537, s116_540, s116_541, s116_544, s116_545, s116_548, s116_549z0, s116_549z1, c10, c100, c6, eq_self, bnd_l, bnd_r, Option.toList_some, Option.toList_none, List.cons_append, List.nil_append, Nat.add_zero, Nat.zero_add, ↓reduceIte, nI_add, nI_mul, nI_subI, lt_t, lt_f, eq_f, lt_m1, m1_lt, eq_m1, m1_eq, i1, i2, i3, i4, w, eq_m2]
        · rw [if_neg w] at i4
          simp (disch := omega) only [s116_387, s116_388, s116_390, s116_392, s116_394, s116_397, s116_399, s116_401, s116_403, s116_406, s116_407, s116_409, s116_410, s116_413, s116_415, s116_418, s116_419, s116_422, s116_423, s116_426, s116_428, s116_429, s116_432, s116_434, s116_436, s116_438, s116_441, s116_443, s116_445, s116_447, s116_448, s116_449, s116_452, s116_455, s116_457, s116_459, s116_460, s116_461, s116_464, s116_465, s116_467, s116_468, s116_471, s116_473, s116_475, s116_476, s116_479, s116_480, s116_482, s116_483, s116_486, s116_488, s116_490, s116_492, s116_495, s116_497, s116_499, s116_500, s116_503, s116_504, s116_505, s116_508, s116_509, s116_511, s116_512, s116_515, s116_516, s116_519, s116_520, s116_523, s116_524, s116_525, s116_527, s116_528, s116_531, s116_533, s116_536, s116_537, s116_540, s116_541, s116_544, s116_545, s116_548, s116_549z0, s116_549z1, c10, c100, c6, eq_self, bnd_l, bnd_r, Option.toList_some, Option.toList_none, List.cons_append, List.nil_append, Nat.add_zero, Nat.zero_add, ↓reduceIte, nI_add, nI_mul, nI_subI, lt_t, lt_f, eq_f, lt_m1, m1_lt, eq_m1, m1_eq, i1, i2, i3, i4, w, eq_m2]
      · obtain ⟨e1, e2⟩ := by_early hd (by omega : m ≤ d)
        rw [e2] at i3 i4
        rw [e1] at i1 i2
        by_cases w : nI 30 < σ 14 c + nI 0
        · rw [if_pos w] at i4
          simp (disch := omega) only [s116_387, s116_388, s116_390, s116_392, s116_394, s116_397, s116_399, s116_401, s116_403, s116_406, s116_407, s116_409, s116_410, s116_413, s116_415, s116_418, s116_419, s116_422, s116_423, s116_426, s116_428, s116_429, s116_432, s116_434, s116_436, s116_438, s116_441, s116_443, s116_445, s116_447, s116_448, s116_449, s116_452, s116_455, s116_457, s116_459, s116_460, s116_461, s116_464, s116_465, s116_467, s116_468, s116_471, s116_473, s116_475, s116_476, s116_479, s116_480, s116_482, s116_483, s116_486, s116_488, s116_490, s116_492, s116_495, s116_497, s116_499, s116_500, s116_503, s116_504, s116_505, s116_508, s116_509, s116_511, s116_512, s116_515, s116_516, s116_519, s116_520, s116_523, s116_524, s116_525, s116_527, s116_528, s116_531, s116_533, s116_536, s116_537, s116_540, s116_541, s116_544, s116_545, s116_548, s116_549z0, s116_549z1, c10, c100, c6, eq_self, bnd_l, bnd_r, Option.toList_some, Option.toList_none, List.cons_append, List.nil_append, Nat.add_zero, Nat.zero_add, ↓reduceIte, nI_add, nI_mul, nI_subI, lt_t, lt_f, eq_f, lt_m1, m1_lt, eq_m1, m1_eq, i1, i2, i3, i4, w, eq_m2]
        · rw [if_neg w] at i4
          simp (disch := omega) only [s116_387, s116_388, s116_390, s116_392, s116_394, s116_397, s116_399, s116_401, s116_403, s116_406, s116_407, s116_409, s116_410, s116_413, s116_415, s116_418, s116_419, s116_422, s116_423, s116_426, s116_428, s116_429, s116_432, s116_434, s116_436, s116_438, s116_441, s116_443, s116_445, s116_447, s116_448, s116_449, s116_452, s116_455, s116_457, s116_459, s116_460, s116_461, s116_464, s116_465, s116_467, s116_468, s116_471, s116_473, s116_475, s116_476, s116_479, s116_480, s116_482, s116_483, s116_486, s116_488, s116_490, s116_492, s116_495, s116_497, s116_499, s116_500, s116_503, s116_504, s116_505, s116_508, s116_509, s116_511, s116_512, s116_515, s116_516, s116_519, s116_520, s116_523, s116_524, s116_525, s116_527, s116_528, s116_531, s116_533, s116_536, s116_537, s116_540, s116_541, s116_544, s116_545, s116_548, s116_549z0, s116_549z1, c10, c100, c6, eq_self, bnd_l, bnd_r, Option.toList_some, Option.toList_none, List.cons_append, List.nil_append, Nat.add_zero, Nat.zero_add, ↓reduceIte, nI_add, nI_mul, nI_subI, lt_t, lt_f, eq_f, lt_m1, m1_lt, eq_m1, m1_eq, i1, i2, i3, i4, w, eq_m2]
    · have i1 := n_stamps (c_stamp1 (X := X) (t := dA δ :: kA κ :: tA τ :: t) h hc hi hk hm hs)
      have i2 := p_carA (X := X) (σ := σ) (t := dA δ :: kA κ :: tA τ :: t) hc
      refine LOK_of (k := 1) (s := 6) (σ' := σ) (front _ ?_) (by omega) (by omega) h hl
      simp (disch := omega) only [s116_387, s116_388, s116_390, s116_392, s116_394, s116_397, s116_399, s116_401, s116_403, s116_406, s116_407, s116_409, s116_410, s116_413, s116_415, s116_418, s116_419, s116_422, s116_549z0, s116_549z1, c10, c100, c6, eq_self, bnd_l, bnd_r, Option.toList_some, Option.toList_none, List.cons_append, List.nil_append, Nat.add_zero, Nat.zero_add, ↓reduceIte, nI_add, nI_mul, nI_subI, lt_t, lt_f, eq_f, lt_m1, m1_lt, eq_m1, m1_eq, i1, i2]
theorem s_delay (h : INV σ N r n) (hl : LI σ N r δ κ τ) (hn : n ≤ 50) (hb : b < 2 ^ 31) (hc : c < 10) (hi : i < N) : LOK X n t (exM X 116 550 [some (.ref 0), some (.ref 35), some (.ref 36), some (.ref 37), some (.int x4), some (.int x5), some (.int (nI b)), some (.int (nI c)), some (.int (nI i)), some (.int (σ 13 c + σ 29 c)), some (.int x10), none, none, none, none, none, none, none, none, none, none, none, none, none] [] (WW σ (dA δ :: kA κ :: tA τ :: t)) 0 0) := by
  obtain ⟨d0, d1, d1', d2, kk, tt⟩ := id hl
  have hN := h.1.1.1.1
  have ek := kk i hi
  have hu := Nat.mod_lt b (by omega : 0 < 60)
  by_cases hk : σ 36 i = nI 1
  · rw [hk] at ek
    have hk2 : ¬ σ 36 i = nI 2 := by rw [hk, k12]; exact id
    have i1 := p_due0 (X := X) (t := dA δ :: kA κ :: tA τ :: t) h.1.1.1 h.1.1.2.1 hc hi hk2
    rcases c_delay (X := X) (t := dA δ :: kA κ :: tA τ :: t) h hc hi hk (u := 1 + b % 60) (by omega) (by omega) with e | ⟨D, k, hk10, e, hD, hI⟩
    · have i2 := n_delays e
      refine LOK_of (k := 1) (s := 6) (σ' := σ) ?_ (by omega) (by omega) h hl
      simp (disch := omega) only [s116_550, s116_551, s116_553, s116_554, s116_555, s116_558, s116_559, s116_561, s116_562, s116_565, s116_566, s116_569, s116_570, s116_573, s116_574z0, s116_574z1, s116_575, s116_576, s116_578, s116_580, s116_583, s116_585, s116_586, s116_588, s116_590, s116_591, s116_593, s116_595, s116_596, s116_597, s116_600, s116_602, s116_604, s116_606, s116_609, s116_611, s116_614, s116_616, s116_618, s116_621, s116_623, s116_624, s116_627, s116_628, s116_630, s116_632, s116_635, s116_637, s116_640, s116_641, s116_643, s116_645, s116_648, s116_650, s116_651, s116_652, s116_654, s116_656, s116_657, s116_658, s116_661, s116_662, s116_665, s116_666z0, s116_666z1, c10, c100, c6, eq_self, bnd_l, bnd_r, Option.toList_some, Option.toList_none, List.cons_append, List.nil_append, Nat.add_zero, Nat.zero_add, ↓reduceIte, nI_add, nI_mul, nI_subI, lt_t, lt_f, eq_f, lt_m1, m1_lt, eq_m1, m1_eq, ek, i1, i2]
    · have i2 := w_delays e
      refine LOK_of1 (k := 0) (s := 0) (σ' := sA σ 12 D) ?_ (by omega) (by omega) hI (LI_congr hl rfl rfl rfl)
      rcases dueD_B h hn hi hc with w | ⟨hr, w1, d, hd, w2⟩
      · rw [w] at i1
        simp (disch := omega) only [s116_550, s116_551, s116_553, s116_554, s116_555, s116_558, s116_559, s116_561, s116_562, s116_565, s116_566, s116_569, s116_570, s116_573, s116_574z0, s116_574z1, s116_575, s116_576, s116_578, s116_580, s116_583, s116_585, s116_586, s116_588, s116_590, s116_591, s116_593, s116_595, s116_596, s116_597, s116_600, s116_602, s116_604, s116_606, s116_609, s116_611, s116_614, s116_616, s116_618, s116_621, s116_623, s116_624, s116_627, s116_628, s116_630, s116_632, s116_635, s116_637, s116_640, s116_641, s116_643, s116_645, s116_648, s116_650, s116_651, s116_652, s116_654, s116_656, s116_657, s116_658, s116_661, s116_662, s116_665, s116_666z0, s116_666z1, c10, c100, c6, eq_self, bnd_l, bnd_r, Option.toList_some, Option.toList_none, List.cons_append, List.nil_append, Nat.add_zero, Nat.zero_add, ↓reduceIte, nI_add, nI_mul, nI_subI, lt_t, lt_f, eq_f, lt_m1, m1_lt, eq_m1, m1_eq, ek, i1, i2, eq_m2]
      · have i3 := p_due0 (X := X) (t := dA δ :: kA κ :: tA τ :: t) hI.1.1.1 hI.1.1.2.1 hc hi hk2
        have er : dueD (sA σ 12 D) c i = dueC (sA σ 12 D) c i := dueD_t (σ := sA σ 12 D) hr
        have ev : dueC (sA σ 12 D) c i = nI d ∨ dueC (sA σ 12 D) c i = nI (d + 1 + b % 60) := by
          have e0 : dueF (σ 36) (σ 37) (σ 38) (σ 39) (σ 11) (σ 12) c i = nI d := w2
          have eD : dueC (sA σ 12 D) c i = dueF (σ 36) (σ 37) (σ 38) (σ 39) (σ 11) D c i := rfl
          rw [eD]
          unfold dueF at e0 ⊢
          have hk0 : ¬ σ 36 i = nI 0 := by rw [hk]; exact n1_0
          rw [if_neg hk0] at e0 ⊢
          by_cases q : σ 11 (10 * ahdF (σ 36) i + c) = -1
          · rw [if_pos q, m1_eq (by omega)] at e0
            exact e0.elim
          · rw [if_neg q] at e0 ⊢
            rcases hD (10 * i + c) with z | z
            · rw [z]
              exact Or.inl e0
            · rw [z, ← Int32.add_assoc, e0, nI_add]
              exact Or.inr (by congr 1; omega)
        rw [er] at i3
        rw [w1, w2] at i1
        rcases ev with ev | ev
        · rw [ev] at i3
          simp (disch := omega) only [s116_550, s116_551, s116_553, s116_554, s116_555, s116_558, s116_559, s116_561, s116_562, s116_565, s116_566, s116_569, s116_570, s116_573, s116_574z0, s116_574z1, s116_575, s116_576, s116_578, s116_580, s116_583, s116_585, s116_586, s116_588, s116_590, s116_591, s116_593, s116_595, s116_596, s116_597, s116_600, s116_602, s116_604, s116_606, s116_609, s116_611, s116_614, s116_616, s116_618, s116_621, s116_623, s116_624, s116_627, s116_628, s116_630, s116_632, s116_635, s116_637, s116_640, s116_641, s116_643, s116_645, s116_648, s116_650, s116_651, s116_652, s116_654, s116_656, s116_657, s116_658, s116_661, s116_662, s116_665, s116_666z0, s116_666z1, c10, c100, c6, eq_self, bnd_l, bnd_r, Option.toList_some, Option.toList_none, List.cons_append, List.nil_append, Nat.add_zero, Nat.zero_add, ↓reduceIte, nI_add, nI_mul, nI_subI, lt_t, lt_f, eq_f, lt_m1, m1_lt, eq_m1, m1_eq, ek, i1, i2, i3, eq_m2]
        · rw [ev] at i3
          simp (disch := omega) only [s116_550, s116_551, s116_553, s116_554, s116_555, s116_558, s116_559, s116_561, s116_562, s116_565, s116_566, s116_569, s116_570, s116_573, s116_574z0, s116_574z1, s116_575, s116_576, s116_578, s116_580, s116_583, s116_585, s116_586, s116_588, s116_590, s116_591, s116_593, s116_595, s116_596, s116_597, s116_600, s116_602, s116_604, s116_606, s116_609, s116_611, s116_614, s116_616, s116_618, s116_621, s116_623, s116_624, s116_627, s116_628, s116_630, s116_632, s116_635, s116_637, s116_640, s116_641, s116_643, s116_645, s116_648, s116_650, s116_651, s116_652, s116_654, s116_656, s116_657, s116_658, s116_661, s116_662, s116_665, s116_666z0, s116_666z1, c10, c100, c6, eq_self, bnd_l, bnd_r, Option.toList_some, Option.toList_none, List.cons_append, List.nil_append, Nat.add_zero, Nat.zero_add, ↓reduceIte, nI_add, nI_mul, nI_subI, lt_t, lt_f, eq_f, lt_m1, m1_lt, eq_m1, m1_eq, ek, i1, i2, i3, eq_m2]
  · have hk' : ¬ κ i = nI 1 := by rw [ek]; exact hk
    have i1 := p_due0 (X := X) (t := dA δ :: kA κ :: tA τ :: t) h.1.1.1 h.1.1.2.1 hc (by omega : 0 < N) (by rw [h.1.1.1.2.2.2.1 (by omega), k02]; exact id)
    refine LOK_of (k := 0) (s := 0) (σ' := σ) ?_ (by omega) (by omega) h hl
    rcases dueD_B h hn (by omega : 0 < N) hc with w | ⟨hr, w1, d, hd, w2⟩
    · rw [w] at i1
      simp (disch := omega) only [s116_550, s116_551, s116_553, s116_554, s116_555, s116_558, s116_559, s116_561, s116_562, s116_565, s116_566, s116_569, s116_570, s116_573, s116_574z0, s116_574z1, c10, c100, c6, eq_self, bnd_l, bnd_r, Option.toList_some, Option.toList_none, List.cons_append, List.nil_append, Nat.add_zero, Nat.zero_add, ↓reduceIte, nI_add, nI_mul, nI_subI, lt_t, lt_f, eq_f, lt_m1, m1_lt, eq_m1, m1_eq, hk', i1, m1m1]
    · rw [w1, w2] at i1
      simp (disch := omega) only [s116_550, s116_551, s116_553, s116_554, s116_555, s116_558, s116_559, s116_561, s116_562, s116_565, s116_566, s116_569, s116_570, s116_573, s116_574z0, s116_574z1, c10, c100, c6, eq_self, bnd_l, bnd_r, Option.toList_some, Option.toList_none, List.cons_append, List.nil_append, Nat.add_zero, Nat.zero_add, ↓reduceIte, nI_add, nI_mul, nI_subI, lt_t, lt_f, eq_f, lt_m1, m1_lt, eq_m1, m1_eq, hk', i1]
theorem s_finish (h : INV σ N r n) (hl : LI σ N r δ κ τ) (hn : n ≤ 50) (hb : b < 2 ^ 31) (hc : c < 10) (hi : i < N) : LOK X n t (exM X 116 667 [some (.ref 0), some (.ref 35), some (.ref 36), some (.ref 37), some (.int x4), some (.int x5), some (.int (nI b)), some (.int (nI c)), some (.int (nI i)), some (.int (σ 13 c + σ 29 c)), some (.int x10), none, none, none, none, none, none, none, none, none, none, none, none, none] [] (WW σ (dA δ :: kA κ :: tA τ :: t)) 0 0) := by
  obtain ⟨d0, d1, d1', d2, kk, tt⟩ := id hl
  have hN := h.1.1.1.1
  have ek := kk i hi
  have hb2 := Nat.div_le_self b 2
  by_cases hk : σ 36 i = nI 2
  · rw [hk] at ek
    rcases m2 b with w | w
    · obtain ⟨σ', N', r', δ', κ', τ', t', h', k, s, e, z⟩ := l_finished (X := X) (t := t) h hl (z := nI 1) (b := b / 2) (Or.inr rfl) hc hi hk (by omega)
      refine ⟨σ', N', r', δ', κ', τ', t', h', k, s, ?_, z⟩
      simp (disch := omega) only [s116_667, s116_668, s116_670, s116_671, s116_672, s116_675, s116_676, s116_678, s116_680, s116_682, s116_683, s116_684, s116_687, s116_688, s116_691, s116_692, s116_694, s116_695, s116_696, s116_699, s116_702, s116_703, s116_706, s116_707z0, s116_707z1, c10, c100, c6, eq_self, bnd_l, bnd_r, Option.toList_some, Option.toList_none, List.cons_append, List.nil_append, Nat.add_zero, Nat.zero_add, ↓reduceIte, nI_add, nI_mul, nI_subI, lt_t, lt_f, eq_f, lt_m1, m1_lt, eq_m1, m1_eq, ek, w, e]
    · obtain ⟨σ', N', r', δ', κ', τ', t', h', k, s, e, z⟩ := l_finished (X := X) (t := t) h hl (z := nI 0) (b := b / 2) (Or.inl rfl) hc hi hk (by omega)
      refine ⟨σ', N', r', δ', κ', τ', t', h', k, s, ?_, z⟩
      simp (disch := omega) only [s116_667, s116_668, s116_670, s116_671, s116_672, s116_675, s116_676, s116_678, s116_680, s116_682, s116_683, s116_684, s116_687, s116_688, s116_691, s116_692, s116_694, s116_695, s116_696, s116_699, s116_702, s116_703, s116_706, s116_707z0, s116_707z1, c10, c100, c6, eq_self, bnd_l, bnd_r, Option.toList_some, Option.toList_none, List.cons_append, List.nil_append, Nat.add_zero, Nat.zero_add, ↓reduceIte, nI_add, nI_mul, nI_subI, lt_t, lt_f, eq_f, lt_m1, m1_lt, eq_m1, m1_eq, ek, w, e]
  · have hk' : ¬ κ i = nI 2 := by rw [ek]; exact hk
    refine LOK_of (k := 0) (s := 0) (σ' := σ) ?_ (by omega) (by omega) h hl
    simp (disch := omega) only [s116_667, s116_668, s116_670, s116_671, s116_672, s116_675, s116_676, s116_678, s116_680, s116_682, s116_683, s116_684, s116_687, s116_688, s116_691, s116_692, s116_694, s116_695, s116_696, s116_699, s116_702, s116_703, s116_706, s116_707z0, s116_707z1, c10, c100, c6, eq_self, bnd_l, bnd_r, Option.toList_some, Option.toList_none, List.cons_append, List.nil_append, Nat.add_zero, Nat.zero_add, ↓reduceIte, nI_add, nI_mul, nI_subI, lt_t, lt_f, eq_f, lt_m1, m1_lt, eq_m1, m1_eq, hk']
theorem s_held (h : INV σ N r n) (hl : LI σ N r δ κ τ) (hn : n ≤ 50) (hb : b < 2 ^ 31) (hc : c < 10) (hi : i < N) : LOK X n t (exM X 116 708 [some (.ref 0), some (.ref 35), some (.ref 36), some (.ref 37), some (.int x4), some (.int x5), some (.int (nI b)), some (.int (nI c)), some (.int (nI i)), some (.int (σ 13 c + σ 29 c)), some (.int x10), none, none, none, none, none, none, none, none, none, none, none, none, none] [] (WW σ (dA δ :: kA κ :: tA τ :: t)) 0 0) := by
  obtain ⟨d0, d1, d1', d2, kk, tt⟩ := id hl
  have hN := h.1.1.1.1
  have ek := kk i hi
  by_cases hk : σ 36 i = nI 2
  · rw [hk] at ek
    rcases m2 b with w | w
    · rcases c_held (X := X) (t := dA δ :: kA κ :: tA τ :: t) h (z := nI 1) (Or.inr rfl) hc hi hk with e | ⟨σ', e, hI, e36, e39, e28⟩
      · have i1 := n_helds e
        refine LOK_of (k := 1) (s := 6) (σ' := σ) ?_ (by omega) (by omega) h hl
        simp (disch := omega) only [s116_708, s116_709, s116_711, s116_712, s116_713, s116_716, s116_717, s116_719, s116_721, s116_723, s116_724, s116_725, s116_728, s116_729, s116_732, s116_733, s116_736, s116_739, s116_741, s116_743, s116_745, s116_747, s116_750, s116_752, s116_753, s116_755, s116_757, s116_760, s116_763, s116_764, s116_767, s116_768z0, s116_768z1, c10, c100, c6, eq_self, bnd_l, bnd_r, Option.toList_some, Option.toList_none, List.cons_append, List.nil_append, Nat.add_zero, Nat.zero_add, ↓reduceIte, nI_add, nI_mul, nI_subI, lt_t, lt_f, eq_f, lt_m1, m1_lt, eq_m1, m1_eq, ek, w, i1]
      · have i1 := w_helds e
        have i2 := c_time (X := X) (t := dA δ :: kA κ :: tA τ :: t) hI hc hi (by rw [e36]; exact hk)
        have h2 := ne_m2 (tmC_M hI hi (by rw [e36]; exact hk) hc)
        refine LOK_of (k := 0) (s := 0) (σ' := σ') ?_ (by omega) (by omega) hI (LI_congr hl e36 e39 e28)
        simp (disch := omega) only [s116_708, s116_709, s116_711, s116_712, s116_713, s116_716, s116_717, s116_719, s116_721, s116_723, s116_724, s116_725, s116_728, s116_729, s116_732, s116_733, s116_736, s116_739, s116_741, s116_743, s116_745, s116_747, s116_750, s116_752, s116_753, s116_755, s116_757, s116_760, s116_763, s116_764, s116_767, s116_768z0, s116_768z1, c10, c100, c6, eq_self, bnd_l, bnd_r, Option.toList_some, Option.toList_none, List.cons_append, List.nil_append, Nat.add_zero, Nat.zero_add, ↓reduceIte, nI_add, nI_mul, nI_subI, lt_t, lt_f, eq_f, lt_m1, m1_lt, eq_m1, m1_eq, ek, w, i1, i2, h2]
    · rcases c_held (X := X) (t := dA δ :: kA κ :: tA τ :: t) h (z := nI 0) (Or.inl rfl) hc hi hk with e | ⟨σ', e, hI, e36, e39, e28⟩
      · have i1 := n_helds e
        refine LOK_of (k := 1) (s := 6) (σ' := σ) ?_ (by omega) (by omega) h hl
        simp (disch := omega) only [s116_708, s116_709, s116_711, s116_712, s116_713, s116_716, s116_717, s116_719, s116_721, s116_723, s116_724, s116_725, s116_728, s116_729, s116_732, s116_733, s116_736, s116_739, s116_741, s116_743, s116_745, s116_747, s116_750, s116_752, s116_753, s116_755, s116_757, s116_760, s116_763, s116_764, s116_767, s116_768z0, s116_768z1, c10, c100, c6, eq_self, bnd_l, bnd_r, Option.toList_some, Option.toList_none, List.cons_append, List.nil_append, Nat.add_zero, Nat.zero_add, ↓reduceIte, nI_add, nI_mul, nI_subI, lt_t, lt_f, eq_f, lt_m1, m1_lt, eq_m1, m1_eq, ek, w, i1]
      · have i1 := w_helds e
        have i2 := c_time (X := X) (t := dA δ :: kA κ :: tA τ :: t) hI hc hi (by rw [e36]; exact hk)
        have h2 := ne_m2 (tmC_M hI hi (by rw [e36]; exact hk) hc)
        refine LOK_of (k := 0) (s := 0) (σ' := σ') ?_ (by omega) (by omega) hI (LI_congr hl e36 e39 e28)
        simp (disch := omega) only [s116_708, s116_709, s116_711, s116_712, s116_713, s116_716, s116_717, s116_719, s116_721, s116_723, s116_724, s116_725, s116_728, s116_729, s116_732, s116_733, s116_736, s116_739, s116_741, s116_743, s116_745, s116_747, s116_750, s116_752, s116_753, s116_755, s116_757, s116_760, s116_763, s116_764, s116_767, s116_768z0, s116_768z1, c10, c100, c6, eq_self, bnd_l, bnd_r, Option.toList_some, Option.toList_none, List.cons_append, List.nil_append, Nat.add_zero, Nat.zero_add, ↓reduceIte, nI_add, nI_mul, nI_subI, lt_t, lt_f, eq_f, lt_m1, m1_lt, eq_m1, m1_eq, ek, w, i1, i2, h2]
  · have hk' : ¬ κ i = nI 2 := by rw [ek]; exact hk
    refine LOK_of (k := 0) (s := 0) (σ' := σ) ?_ (by omega) (by omega) h hl
    simp (disch := omega) only [s116_708, s116_709, s116_711, s116_712, s116_713, s116_716, s116_717, s116_719, s116_721, s116_723, s116_724, s116_725, s116_728, s116_729, s116_732, s116_733, s116_736, s116_739, s116_741, s116_743, s116_745, s116_747, s116_750, s116_752, s116_753, s116_755, s116_757, s116_760, s116_763, s116_764, s116_767, s116_768z0, s116_768z1, c10, c100, c6, eq_self, bnd_l, bnd_r, Option.toList_some, Option.toList_none, List.cons_append, List.nil_append, Nat.add_zero, Nat.zero_add, ↓reduceIte, nI_add, nI_mul, nI_subI, lt_t, lt_f, eq_f, lt_m1, m1_lt, eq_m1, m1_eq, hk']
theorem s_award (h : INV σ N r n) (hl : LI σ N r δ κ τ) (hn : n ≤ 50) (hb : b < 2 ^ 31) (hc : c < 10) (hi : i < N) : LOK X n t (exM X 116 769 [some (.ref 0), some (.ref 35), some (.ref 36), some (.ref 37), some (.int x4), some (.int x5), some (.int (nI b)), some (.int (nI c)), some (.int (nI i)), some (.int (σ 13 c + σ 29 c)), some (.int x10), none, none, none, none, none, none, none, none, none, none, none, none, none] [] (WW σ (dA δ :: kA κ :: tA τ :: t)) 0 0) := by
  obtain ⟨d0, d1, d1', d2, kk, tt⟩ := id hl
  have hN := h.1.1.1.1
  have ek := kk i hi
  have hb4 := Nat.div_le_self b 4
  have hx := Nat.mod_lt (b / 4) (by omega : 0 < 9000)
  by_cases hk : σ 36 i = nI 2
  · rw [hk] at ek
    by_cases w : b % 4 = 0
    · rcases c_award (X := X) (t := dA δ :: kA κ :: tA τ :: t) h (x := -1) (Or.inl rfl) hc hi hk with e | ⟨σ', e, hI, e36, e39, e28, ev⟩
      · have i1 := n_awards e
        refine LOK_of (k := 1) (s := 6) (σ' := σ) ?_ (by omega) (by omega) h hl
        simp (disch := omega) only [s116_769, s116_770, s116_772, s116_773, s116_774, s116_777, s116_778, s116_780, s116_782, s116_784, s116_785, s116_786, s116_789, s116_790, s116_793, s116_795, s116_796, s116_797, s116_800, s116_801, s116_804, s116_807, s116_809, s116_811, s116_813, s116_815, s116_818, s116_820, s116_821, s116_823, s116_825, s116_828, s116_831, s116_833, s116_834, s116_835, s116_838, s116_840, s116_842, s116_843, s116_844, s116_847, s116_848, s116_851, s116_852, s116_855, s116_856z0, s116_856z1, c10, c100, c6, eq_self, bnd_l, bnd_r, Option.toList_some, Option.toList_none, List.cons_append, List.nil_append, Nat.add_zero, Nat.zero_add, ↓reduceIte, nI_add, nI_mul, nI_subI, lt_t, lt_f, eq_f, lt_m1, m1_lt, eq_m1, m1_eq, ek, w, i1]
      · have i1 := w_awards e
        have i2 := c_time (X := X) (t := dA δ :: kA κ :: tA τ :: t) hI hc hi (by rw [e36]; exact hk)
        have h2 := ne_m2 (tmC_M hI hi (by rw [e36]; exact hk) hc)
        refine LOK_of (k := 0) (s := 0) (σ' := σ') ?_ (by omega) (by omega) hI (LI_congr hl e36 e39 e28)
        simp (disch := omega) only [s116_769, s116_770, s116_772, s116_773, s116_774, s116_777, s116_778, s116_780, s116_782, s116_784, s116_785, s116_786, s116_789, s116_790, s116_793, s116_795, s116_796, s116_797, s116_800, s116_801, s116_804, s116_807, s116_809, s116_811, s116_813, s116_815, s116_818, s116_820, s116_821, s116_823, s116_825, s116_828, s116_831, s116_833, s116_834, s116_835, s116_838, s116_840, s116_842, s116_843, s116_844, s116_847, s116_848, s116_851, s116_852, s116_855, s116_856z0, s116_856z1, c10, c100, c6, eq_self, bnd_l, bnd_r, Option.toList_some, Option.toList_none, List.cons_append, List.nil_append, Nat.add_zero, Nat.zero_add, ↓reduceIte, nI_add, nI_mul, nI_subI, lt_t, lt_f, eq_f, lt_m1, m1_lt, eq_m1, m1_eq, ek, w, i1, i2, h2]
    · rcases c_award (X := X) (t := dA δ :: kA κ :: tA τ :: t) h (x := nI (b / 4 % 9000)) (Or.inr ⟨b / 4 % 9000, by omega, rfl⟩) hc hi hk with e | ⟨σ', e, hI, e36, e39, e28, ev⟩
      · have i1 := n_awards e
        refine LOK_of (k := 1) (s := 6) (σ' := σ) ?_ (by omega) (by omega) h hl
        simp (disch := omega) only [s116_769, s116_770, s116_772, s116_773, s116_774, s116_777, s116_778, s116_780, s116_782, s116_784, s116_785, s116_786, s116_789, s116_790, s116_793, s116_795, s116_796, s116_797, s116_800, s116_801, s116_804, s116_807, s116_809, s116_811, s116_813, s116_815, s116_818, s116_820, s116_821, s116_823, s116_825, s116_828, s116_831, s116_833, s116_834, s116_835, s116_838, s116_840, s116_842, s116_843, s116_844, s116_847, s116_848, s116_851, s116_852, s116_855, s116_856z0, s116_856z1, c10, c100, c6, eq_self, bnd_l, bnd_r, Option.toList_some, Option.toList_none, List.cons_append, List.nil_append, Nat.add_zero, Nat.zero_add, ↓reduceIte, nI_add, nI_mul, nI_subI, lt_t, lt_f, eq_f, lt_m1, m1_lt, eq_m1, m1_eq, ek, w, i1]
      · have i1 := w_awards e
        have i2 := c_time (X := X) (t := dA δ :: kA κ :: tA τ :: t) hI hc hi (by rw [e36]; exact hk)
        have ev := ev (by rw [eq_m1 (by omega)]; exact id)
        rw [ev] at i1 i2
        refine LOK_of (k := 0) (s := 0) (σ' := σ') ?_ (by omega) (by omega) hI (LI_congr hl e36 e39 e28)
        simp (disch := omega) only [s116_769, s116_770, s116_772, s116_773, s116_774, s116_777, s116_778, s116_780, s116_782, s116_784, s116_785, s116_786, s116_789, s116_790, s116_793, s116_795, s116_796, s116_797, s116_800, s116_801, s116_804, s116_807, s116_809, s116_811, s116_813, s116_815, s116_818, s116_820, s116_821, s116_823, s116_825, s116_828, s116_831, s116_833, s116_834, s116_835, s116_838, s116_840, s116_842, s116_843, s116_844, s116_847, s116_848, s116_851, s116_852, s116_855, s116_856z0, s116_856z1, c10, c100, c6, eq_self, bnd_l, bnd_r, Option.toList_some, Option.toList_none, List.cons_append, List.nil_append, Nat.add_zero, Nat.zero_add, ↓reduceIte, nI_add, nI_mul, nI_subI, lt_t, lt_f, eq_f, lt_m1, m1_lt, eq_m1, m1_eq, ek, w, i1, i2, eq_m2]
  · have hk' : ¬ κ i = nI 2 := by rw [ek]; exact hk
    refine LOK_of (k := 0) (s := 0) (σ' := σ) ?_ (by omega) (by omega) h hl
    simp (disch := omega) only [s116_769, s116_770, s116_772, s116_773, s116_774, s116_777, s116_778, s116_780, s116_782, s116_784, s116_785, s116_786, s116_789, s116_790, s116_793, s116_795, s116_796, s116_797, s116_800, s116_801, s116_804, s116_807, s116_809, s116_811, s116_813, s116_815, s116_818, s116_820, s116_821, s116_823, s116_825, s116_828, s116_831, s116_833, s116_834, s116_835, s116_838, s116_840, s116_842, s116_843, s116_844, s116_847, s116_848, s116_851, s116_852, s116_855, s116_856z0, s116_856z1, c10, c100, c6, eq_self, bnd_l, bnd_r, Option.toList_some, Option.toList_none, List.cons_append, List.nil_append, Nat.add_zero, Nat.zero_add, ↓reduceIte, nI_add, nI_mul, nI_subI, lt_t, lt_f, eq_f, lt_m1, m1_lt, eq_m1, m1_eq, hk']
theorem s_alloc (h : INV σ N r n) (hl : LI σ N r δ κ τ) (hn : n ≤ 50) (hb : b < 2 ^ 31) (hc : c < 10) (hi : i < N) : LOK X n t (exM X 116 857 [some (.ref 0), some (.ref 35), some (.ref 36), some (.ref 37), some (.int x4), some (.int x5), some (.int (nI b)), some (.int (nI c)), some (.int (nI i)), some (.int (σ 13 c + σ 29 c)), some (.int x10), none, none, none, none, none, none, none, none, none, none, none, none, none] [] (WW σ (dA δ :: kA κ :: tA τ :: t)) 0 0) := by
  obtain ⟨d0, d1, d1', d2, kk, tt⟩ := id hl
  have et := tt c hc
  obtain ⟨m, hm, em⟩ := h.2.2.2.2.2 c hc
  have hx := Nat.mod_lt b (by omega : 0 < 100)
  by_cases w : σ 26 (100 * c + b % 100) = nI 0 ∧ σ 28 c < nI 6
  · have hm6 : m < 6 := by
      have := w.2
      rw [em] at this
      by_cases q : m < 6
      · exact q
      · rw [lt_f (by omega) (by omega)] at this
        exact this.elim
    have i1 := w_allocates (p_alloc0 (X := X) (σ := σ) (t := dA δ :: kA κ :: tA τ :: t) hc hx w)
    have hI := INV_alloc h hc hx hm6 em
    have ew : ∀ t, WW (u2 (u2 σ 26 (100 * c + b % 100) (nI 1)) 28 c (σ 28 c + nI 1)) t = WW (alG σ c (b % 100)) t := fun _ => rfl
    have e28 : alG σ c (b % 100) 28 = upd (σ 28) c (nI (m + 1)) := by
      show upd (σ 28) c (σ 28 c + nI 1) = _
      rw [em, nI_add]
    rw [ew, em, nI_add] at i1
    rw [em] at et
    obtain ⟨σ', v, hv, s1, s2, hI2, e36, e39, e282, -, -⟩ := c_seen (X := X) (t := dA δ :: kA κ :: tA (upd τ c (nI (m + 1))) :: t) hI hc hx
    have lI : LI σ' N r δ κ (upd τ c (nI (m + 1))) := by
      refine ⟨d0, ?_, ?_, d2, ?_, fun q hq => ?_⟩
      · rw [e39]; exact d1
      · rw [e39]; exact d1'
      · rw [e36]; exact kk
      · rw [e282, e28]
        by_cases y : q = c
        · subst y; rw [upd_eq, upd_eq]
        · rw [upd_ne y, upd_ne y]; exact tt q hq
    refine LOK_of (k := 0) (s := 0) (σ' := σ') ?_ (by omega) (by omega) hI2 lI
    rcases hv with rfl | rfl
    · simp (disch := omega) only [s116_857, s116_858, s116_860, s116_862, s116_864, s116_865, s116_868, s116_870, s116_871, s116_873, s116_874, s116_875, s116_877, s116_879, s116_882, s116_883, s116_886, s116_887, s116_888, s116_889, s116_891, s116_893, s116_896, s116_898, s116_899, s116_901, s116_902, s116_905, s116_907, s116_909, s116_912, s116_913, s116_915, s116_917, s116_919, s116_920, s116_923, s116_926, s116_927, s116_930, s116_931, s116_933, s116_935, s116_937, s116_938, s116_941, s116_944, s116_945, s116_948, s116_949z0, s116_949z1, c10, c100, c6, eq_self, bnd_l, bnd_r, Option.toList_some, Option.toList_none, List.cons_append, List.nil_append, Nat.add_zero, Nat.zero_add, ↓reduceIte, nI_add, nI_mul, nI_subI, lt_t, lt_f, eq_f, lt_m1, m1_lt, eq_m1, m1_eq, i1, et, upd_eq, eq_m2, s1, s2]
    · simp (disch := omega) only [s116_857, s116_858, s116_860, s116_862, s116_864, s116_865, s116_868, s116_870, s116_871, s116_873, s116_874, s116_875, s116_877, s116_879, s116_882, s116_883, s116_886, s116_887, s116_888, s116_889, s116_891, s116_893, s116_896, s116_898, s116_899, s116_901, s116_902, s116_905, s116_907, s116_909, s116_912, s116_913, s116_915, s116_917, s116_919, s116_920, s116_923, s116_926, s116_927, s116_930, s116_931, s116_933, s116_935, s116_937, s116_938, s116_941, s116_944, s116_945, s116_948, s116_949z0, s116_949z1, c10, c100, c6, eq_self, bnd_l, bnd_r, Option.toList_some, Option.toList_none, List.cons_append, List.nil_append, Nat.add_zero, Nat.zero_add, ↓reduceIte, nI_add, nI_mul, nI_subI, lt_t, lt_f, eq_f, lt_m1, m1_lt, eq_m1, m1_eq, i1, et, upd_eq, eq_m2, s1, s2]
  · have i1 := n_allocates (p_alloc3 (X := X) (σ := σ) (t := dA δ :: kA κ :: tA τ :: t) hc hx w)
    rw [em] at et
    obtain ⟨σ', v, hv, s1, s2, hI2, e36, e39, e282, -, -⟩ := c_seen (X := X) (t := dA δ :: kA κ :: tA (upd τ c (nI (m + 0))) :: t) h hc hx
    have lI : LI σ' N r δ κ (upd τ c (nI (m + 0))) := by
      rw [Nat.add_zero, ← et, upd_own]
      exact LI_congr hl e36 e39 e282
    refine LOK_of (k := 1) (s := 6) (σ' := σ') ?_ (by omega) (by omega) hI2 lI
    rw [Nat.add_zero] at *
    rcases hv with rfl | rfl
    · simp (disch := omega) only [s116_857, s116_858, s116_860, s116_862, s116_864, s116_865, s116_868, s116_870, s116_871, s116_873, s116_874, s116_875, s116_877, s116_879, s116_882, s116_883, s116_886, s116_887, s116_888, s116_889, s116_891, s116_893, s116_896, s116_898, s116_899, s116_901, s116_902, s116_905, s116_907, s116_909, s116_912, s116_913, s116_915, s116_917, s116_919, s116_920, s116_923, s116_926, s116_927, s116_930, s116_931, s116_933, s116_935, s116_937, s116_938, s116_941, s116_944, s116_945, s116_948, s116_949z0, s116_949z1, c10, c100, c6, eq_self, bnd_l, bnd_r, Option.toList_some, Option.toList_none, List.cons_append, List.nil_append, Nat.add_zero, Nat.zero_add, ↓reduceIte, nI_add, nI_mul, nI_subI, lt_t, lt_f, eq_f, lt_m1, m1_lt, eq_m1, m1_eq, i1, et, upd_eq, s1, s2]
    · simp (disch := omega) only [s116_857, s116_858, s116_860, s116_862, s116_864, s116_865, s116_868, s116_870, s116_871, s116_873, s116_874, s116_875, s116_877, s116_879, s116_882, s116_883, s116_886, s116_887, s116_888, s116_889, s116_891, s116_893, s116_896, s116_898, s116_899, s116_901, s116_902, s116_905, s116_907, s116_909, s116_912, s116_913, s116_915, s116_917, s116_919, s116_920, s116_923, s116_926, s116_927, s116_930, s116_931, s116_933, s116_935, s116_937, s116_938, s116_941, s116_944, s116_945, s116_948, s116_949z0, s116_949z1, c10, c100, c6, eq_self, bnd_l, bnd_r, Option.toList_some, Option.toList_none, List.cons_append, List.nil_append, Nat.add_zero, Nat.zero_add, ↓reduceIte, nI_add, nI_mul, nI_subI, lt_t, lt_f, eq_f, lt_m1, m1_lt, eq_m1, m1_eq, i1, et, upd_eq, s1, s2]
theorem s_seen (h : INV σ N r n) (hl : LI σ N r δ κ τ) (hn : n ≤ 50) (hb : b < 2 ^ 31) (hc : c < 10) (hi : i < N) : LOK X n t (exM X 116 950 [some (.ref 0), some (.ref 35), some (.ref 36), some (.ref 37), some (.int x4), some (.int x5), some (.int (nI b)), some (.int (nI c)), some (.int (nI i)), some (.int (σ 13 c + σ 29 c)), some (.int x10), none, none, none, none, none, none, none, none, none, none, none, none, none] [] (WW σ (dA δ :: kA κ :: tA τ :: t)) 0 0) := by
  have hx := Nat.mod_lt b (by omega : 0 < 100)
  obtain ⟨σ', v, hv, s1, s2, hI2, e36, e39, e28, e13, e29⟩ := c_seen (X := X) (t := dA δ :: kA κ :: tA τ :: t) h hc hx
  have i2 := p_carA (X := X) (σ := σ') (t := dA δ :: kA κ :: tA τ :: t) hc
  rw [e13, e29, ← Int32.add_assoc] at i2
  refine LOK_of (k := 0) (s := 0) (σ' := σ') ?_ (by omega) (by omega) hI2 (LI_congr hl e36 e39 e28)
  rcases hv with rfl | rfl
  · simp (disch := omega) only [s116_950, s116_951, s116_953, s116_955, s116_957, s116_958, s116_961, s116_963, s116_965, s116_968, s116_970, s116_973, s116_976, s116_977, s116_979, s116_980, s116_983, s116_985, s116_987, s116_988, s116_991, s116_992, s116_995, s116_996z0, s116_996z1, c10, c100, c6, eq_self, bnd_l, bnd_r, Option.toList_some, Option.toList_none, List.cons_append, List.nil_append, Nat.add_zero, Nat.zero_add, ↓reduceIte, nI_add, nI_mul, nI_subI, lt_t, lt_f, eq_f, lt_m1, m1_lt, eq_m1, m1_eq, s1, i2]
  · simp (disch := omega) only [s116_950, s116_951, s116_953, s116_955, s116_957, s116_958, s116_961, s116_963, s116_965, s116_968, s116_970, s116_973, s116_976, s116_977, s116_979, s116_980, s116_983, s116_985, s116_987, s116_988, s116_991, s116_992, s116_995, s116_996z0, s116_996z1, c10, c100, c6, eq_self, bnd_l, bnd_r, Option.toList_some, Option.toList_none, List.cons_append, List.nil_append, Nat.add_zero, Nat.zero_add, ↓reduceIte, nI_add, nI_mul, nI_subI, lt_t, lt_f, eq_f, lt_m1, m1_lt, eq_m1, m1_eq, s1, i2]
theorem s_retire (h : INV σ N r n) (hl : LI σ N r δ κ τ) (hn : n ≤ 50) (hb : b < 2 ^ 31) (hc : c < 10) (hi : i < N) : LOK X n t (exM X 116 997 [some (.ref 0), some (.ref 35), some (.ref 36), some (.ref 37), some (.int x4), some (.int x5), some (.int (nI b)), some (.int (nI c)), some (.int (nI i)), some (.int (σ 13 c + σ 29 c)), some (.int x10), none, none, none, none, none, none, none, none, none, none, none, none, none] [] (WW σ (dA δ :: kA κ :: tA τ :: t)) 0 0) := by
  have i1 := p_carC (X := X) (σ := σ) (t := dA δ :: kA κ :: tA τ :: t) hc
  have i2 := p_carD (X := X) (σ := σ) (t := dA δ :: kA κ :: tA τ :: t) hc (h.2.1 c hc)
  have m2_z : ((-2 : Int32) = nI 0) = False := eq_false (by decide +kernel)
  by_cases hr : runP σ c
  · rw [if_neg hr.2] at i1
    rw [hr.1] at i2
    rcases m2 b with w | w
    · have i4 := w_retires (p_retire0 (X := X) (σ := σ) (t := dA δ :: kA κ :: tA τ :: t) (z := nI 1) hc hr (Or.inr rfl))
      have hI := INV_retire (z := nI 1) h hc
      have i5 := p_carD (X := X) (σ := rtG σ c (nI 1)) (t := dA δ :: kA κ :: tA τ :: t) hc (hI.2.1 c hc)
      have e15 : rtG σ c (nI 1) 15 c = nI 1 := by
        show upd (σ 15) c (nI 1) c = _
        rw [upd_eq]
      rw [e15] at i5
      have i6 := p_carF (X := X) (σ := rtG σ c (nI 1)) (t := dA δ :: kA κ :: tA τ :: t) hI.1.1.1 (hz_of hI) hc
      have hno : ¬ inC (nI 0) (rtG σ c (nI 1)) c := fun q => by
        rcases q with y | ⟨-, y, -⟩
        · exact n1_0 y.symm
        · rw [e15] at y
          exact n1_0 y
      rw [rkC_plV hc, plV_f hno] at i6
      have ew : ∀ t, WW (u2 (u2 σ 15 c (nI 1)) 16 c (nI 1)) t = WW (rtG σ c (nI 1)) t := fun _ => rfl
      rw [ew] at i4
      refine LOK_of (k := 0) (s := 0) (σ' := rkC (nI 0) (rtG σ c (nI 1)) N) ?_ (by omega) (by omega) (INV_rkC hI) (LI_congr hl rfl rfl rfl)
      simp (disch := omega) only [s116_997, s116_998, s116_1000, s116_1001, s116_1004, s116_1007, s116_1008, s116_1010, s116_1011, s116_1014, s116_1017, s116_1018, s116_1021, s116_1022, s116_1024, s116_1025, s116_1027, s116_1029, s116_1030, s116_1031, s116_1034, s116_1035, s116_1038, s116_1039, s116_1042, s116_1044, s116_1046, s116_1049, s116_1050, s116_1053, s116_1054, s116_1056, s116_1059, s116_1061, s116_1064, s116_1065, s116_1067, s116_1068, s116_1071, s116_1072, s116_1075, s116_1076, s116_1078, s116_1079, s116_1082, s116_1083, s116_1086, s116_1087, s116_1090, s116_1091z0, s116_1091z1, c10, c100, c6, eq_self, bnd_l, bnd_r, Option.toList_some, Option.toList_none, List.cons_append, List.nil_append, Nat.add_zero, Nat.zero_add, ↓reduceIte, nI_add, nI_mul, nI_subI, lt_t, lt_f, eq_f, lt_m1, m1_lt, eq_m1, m1_eq, w, i1, i2, i4, i5, i6, m1_m2]
    · have i4 := w_retires (p_retire0 (X := X) (σ := σ) (t := dA δ :: kA κ :: tA τ :: t) (z := nI 0) hc hr (Or.inl rfl))
      have hI := INV_retire (z := nI 0) h hc
      have i5 := p_carD (X := X) (σ := rtG σ c (nI 0)) (t := dA δ :: kA κ :: tA τ :: t) hc (hI.2.1 c hc)
      have e15 : rtG σ c (nI 0) 15 c = nI 1 := by
        show upd (σ 15) c (nI 1) c = _
        rw [upd_eq]
      rw [e15] at i5
      have i6 := p_carF (X := X) (σ := rtG σ c (nI 0)) (t := dA δ :: kA κ :: tA τ :: t) hI.1.1.1 (hz_of hI) hc
      have hno : ¬ inC (nI 0) (rtG σ c (nI 0)) c := fun q => by
        rcases q with y | ⟨-, y, -⟩
        · exact n1_0 y.symm
        · rw [e15] at y
          exact n1_0 y
      rw [rkC_plV hc, plV_f hno] at i6
      have ew : ∀ t, WW (u2 (u2 σ 15 c (nI 1)) 16 c (nI 0)) t = WW (rtG σ c (nI 0)) t := fun _ => rfl
      rw [ew] at i4
      refine LOK_of (k := 0) (s := 0) (σ' := rkC (nI 0) (rtG σ c (nI 0)) N) ?_ (by omega) (by omega) (INV_rkC hI) (LI_congr hl rfl rfl rfl)
      simp (disch := omega) only [s116_997, s116_998, s116_1000, s116_1001, s116_1004, s116_1007, s116_1008, s116_1010, s116_1011, s116_1014, s116_1017, s116_1018, s116_1021, s116_1022, s116_1024, s116_1025, s116_1027, s116_1029, s116_1030, s116_1031, s116_1034, s116_1035, s116_1038, s116_1039, s116_1042, s116_1044, s116_1046, s116_1049, s116_1050, s116_1053, s116_1054, s116_1056, s116_1059, s116_1061, s116_1064, s116_1065, s116_1067, s116_1068, s116_1071, s116_1072, s116_1075, s116_1076, s116_1078, s116_1079, s116_1082, s116_1083, s116_1086, s116_1087, s116_1090, s116_1091z0, s116_1091z1, c10, c100, c6, eq_self, bnd_l, bnd_r, Option.toList_some, Option.toList_none, List.cons_append, List.nil_append, Nat.add_zero, Nat.zero_add, ↓reduceIte, nI_add, nI_mul, nI_subI, lt_t, lt_f, eq_f, lt_m1, m1_lt, eq_m1, m1_eq, w, i1, i2, i4, i5, i6, m1_m2]
  · rcases m2 b with w | w
    · have i4 := n_retires (p_retire2 (X := X) (σ := σ) (t := dA δ :: kA κ :: tA τ :: t) (z := nI 1) hc hr)
      refine LOK_of (k := 1) (s := 6) (σ' := σ) ?_ (by omega) (by omega) h hl
      by_cases y : nI 30 < σ 14 c
      · rw [if_pos y] at i1
        simp (disch := omega) only [s116_997, s116_998, s116_1000, s116_1001, s116_1004, s116_1007, s116_1008, s116_1010, s116_1011, s116_1014, s116_1017, s116_1018, s116_1021, s116_1022, s116_1024, s116_1025, s116_1027, s116_1029, s116_1030, s116_1031, s116_1034, s116_1035, s116_1038, s116_1039, s116_1042, s116_1044, s116_1046, s116_1049, s116_1050, s116_1053, s116_1054, s116_1056, s116_1059, s116_1061, s116_1064, s116_1065, s116_1067, s116_1068, s116_1071, s116_1072, s116_1075, s116_1076, s116_1078, s116_1079, s116_1082, s116_1083, s116_1086, s116_1087, s116_1090, s116_1091z0, s116_1091z1, c10, c100, c6, eq_self, bnd_l, bnd_r, Option.toList_some, Option.toList_none, List.cons_append, List.nil_append, Nat.add_zero, Nat.zero_add, ↓reduceIte, nI_add, nI_mul, nI_subI, lt_t, lt_f, eq_f, lt_m1, m1_lt, eq_m1, m1_eq, w, i1, i4, m2_z]
      · rw [if_neg y] at i1
        have e15 : σ 15 c = nI 1 := (h.2.1 c hc).resolve_left fun q => hr ⟨q, y⟩
        rw [e15] at i2
        simp (disch := omega) only [s116_997, s116_998, s116_1000, s116_1001, s116_1004, s116_1007, s116_1008, s116_1010, s116_1011, s116_1014, s116_1017, s116_1018, s116_1021, s116_1022, s116_1024, s116_1025, s116_1027, s116_1029, s116_1030, s116_1031, s116_1034, s116_1035, s116_1038, s116_1039, s116_1042, s116_1044, s116_1046, s116_1049, s116_1050, s116_1053, s116_1054, s116_1056, s116_1059, s116_1061, s116_1064, s116_1065, s116_1067, s116_1068, s116_1071, s116_1072, s116_1075, s116_1076, s116_1078, s116_1079, s116_1082, s116_1083, s116_1086, s116_1087, s116_1090, s116_1091z0, s116_1091z1, c10, c100, c6, eq_self, bnd_l, bnd_r, Option.toList_some, Option.toList_none, List.cons_append, List.nil_append, Nat.add_zero, Nat.zero_add, ↓reduceIte, nI_add, nI_mul, nI_subI, lt_t, lt_f, eq_f, lt_m1, m1_lt, eq_m1, m1_eq, w, i1, i2, i4, m2_z]
    · have i4 := n_retires (p_retire2 (X := X) (σ := σ) (t := dA δ :: kA κ :: tA τ :: t) (z := nI 0) hc hr)
      refine LOK_of (k := 1) (s := 6) (σ' := σ) ?_ (by omega) (by omega) h hl
      by_cases y : nI 30 < σ 14 c
      · rw [if_pos y] at i1
        simp (disch := omega) only [s116_997, s116_998, s116_1000, s116_1001, s116_1004, s116_1007, s116_1008, s116_1010, s116_1011, s116_1014, s116_1017, s116_1018, s116_1021, s116_1022, s116_1024, s116_1025, s116_1027, s116_1029, s116_1030, s116_1031, s116_1034, s116_1035, s116_1038, s116_1039, s116_1042, s116_1044, s116_1046, s116_1049, s116_1050, s116_1053, s116_1054, s116_1056, s116_1059, s116_1061, s116_1064, s116_1065, s116_1067, s116_1068, s116_1071, s116_1072, s116_1075, s116_1076, s116_1078, s116_1079, s116_1082, s116_1083, s116_1086, s116_1087, s116_1090, s116_1091z0, s116_1091z1, c10, c100, c6, eq_self, bnd_l, bnd_r, Option.toList_some, Option.toList_none, List.cons_append, List.nil_append, Nat.add_zero, Nat.zero_add, ↓reduceIte, nI_add, nI_mul, nI_subI, lt_t, lt_f, eq_f, lt_m1, m1_lt, eq_m1, m1_eq, w, i1, i4, m2_z]
      · rw [if_neg y] at i1
        have e15 : σ 15 c = nI 1 := (h.2.1 c hc).resolve_left fun q => hr ⟨q, y⟩
        rw [e15] at i2
        simp (disch := omega) only [s116_997, s116_998, s116_1000, s116_1001, s116_1004, s116_1007, s116_1008, s116_1010, s116_1011, s116_1014, s116_1017, s116_1018, s116_1021, s116_1022, s116_1024, s116_1025, s116_1027, s116_1029, s116_1030, s116_1031, s116_1034, s116_1035, s116_1038, s116_1039, s116_1042, s116_1044, s116_1046, s116_1049, s116_1050, s116_1053, s116_1054, s116_1056, s116_1059, s116_1061, s116_1064, s116_1065, s116_1067, s116_1068, s116_1071, s116_1072, s116_1075, s116_1076, s116_1078, s116_1079, s116_1082, s116_1083, s116_1086, s116_1087, s116_1090, s116_1091z0, s116_1091z1, c10, c100, c6, eq_self, bnd_l, bnd_r, Option.toList_some, Option.toList_none, List.cons_append, List.nil_append, Nat.add_zero, Nat.zero_add, ↓reduceIte, nI_add, nI_mul, nI_subI, lt_t, lt_f, eq_f, lt_m1, m1_lt, eq_m1, m1_eq, w, i1, i2, i4, m2_z]
theorem s_close (h : INV σ N r n) (hl : LI σ N r δ κ τ) (hn : n ≤ 50) (hb : b < 2 ^ 31) (hc : c < 10) (hi : i < N) (ht : t.length + 100 ≤ 99999) : LOK X n t (exM X 116 1092 [some (.ref 0), some (.ref 35), some (.ref 36), some (.ref 37), some (.int x4), some (.int x5), some (.int (nI b)), some (.int (nI c)), some (.int (nI i)), some (.int (σ 13 c + σ 29 c)), some (.int x10), none, none, none, none, none, none, none, none, none, none, none, none, none] [] (WW σ (dA δ :: kA κ :: tA τ :: t)) 0 0) := by
  have hx := Nat.mod_lt b (by omega : 0 < 4)
  by_cases w : b % 4 = 0
  · obtain ⟨σ', N', r', δ', κ', τ', t', h', k, s, e, z⟩ := l_closed (X := X) (t := t) h hl ht
    refine ⟨σ', N', r', δ', κ', τ', t', h', k, s, ?_, z⟩
    simp (disch := omega) only [s116_1092, s116_1094, s116_1095, s116_1096, s116_1099, s116_1100, s116_1101, s116_1102, s116_1105, s116_1108, s116_1109, s116_1112, s116_1113z0, s116_1113z1, c10, c100, c6, eq_self, bnd_l, bnd_r, Option.toList_some, Option.toList_none, List.cons_append, List.nil_append, Nat.add_zero, Nat.zero_add, ↓reduceIte, nI_add, nI_mul, nI_subI, lt_t, lt_f, eq_f, lt_m1, m1_lt, eq_m1, m1_eq, w, e]
  · refine LOK_of (k := 0) (s := 0) (σ' := σ) ?_ (by omega) (by omega) h hl
    simp (disch := omega) only [s116_1092, s116_1094, s116_1095, s116_1096, s116_1099, s116_1100, s116_1101, s116_1102, s116_1105, s116_1108, s116_1109, s116_1112, s116_1113z0, s116_1113z1, c10, c100, c6, eq_self, bnd_l, bnd_r, Option.toList_some, Option.toList_none, List.cons_append, List.nil_append, Nat.add_zero, Nat.zero_add, ↓reduceIte, nI_add, nI_mul, nI_subI, lt_t, lt_f, eq_f, lt_m1, m1_lt, eq_m1, m1_eq]
theorem s_points (h : INV σ N r n) (hl : LI σ N r δ κ τ) (hn : n ≤ 50) (hb : b < 2 ^ 31) (hc : c < 10) (hi : i < N) : LOK X n t (exM X 116 1114 [some (.ref 0), some (.ref 35), some (.ref 36), some (.ref 37), some (.int x4), some (.int x5), some (.int (nI b)), some (.int (nI c)), some (.int (nI i)), some (.int (σ 13 c + σ 29 c)), some (.int x10), none, none, none, none, none, none, none, none, none, none, none, none, none] [] (WW σ (dA δ :: kA κ :: tA τ :: t)) 0 0) := by
  have i1 := p_points0 (X := X) (t := dA δ :: kA κ :: tA τ :: t) h.2.2.2.1 hc
  have hs := sumV_le (σ 54) (c := c) h.2.2.2.1.1
  refine LOK_of (k := 0) (s := 0) (σ' := σ) ?_ (by omega) (by omega) h hl
  generalize sumV (σ 54) r c = v at *
  simp (disch := omega) only [s116_1114, s116_1115, s116_1117, s116_1120, s116_1123, s116_1124, s116_1126, s116_1129, s116_1132, s116_1135, s116_1136, s116_1139, s116_1140z0, s116_1140z1, c10, c100, c6, eq_self, bnd_l, bnd_r, Option.toList_some, Option.toList_none, List.cons_append, List.nil_append, Nat.add_zero, Nat.zero_add, ↓reduceIte, nI_add, nI_mul, nI_subI, lt_t, lt_f, eq_f, lt_m1, m1_lt, eq_m1, m1_eq, i1]
end STP
