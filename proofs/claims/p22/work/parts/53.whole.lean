/-! THE LAW: the whole state looked at -/
section WHL
variable {X : rX} {σ : Nat → Nat → Int32} {δ κ τ : Nat → Int32} {t : rH} {N r n : Nat}
/-- what a total is: times, and penalties; what late is of these -/
theorem tot_ge (h : INV σ N r n) (hn : n ≤ 50) {c : Nat} (hc : c < 10) : ∃ a b l, a + b < 2 ^ 30 ∧ 100 * l ≤ b ∧ σ 13 c + σ 29 c = nI b ∧ ttC σ N c = nI (a + b) ∧ σ 14 c = nI l := by
  have hN := h.1.1.1.1
  obtain ⟨a, ha, ea⟩ := sm_B h hc N (Nat.le_refl _)
  obtain ⟨b, hb, eb⟩ := pf_B h (by omega) hc N (Nat.le_refl _)
  obtain ⟨d, hd, ed⟩ := ty_B (fn := σ 27) (c := c) 100
  obtain ⟨l, x, h1, h2, h3, h4⟩ := h.2.2.2.2.1 c hc
  have e13 : σ 13 c = nI b := by rw [h.1.2.2.2.1 c hc, eb]
  have e : 100 * l + x = b := (nI_eq (by omega) (by omega)).mp (by rw [← h4, e13])
  have e2 : σ 13 c + σ 29 c = nI (b + d) := by rw [e13, h.2.2.1.1 c hc, ed, nI_add]
  refine ⟨a, b + d, l, by omega, by omega, e2, ?_, h3⟩
  show smF (σ 23) (σ 24) c N + (σ 13 c + σ 29 c) = _
  rw [ea, e2, nI_add]
/-- the cars by their places -/
noncomputable def gP (σ : Nat → Nat → Int32) (N p : Nat) : Nat := cnt (plcF (rkC (nI 0) σ N 34) (nI p) 10)
noncomputable def mP (σ : Nat → Nat → Int32) : Nat := cnF (inC (nI 0) σ) 10
theorem gP_at {p : Nat} (hp : p < mP σ) : gP σ N p < 10 ∧ inC (nI 0) σ (gP σ N p) ∧ rnk (inC (nI 0) σ) (ahdC (rk1 (nI 0) σ N 10 32) (σ 23) N) (gP σ N p) = p ∧ plcF (rkC (nI 0) σ N 34) (nI p) 10 = nI (gP σ N p) := by
  obtain ⟨c, hc, h1, h2, e⟩ := plc_ex (P := inC (nI 0) σ) (rk := rkC (nI 0) σ N 34) (ahdC_ord (inC (nI 0) σ) (rk1 (nI 0) σ N 10 32) (σ 23) N) (fun c hc => rkC_plV hc) hp
  have : gP σ N p = c := by
    unfold gP
    rw [e, cnt_nI (by omega)]
  rw [this]
  exact ⟨hc, h1, h2, e⟩
theorem gP_no {p : Nat} (hp : ¬ p < mP σ) (h2 : p < 10) : plcF (rkC (nI 0) σ N 34) (nI p) 10 = -1 :=
  plc_no (P := inC (nI 0) σ) (A := ahdC (rk1 (nI 0) σ N 10 32) (σ 23) N) (fun c hc => rkC_plV hc) hp (by omega)
theorem gP_pl {p : Nat} (hp : p < mP σ) : rkC (nI 0) σ N 34 (gP σ N p) = nI p := by
  obtain ⟨h1, h2, h3, -⟩ := gP_at (N := N) hp
  rw [rkC_plV h1, plV_t h2]
  exact congrArg nI h3
theorem mP_le : mP σ ≤ 10 := cnF_le _ 10
/-- totals rise -/
theorem gP_tot {p : Nat} (hp : p + 1 < mP σ) : ¬ ttC σ N (gP σ N (p + 1)) < ttC σ N (gP σ N p) := by
  obtain ⟨a1, a2, a3, -⟩ := gP_at (N := N) (by omega : p < mP σ)
  obtain ⟨b1, b2, b3, -⟩ := gP_at (N := N) hp
  have hO := ahdC_ord (inC (nI 0) σ) (rk1 (nI 0) σ N 10 32) (σ 23) N
  have t2 : ∀ c, c < 10 → rk1 (nI 0) σ N 10 32 c = ttC σ N c := fun c hc => by
    show ltF 10 (ttC σ N) (σ 32) c = _
    rw [ltF_lt hc]
  have hne : gP σ N p ≠ gP σ N (p + 1) := fun e => by
    rw [e, b3] at a3
    omega
  have hA : ahdC (rk1 (nI 0) σ N 10 32) (σ 23) N (gP σ N p) (gP σ N (p + 1)) := by
    refine Classical.byContradiction fun z => ?_
    have z2 := (hO.1 _ _ b1 a1 (fun e => hne e.symm)).mpr z
    have := rnk_lt hO b1 a1 (fun e => hne e.symm) b2 z2
    omega
  rcases hA with q | ⟨q, -⟩
  · rw [t2 _ a1, t2 _ b1] at q
    exact Int32.lt_asymm q
  · rw [t2 _ a1, t2 _ b1] at q
    rw [q]
    exact Int32.lt_irrefl
/-- the cars by the table -/
noncomputable def gT (σ : Nat → Nat → Int32) (r p : Nat) : Nat := cnt (plcF (fun c => nI (tbN (σ 54) r c)) (nI p) 10)
theorem gT_at {p : Nat} (hp : p < 10) : gT σ r p < 10 ∧ rnk (fun _ => True) (btR (σ 54) r) (gT σ r p) = p ∧ plcF (fun c => nI (tbN (σ 54) r c)) (nI p) 10 = nI (gT σ r p) := by
  obtain ⟨c, hc, -, h2, e⟩ := plc_ex (P := fun _ => True) (rk := fun c => nI (tbN (σ 54) r c)) (btR_ord (σ 54) r) (fun c hc => tbN_plV) (p := p) (by rw [cnF_all fun _ => trivial]; exact hp)
  have : gT σ r p = c := by
    unfold gT
    rw [e, cnt_nI (by omega)]
  rw [this]
  exact ⟨hc, h2, e⟩
theorem gT_inj {p q : Nat} (hp : p < 10) (hq : q < 10) (e : gT σ r p = gT σ r q) : p = q := by
  have h1 := (gT_at (σ := σ) (r := r) hp).2.1
  have h2 := (gT_at (σ := σ) (r := r) hq).2.1
  rw [e, h2] at h1
  exact h1.symm
theorem bt_sum {pl : Nat → Int32} {a b : Nat} (h : btR pl r a b) : sumV pl r b ≤ sumV pl r a := by
  refine Nat.le_of_not_lt fun z => ?_
  have e := prF_stay (pl := pl) (r := r) (a := a) (b := b) (j := 0) (fun q => by
    have q : sumV pl r b = sumV pl r a := q
    omega) 10
  have e : prF pl r a b 10 = (sumV pl r b, sumV pl r a) := e
  rcases h with q | ⟨q, -⟩
  · rw [e] at q
    dsimp only at q
    omega
  · rw [e] at q
    dsimp only at q
    omega
theorem gT_sum {p : Nat} (hp : p + 1 < 10) : sumV (σ 54) r (gT σ r (p + 1)) ≤ sumV (σ 54) r (gT σ r p) := by
  obtain ⟨a1, a3, -⟩ := gT_at (σ := σ) (r := r) (by omega : p < 10)
  obtain ⟨b1, b3, -⟩ := gT_at (σ := σ) (r := r) hp
  have hO := btR_ord (σ 54) r
  have hne : gT σ r p ≠ gT σ r (p + 1) := fun e => by
    have := gT_inj (by omega) (by omega) e
    omega
  refine bt_sum (Classical.byContradiction fun z => ?_)
  have z2 := (hO.1 _ _ b1 a1 (fun e => hne e.symm)).mpr z
  have := rnk_lt hO b1 a1 (fun e => hne e.symm) trivial z2
  omega
/-! queries, on the state with its ranks reckoned -/
theorem q_ranked (h : INV σ N r n) {p : Nat} (hp : p < 10) : exC X 95 [.ref 0, .int (nI p)] (WW (rkC (nI 0) σ N) t) = ans (plcF (rkC (nI 0) σ N 34) (nI p) 10) (WW (rkC (nI 0) σ N) t) := by
  have := p_ranked0 (X := X) (t := t) (INV_rkC (z := nI 0) h).1.1.1 (hz_of (INV_rkC (z := nI 0) h)) hp (rk_uni (nI 0) (by omega))
  rw [rkC_idem] at this
  exact this
theorem q_place (h : INV σ N r n) {c : Nat} (hc : c < 10) : exC X 93 [.ref 0, .int (nI c), .int (nI 5)] (WW (rkC (nI 0) σ N) t) = ans (rkC (nI 0) σ N 34 c) (WW (rkC (nI 0) σ N) t) := by
  have := p_carF (X := X) (t := t) (INV_rkC (z := nI 0) h).1.1.1 (hz_of (INV_rkC (z := nI 0) h)) hc
  rw [rkC_idem] at this
  exact this
theorem q_out (h : INV σ N r n) {c : Nat} (hc : c < 10) (hp : runP σ c) : exC X 93 [.ref 0, .int (nI c), .int (nI 2)] (WW (rkC (nI 0) σ N) t) = ans (nI 0) (WW (rkC (nI 0) σ N) t) := by
  have := p_carC (X := X) (σ := rkC (nI 0) σ N) (t := t) hc
  rw [show rkC (nI 0) σ N 14 = σ 14 from rfl, if_neg hp.2] at this
  exact this
theorem q_ret (h : INV σ N r n) {c : Nat} (hc : c < 10) (hp : runP σ c) : exC X 93 [.ref 0, .int (nI c), .int (nI 3)] (WW (rkC (nI 0) σ N) t) = ans (nI 0) (WW (rkC (nI 0) σ N) t) := by
  have := p_carD (X := X) (σ := rkC (nI 0) σ N) (t := t) hc (h.2.1 c hc)
  rw [show rkC (nI 0) σ N 15 = σ 15 from rfl, hp.1] at this
  exact this
theorem q_tot (h : INV σ N r n) {c : Nat} (hc : c < 10) : exC X 93 [.ref 0, .int (nI c), .int (nI 4)] (WW (rkC (nI 0) σ N) t) = ans (ttC σ N c) (WW (rkC (nI 0) σ N) t) := p_carE (X := X) (t := t) (INV_rkC (z := nI 0) h).1.1.1 hc
theorem q_pen {c : Nat} (hc : c < 10) : exC X 93 [.ref 0, .int (nI c), .int (nI 0)] (WW (rkC (nI 0) σ N) t) = ans (σ 13 c + σ 29 c) (WW (rkC (nI 0) σ N) t) := p_carA (X := X) (σ := rkC (nI 0) σ N) (t := t) hc
theorem q_late {c : Nat} (hc : c < 10) : exC X 93 [.ref 0, .int (nI c), .int (nI 1)] (WW (rkC (nI 0) σ N) t) = ans (σ 14 c) (WW (rkC (nI 0) σ N) t) := p_carB (X := X) (σ := rkC (nI 0) σ N) (t := t) hc
theorem q_anew (h : INV σ N r n) {c : Nat} (hc : c < 10) : exC X 94 [.ref 0, .int (nI c)] (WW (rkC (nI 0) σ N) t) = ans (ttC σ N c) (WW (rkC (nI 0) σ N) t) := c_anew (X := X) (t := t) (INV_rkC (z := nI 0) h) hc
theorem q_table (h : INV σ N r n) {p : Nat} (hp : p < 10) : exC X 98 [.ref 0, .int (nI p)] (WW (rkC (nI 0) σ N) t) = ans (nI (gT σ r p)) (WW (rkC (nI 0) σ N) t) := by
  have := p_table0 (X := X) (σ := rkC (nI 0) σ N) (t := t) (INV_rkC (z := nI 0) h).2.2.2.1 hp
  rw [show rkC (nI 0) σ N 54 = σ 54 from rfl, (gT_at (σ := σ) (r := r) hp).2.2] at this
  exact this
theorem q_points (h : INV σ N r n) {c : Nat} (hc : c < 10) : exC X 97 [.ref 0, .int (nI c)] (WW (rkC (nI 0) σ N) t) = ans (nI (sumV (σ 54) r c)) (WW (rkC (nI 0) σ N) t) := p_points0 (X := X) (σ := rkC (nI 0) σ N) (t := t) (INV_rkC (z := nI 0) h).2.2.2.1 hc
/-- the car last seen in the ranks -/
noncomputable def lsV (σ : Nat → Nat → Int32) (N p : Nat) : Int32 := if p = 0 then -1 else nI (gP σ N (p - 1))
/-- the first loop: ranks and table -/
theorem l_whole1 (h : INV σ N r n) {Q : Option rR} (hQ : ∀ o8 o9, exM X 121 183 [some (.ref 0), some (.ref 35), some (.ref 36), some (.int (nI 1)), some (.int (lsV σ N (mP σ))), some (.int (nI (mP σ))), some (.int (nI (mkN (gT σ r) 10))), some (.int (nI 10)), o8, o9] [] (WW (rkC (nI 0) σ N) t) 0 0 = Q) :
    ∀ q p, p + q = 10 → ∀ o8 o9 m, m = (if p < mP σ then p else mP σ) → exM X 121 14 [some (.ref 0), some (.ref 35), some (.ref 36), some (.int (nI 1)), some (.int (lsV σ N m)), some (.int (nI m)), some (.int (nI (mkN (gT σ r) p))), some (.int (nI p)), o8, o9] [] (WW (rkC (nI 0) σ N) t) 0 0 = Q := by
  have hm10 := mP_le (σ := σ)
  have hr6 := h.2.2.2.1.1
  intro q
  induction q with
  | zero =>
    intro p hp o8 o9 m em
    obtain rfl : p = 10 := by omega
    rw [if_neg (by omega)] at em
    subst em
    simp (disch := omega) only [s121_14, s121_16, s121_18, c10, c100, c6, eq_self, bnd_l, bnd_r, Option.toList_some, Option.toList_none, List.cons_append, List.nil_append, Nat.add_zero, Nat.zero_add, ↓reduceIte, nI_add, nI_mul, nI_subI, lt_t, lt_f, eq_f, lt_m1, m1_lt, eq_m1, m1_eq]
    exact hQ o8 o9
  | succ q ih =>
    intro p hp o8 o9 m em
    have i1 := q_ranked (X := X) (t := t) h (by omega : p < 10)
    have i2 := q_table (X := X) (t := t) h (by omega : p < 10)
    obtain ⟨t1, -, -⟩ := gT_at (σ := σ) (r := r) (by omega : p < 10)
    have i3 := q_points (X := X) (t := t) h t1
    have hn := mk_new (f := gT σ r) (n := p) (c := gT σ r p) fun q hq e => by
      have := gT_inj (by omega) (by omega) e
      omega
    have hl := mk_lt (f := gT σ r) p fun q hq => (gT_at (by omega)).1
    have hs := sumV_le (σ 54) (c := gT σ r p) hr6
    -- behind the ranks
    have back : ∀ (o8 : Option Value) (m' : Nat), m' = (if p + 1 < mP σ then p + 1 else mP σ) → exM X 121 114 [some (.ref 0), some (.ref 35), some (.ref 36), some (.int (nI 1)), some (.int (lsV σ N m')), some (.int (nI m')), some (.int (nI (mkN (gT σ r) p))), some (.int (nI p)), o8, o9] [] (WW (rkC (nI 0) σ N) t) 0 0 = Q := fun o8 m' em' => by
      have i5 := ih (p + 1) (by omega) o8 (some (.int (nI (gT σ r p)))) m' em'
      rw [show mkN (gT σ r) (p + 1) = mkN (gT σ r) p ||| 2 ^ gT σ r p from rfl] at i5
      by_cases p0 : p = 0
      · subst p0
        generalize gT σ r 0 = c at *
        generalize mkN (gT σ r) 0 = S at *
        simp (disch := omega) only [s121_114, s121_115, s121_117, s121_120, s121_122, s121_123, s121_126, s121_128, s121_130, s121_131, s121_132, s121_133, s121_136, s121_138, s121_141, s121_142, s121_143, s121_145, s121_146, s121_147, s121_150, s121_153, s121_154, s121_156, s121_159, s121_162, s121_163, s121_166, s121_167, s121_168, s121_170, s121_171, s121_173, s121_174, s121_175, s121_177, s121_180, c10, c100, c6, eq_self, bnd_l, bnd_r, Option.toList_some, Option.toList_none, List.cons_append, List.nil_append, Nat.add_zero, Nat.zero_add, ↓reduceIte, nI_add, nI_mul, nI_subI, lt_t, lt_f, eq_f, lt_m1, m1_lt, eq_m1, m1_eq, i2, hn]
        exact i5
      · have i6 := q_table (X := X) (t := t) h (by omega : p - 1 < 10)
        obtain ⟨t2, -, -⟩ := gT_at (σ := σ) (r := r) (by omega : p - 1 < 10)
        have i7 := q_points (X := X) (t := t) h t2
        have hsum := gT_sum (σ := σ) (r := r) (p := p - 1) (by omega)
        rw [show p - 1 + 1 = p by omega] at hsum
        have hs2 := sumV_le (σ 54) (c := gT σ r (p - 1)) hr6
        generalize gT σ r (p - 1) = c' at *
        generalize gT σ r p = c at *
        generalize mkN (gT σ r) p = S at *
        generalize sumV (σ 54) r c' = s1 at *
        generalize sumV (σ 54) r c = s2 at *
        simp (disch := omega) only [s121_114, s121_115, s121_117, s121_120, s121_122, s121_123, s121_126, s121_128, s121_130, s121_131, s121_132, s121_133, s121_136, s121_138, s121_141, s121_142, s121_143, s121_145, s121_146, s121_147, s121_150, s121_153, s121_154, s121_156, s121_159, s121_162, s121_163, s121_166, s121_167, s121_168, s121_170, s121_171, s121_173, s121_174, s121_175, s121_177, s121_180, c10, c100, c6, eq_self, bnd_l, bnd_r, Option.toList_some, Option.toList_none, List.cons_append, List.nil_append, Nat.add_zero, Nat.zero_add, ↓reduceIte, nI_add, nI_mul, nI_subI, lt_t, lt_f, eq_f, lt_m1, m1_lt, eq_m1, m1_eq, i2, i3, i6, i7, hn]
        exact i5
    by_cases hp2 : p < mP σ
    · rw [if_pos hp2] at em
      subst em
      obtain ⟨g1, g2, g3, g4⟩ := gP_at (N := N) hp2
      rw [g4] at i1
      have hrun : runP σ (gP σ N m) := by
        rcases g2 with z | z
        · exact absurd z.symm n1_0
        · exact z.2
      have i3 := q_place (X := X) (t := t) h g1
      rw [gP_pl hp2] at i3
      have i4 := q_out (X := X) (t := t) h g1 hrun
      have i5 := q_ret (X := X) (t := t) h g1 hrun
      have i6 := q_tot (X := X) (t := t) h g1
      have b := back (some (.int (nI (gP σ N m)))) (m + 1) (by split <;> omega)
      have e1 : lsV σ N (m + 1) = nI (gP σ N m) := by
        unfold lsV
        rw [if_neg (by omega)]
        rfl
      rw [e1] at b
      rw [s121_14]
      by_cases p0 : m = 0
      · subst p0
        have e2 : lsV σ N 0 = -1 := rfl
        rw [e2]
        generalize gP σ N 0 = c at *
        simp (disch := omega) only [s121_16, s121_18, s121_21, s121_22, s121_25, s121_26, s121_28, s121_31, s121_33, s121_35, s121_36, s121_39, s121_41, s121_43, s121_46, s121_47, s121_49, s121_50, s121_53, s121_55, s121_58, s121_59, s121_61, s121_62, s121_65, s121_68, s121_69, s121_71, s121_72, s121_75, s121_78, s121_80, s121_81, s121_84, s121_85, s121_87, s121_88, s121_91, s121_92, s121_94, s121_95, s121_98, s121_101, s121_102, s121_105, s121_106, s121_107, s121_109, s121_111, c10, c100, c6, eq_self, bnd_l, bnd_r, Option.toList_some, Option.toList_none, List.cons_append, List.nil_append, Nat.add_zero, Nat.zero_add, ↓reduceIte, nI_add, nI_mul, nI_subI, lt_t, lt_f, eq_f, lt_m1, m1_lt, eq_m1, m1_eq, i1, i3, i4, i5]
        exact b
      · have e2 : lsV σ N m = nI (gP σ N (m - 1)) := if_neg p0
        obtain ⟨f1, -, -, -⟩ := gP_at (N := N) (by omega : m - 1 < mP σ)
        have i7 := q_tot (X := X) (t := t) h f1
        have ht := gP_tot (N := N) (p := m - 1) (σ := σ) (by omega)
        rw [show m - 1 + 1 = m by omega] at ht
        rw [e2]
        generalize gP σ N (m - 1) = c' at *
        generalize gP σ N m = c at *
        generalize ttC σ N c' = x1 at *
        generalize ttC σ N c = x2 at *
        simp (disch := omega) only [s121_16, s121_18, s121_21, s121_22, s121_25, s121_26, s121_28, s121_31, s121_33, s121_35, s121_36, s121_39, s121_41, s121_43, s121_46, s121_47, s121_49, s121_50, s121_53, s121_55, s121_58, s121_59, s121_61, s121_62, s121_65, s121_68, s121_69, s121_71, s121_72, s121_75, s121_78, s121_80, s121_81, s121_84, s121_85, s121_87, s121_88, s121_91, s121_92, s121_94, s121_95, s121_98, s121_101, s121_102, s121_105, s121_106, s121_107, s121_109, s121_111, c10, c100, c6, eq_self, bnd_l, bnd_r, Option.toList_some, Option.toList_none, List.cons_append, List.nil_append, Nat.add_zero, Nat.zero_add, ↓reduceIte, nI_add, nI_mul, nI_subI, lt_t, lt_f, eq_f, lt_m1, m1_lt, eq_m1, m1_eq, i1, i3, i4, i5, i6, i7, ht]
        exact b
    · rw [if_neg hp2] at em
      subst em
      rw [gP_no hp2 (by omega)] at i1
      have b := back (some (.int (-1))) (mP σ) (by split <;> omega)
      rw [s121_14]
      simp (disch := omega) only [s121_16, s121_18, s121_21, s121_22, s121_25, s121_26, s121_28, s121_31, s121_33, s121_35, s121_36, c10, c100, c6, eq_self, bnd_l, bnd_r, Option.toList_some, Option.toList_none, List.cons_append, List.nil_append, Nat.add_zero, Nat.zero_add, ↓reduceIte, nI_add, nI_mul, nI_subI, lt_t, lt_f, eq_f, lt_m1, m1_lt, eq_m1, m1_eq, i1]
      exact b
/-- the second loop: totals -/
theorem l_whole2 (h : INV σ N r n) (hn : n ≤ 50) {v4 v5 v6 : Int32} {o9 : Option Value} {Q : Option rR} (hQ : exM X 121 286 [some (.ref 0), some (.ref 35), some (.ref 36), some (.int (nI 1)), some (.int v4), some (.int v5), some (.int v6), some (.int (nI (mP σ))), some (.int (nI 10)), o9] [] (WW (rkC (nI 0) σ N) t) 0 0 = Q) :
    ∀ q c, c + q = 10 → exM X 121 189 [some (.ref 0), some (.ref 35), some (.ref 36), some (.int (nI 1)), some (.int v4), some (.int v5), some (.int v6), some (.int (nI (cnF (inC (nI 0) σ) c))), some (.int (nI c)), o9] [] (WW (rkC (nI 0) σ N) t) 0 0 = Q := by
  intro q
  induction q with
  | zero =>
    intro c hc
    obtain rfl : c = 10 := by omega
    simp (disch := omega) only [s121_189, s121_191, s121_193, c10, c100, c6, eq_self, bnd_l, bnd_r, Option.toList_some, Option.toList_none, List.cons_append, List.nil_append, Nat.add_zero, Nat.zero_add, ↓reduceIte, nI_add, nI_mul, nI_subI, lt_t, lt_f, eq_f, lt_m1, m1_lt, eq_m1, m1_eq]
    exact hQ
  | succ q ih =>
    intro c hc
    have hc10 : c < 10 := by omega
    have i1 := q_place (X := X) (t := t) h hc10
    have i2 := q_tot (X := X) (t := t) h hc10
    have i3 := q_anew (X := X) (t := t) h hc10
    have i4 := q_pen (X := X) (σ := σ) (N := N) (t := t) hc10
    have i5 := q_late (X := X) (σ := σ) (N := N) (t := t) hc10
    have i6 := ih (c + 1) (by omega)
    obtain ⟨a, b, l, h1, h2, e1, e2, e3⟩ := tot_ge h hn hc10
    rw [e2] at i2 i3
    rw [e1] at i4
    rw [e3] at i5
    rw [rkC_plV hc10] at i1
    rw [s121_189]
    by_cases w : inC (nI 0) σ c
    · have hle := cnF_le (fun o => o ≠ c ∧ inC (nI 0) σ o ∧ ahdC (rk1 (nI 0) σ N 10 32) (σ 23) N o c) 10
      rw [plV_t w] at i1
      rw [cnF_t w] at i6
      generalize cnF (fun o => o ≠ c ∧ inC (nI 0) σ o ∧ ahdC (rk1 (nI 0) σ N 10 32) (σ 23) N o c) 10 = x at *
      simp (disch := omega) only [s121_191, s121_193, s121_196, s121_197, s121_200, s121_202, s121_203, s121_205, s121_206, s121_209, s121_210, s121_213, s121_214, s121_217, s121_218, s121_219, s121_221, s121_222, s121_224, s121_225, s121_228, s121_229, s121_231, s121_234, s121_237, s121_238, s121_240, s121_241, s121_244, s121_245, s121_247, s121_248, s121_251, s121_254, s121_255, s121_257, s121_258, s121_261, s121_263, s121_264, s121_266, s121_267, s121_270, s121_271, s121_274, s121_275, s121_278, s121_279, s121_280, s121_283, c10, c100, c6, eq_self, bnd_l, bnd_r, Option.toList_some, Option.toList_none, List.cons_append, List.nil_append, Nat.add_zero, Nat.zero_add, ↓reduceIte, nI_add, nI_mul, nI_subI, lt_t, lt_f, eq_f, lt_m1, m1_lt, eq_m1, m1_eq, i1, i2, i3, i4, i5]
      exact i6
    · rw [plV_f w] at i1
      rw [cnF_f w] at i6
      simp (disch := omega) only [s121_191, s121_193, s121_196, s121_197, s121_200, s121_202, s121_203, s121_205, s121_206, s121_209, s121_210, s121_213, s121_214, s121_217, s121_218, s121_219, s121_221, s121_222, s121_224, s121_225, s121_228, s121_229, s121_231, s121_234, s121_237, s121_238, s121_240, s121_241, s121_244, s121_245, s121_247, s121_248, s121_251, s121_254, s121_255, s121_257, s121_258, s121_261, s121_263, s121_264, s121_266, s121_267, s121_270, s121_271, s121_274, s121_275, s121_278, s121_279, s121_280, s121_283, c10, c100, c6, eq_self, bnd_l, bnd_r, Option.toList_some, Option.toList_none, List.cons_append, List.nil_append, Nat.add_zero, Nat.zero_add, ↓reduceIte, nI_add, nI_mul, nI_subI, lt_t, lt_f, eq_f, lt_m1, m1_lt, eq_m1, m1_eq, i1, i2, i3, i4, i5]
      exact i6
theorem l_whole (h : INV σ N r n) (hn : n ≤ 50) (hl : LI σ N r δ κ τ) : exC X 121 [.ref 0, .ref 35, .ref 36] (WW σ (dA δ :: kA κ :: tA τ :: t)) = ans (nI 1) (WW (rkC (nI 0) σ N) (dA δ :: kA κ :: tA τ :: t)) := by
  obtain ⟨d0, d1, d1', d2, kk, tt⟩ := id hl
  have hm10 := mP_le (σ := σ)
  have fin : ∀ o9 v4 v6, exM X 121 286 [some (.ref 0), some (.ref 35), some (.ref 36), some (.int (nI 1)), some (.int v4), some (.int (nI (mP σ))), some (.int v6), some (.int (nI (mP σ))), some (.int (nI 10)), o9] [] (WW (rkC (nI 0) σ N) (dA δ :: kA κ :: tA τ :: t)) 0 0 = ans (nI 1) (WW (rkC (nI 0) σ N) (dA δ :: kA κ :: tA τ :: t)) := fun o9 v4 v6 => by
    by_cases w : mP σ = 0
    · rw [w]
      simp (disch := omega) only [s121_286, s121_287, s121_290, s121_292, s121_294, s121_297, s121_299, s121_302, s121_303, s121_304, s121_305, s121_306, s121_309, s121_310, s121_313, s121_314z0, s121_314z1, c10, c100, c6, eq_self, bnd_l, bnd_r, Option.toList_some, Option.toList_none, List.cons_append, List.nil_append, Nat.add_zero, Nat.zero_add, ↓reduceIte, nI_add, nI_mul, nI_subI, lt_t, lt_f, eq_f, lt_m1, m1_lt, eq_m1, m1_eq]
    · have ho : ¬ σ 39 0 = -1 := fun z => by
        obtain ⟨g1, g2, -, -⟩ := gP_at (N := N) (by omega : 0 < mP σ)
        rcases g2 with y | y
        · exact n1_0 y.symm
        · exact y.1 ((h.1.2.2.2.2.2 z).1 (gP σ N 0) (by omega)).1
      have e1 := d1' ho
      simp (disch := omega) only [s121_286, s121_287, s121_290, s121_292, s121_294, s121_297, s121_299, s121_302, s121_303, s121_304, s121_305, s121_306, s121_309, s121_310, s121_313, s121_314z0, s121_314z1, c10, c100, c6, eq_self, bnd_l, bnd_r, Option.toList_some, Option.toList_none, List.cons_append, List.nil_append, Nat.add_zero, Nat.zero_add, ↓reduceIte, nI_add, nI_mul, nI_subI, lt_t, lt_f, eq_f, lt_m1, m1_lt, eq_m1, m1_eq, e1]
  have L1 := l_whole1 (X := X) (t := dA δ :: kA κ :: tA τ :: t) h (Q := ans (nI 1) (WW (rkC (nI 0) σ N) (dA δ :: kA κ :: tA τ :: t))) (fun o8 o9 => by
    have L2 := l_whole2 (X := X) (t := dA δ :: kA κ :: tA τ :: t) h hn (fin o9 (lsV σ N (mP σ)) (nI (mkN (gT σ r) 10))) 10 0 (by omega)
    rw [show cnF (inC (nI 0) σ) 0 = 0 from rfl] at L2
    simp (disch := omega) only [s121_183, s121_184, s121_186, s121_187, c10, c100, c6, eq_self, bnd_l, bnd_r, Option.toList_some, Option.toList_none, List.cons_append, List.nil_append, Nat.add_zero, Nat.zero_add, ↓reduceIte, nI_add, nI_mul, nI_subI, lt_t, lt_f, eq_f, lt_m1, m1_lt, eq_m1, m1_eq]
    exact L2)
  -- the first question reckons
  have i1 := p_ranked0 (X := X) (t := dA δ :: kA κ :: tA τ :: t) h.1.1.1 (hz_of h) (by omega : 0 < 10) (rk_uni (nI 0) (by omega))
  have i2 := q_ranked (X := X) (t := dA δ :: kA κ :: tA τ :: t) h (by omega : 0 < 10)
  have L3 := L1 10 0 (by omega) none none 0 (by split <;> omega)
  rw [show lsV σ N 0 = -1 from rfl, show mkN (gT σ r) 0 = 0 from rfl] at L3
  rw [ent_121]
  generalize plcF (rkC (nI 0) σ N 34) (nI 0) 10 = v at i1 i2
  rw [s121_14] at L3
  have L4 : exM X 121 31 [some (.ref 0), some (.ref 35), some (.ref 36), some (.int (nI 1)), some (.int (-1)), some (.int (nI 0)), some (.int (nI 0)), some (.int (nI 0)), none, none] [.int v] (WW (rkC (nI 0) σ N) (dA δ :: kA κ :: tA τ :: t)) 0 0 = ans (nI 1) (WW (rkC (nI 0) σ N) (dA δ :: kA κ :: tA τ :: t)) := by
    revert L3
    simp (disch := omega) only [s121_16, s121_18, s121_21, s121_22, s121_25, s121_26, s121_28, c10, c100, c6, eq_self, bnd_l, bnd_r, Option.toList_some, Option.toList_none, List.cons_append, List.nil_append, Nat.add_zero, Nat.zero_add, ↓reduceIte, nI_add, nI_mul, nI_subI, lt_t, lt_f, eq_f, lt_m1, m1_lt, eq_m1, m1_eq, i2]
    exact id
  simp (disch := omega) only [s121_0, s121_1, s121_2, s121_3, s121_5, s121_6, s121_8, s121_9, s121_11, s121_12, s121_14, s121_16, s121_18, s121_21, s121_22, s121_25, s121_26, s121_28, c10, c100, c6, eq_self, bnd_l, bnd_r, Option.toList_some, Option.toList_none, List.cons_append, List.nil_append, Nat.add_zero, Nat.zero_add, ↓reduceIte, nI_add, nI_mul, nI_subI, lt_t, lt_f, eq_f, lt_m1, m1_lt, eq_m1, m1_eq, i1]
  exact L4
end WHL
