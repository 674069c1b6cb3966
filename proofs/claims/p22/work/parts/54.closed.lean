/-! THE LAW: a rally closed -/
section CLD
variable {X : rX} {σ : Nat → Nat → Int32} {δ κ τ : Nat → Int32} {t : rH} {N r n : Nat}
theorem FIN_mono {q : Option rR} {K S K' S' : Nat} (h : FIN q K S) (h1 : K ≤ K') (h2 : S ≤ S') : FIN q K' S' := by
  obtain ⟨a, k, s, e, b, c⟩ := h
  exact ⟨a, k, s, e, by omega, by omega⟩
theorem FIN_ren {π : Nat → Nat} {L M pc K S k s : Nat} {ls : rL} {st : List Value} {h : rH} (hπ : PI π L) (hl : L ≤ h.length) (hF : FIN (exM X M pc ls st h k s) K S) : FIN (exM X M pc (rl π ls) (st.map (rv π)) (rh π h) k s) K S := by
  obtain ⟨a, k', s', e, b, c⟩ := hF
  exact ⟨_, k', s', ex_ren hπ hl e, b, c⟩
theorem TRX_ren {π : Nat → Nat} {L : Nat} {h : rH} (hπ : PI π L) (hl : L ≤ h.length) (p0 : π 0 = 0) (p35 : π 35 = 35) (p36 : π 36 = 36) (p37 : π 37 = 37) (pX : π 100000 = 100000) : TRX X (rh π h) h := fun pc x5 x6 x7 st k s K S hF => by
  have ren := FIN_ren hπ hl hF
  have e1 : rl π [some (.ref 100000), some (.ref 0), some (.ref 35), some (.ref 36), some (.ref 37), some (.int x5), some (.int x6), some (.int x7)] = [some (.ref 100000), some (.ref 0), some (.ref 35), some (.ref 36), some (.ref 37), some (.int x5), some (.int x6), some (.int x7)] := by
    show [some (Value.ref (π 100000)), some (Value.ref (π 0)), some (Value.ref (π 35)), some (Value.ref (π 36)), some (Value.ref (π 37)), some (.int x5), some (.int x6), some (.int x7)] = _
    rw [pX, p0, p35, p36, p37]
  have e2 : (st.map Value.int).map (rv π) = st.map Value.int := by
    rw [List.map_map]
    exact List.map_congr_left fun _ _ => rfl
  rw [e1, e2] at ren
  exact ren
/-- the loop over the tyres -/
theorem l_tyres {v3 v4 v5 : Int32} {k s : Nat} {Q : Option rR} (hQ : exM X 120 91 [some (.ref 0), some (.ref 35), some (.ref 37), some (.int v3), some (.int v4), some (.int v5), some (.int (nI 10))] [] (WW σ (dA δ :: kA κ :: tA (ltF 10 (fun _ => nI 0) τ) :: t)) k s = Q) :
    ∀ q j, j + q = 10 → exM X 120 73 [some (.ref 0), some (.ref 35), some (.ref 37), some (.int v3), some (.int v4), some (.int v5), some (.int (nI j))] [] (WW σ (dA δ :: kA κ :: tA (ltF j (fun _ => nI 0) τ) :: t)) k s = Q := by
  intro q
  induction q with
  | zero =>
    intro j hj
    obtain rfl : j = 10 := by omega
    simp (disch := omega) only [s120_73, s120_75, s120_77, c10, c100, c6, eq_self, bnd_l, bnd_r, Option.toList_some, Option.toList_none, List.cons_append, List.nil_append, Nat.add_zero, Nat.zero_add, ↓reduceIte, nI_add, nI_mul, nI_subI, lt_t, lt_f, eq_f, lt_m1, m1_lt, eq_m1, m1_eq]
    exact hQ
  | succ q ih =>
    intro j hj
    have i1 := ih (j + 1) (by omega)
    have e := upd_ltF' (a := fun _ => nI 0) (b := τ) (x := nI 0) (j := j) rfl
    rw [s120_73]
    simp (disch := omega) only [s120_75, s120_77, s120_80, s120_81, s120_83, s120_84, s120_85, s120_88, c10, c100, c6, eq_self, bnd_l, bnd_r, Option.toList_some, Option.toList_none, List.cons_append, List.nil_append, Nat.add_zero, Nat.zero_add, ↓reduceIte, nI_add, nI_mul, nI_subI, lt_t, lt_f, eq_f, lt_m1, m1_lt, eq_m1, m1_eq, e]
    exact i1
theorem l_closed (h : INV σ N r n) (hl : LI σ N r δ κ τ) (hb : t.length + 100 ≤ 99999) : LOK X n t (exC X 120 [.ref 0, .ref 35, .ref 37] (WW σ (dA δ :: kA κ :: tA τ :: t))) := by
  obtain ⟨d0, d1, d1', d2, kk, tt⟩ := id hl
  have hS := INV_rkC (z := nI 0) h
  have hr6 := h.2.2.2.1.1
  have lS : LI (rkC (nI 0) σ N) N r δ κ τ := LI_congr hl rfl rfl rfl
  have i1 := p_ranked0 (X := X) (t := dA δ :: kA κ :: tA τ :: t) h.1.1.1 (hz_of h) (by omega : 0 < 10) (rk_uni (nI 0) (by omega))
  -- the first in the ranks, and its points
  obtain ⟨v3, v4, hv, front⟩ : ∃ v3 v4 : Int32, (v3 = -1 ∨ ∃ c, c < 10 ∧ v3 = nI c ∧ rkC (nI 0) σ N 34 c = nI 0 ∧ v4 = nI (sumV (σ 54) r c)) ∧ ∀ Q : Option rR, exM X 120 22 [some (.ref 0), some (.ref 35), some (.ref 37), some (.int v3), some (.int v4), none, none] [] (WW (rkC (nI 0) σ N) (dA δ :: kA κ :: tA τ :: t)) 0 0 = Q → exC X 120 [.ref 0, .ref 35, .ref 37] (WW σ (dA δ :: kA κ :: tA τ :: t)) = Q := by
    by_cases w : 0 < mP σ
    · obtain ⟨g1, g2, g3, g4⟩ := gP_at (N := N) w
      rw [g4] at i1
      have i2 := q_points (X := X) (t := dA δ :: kA κ :: tA τ :: t) h g1
      refine ⟨nI (gP σ N 0), nI (sumV (σ 54) r (gP σ N 0)), Or.inr ⟨_, g1, rfl, gP_pl w, rfl⟩, fun Q hQ => ?_⟩
      generalize gP σ N 0 = c at *
      rw [ent_120]
      simp (disch := omega) only [s120_0, s120_1, s120_2, s120_5, s120_6, s120_7, s120_8, s120_11, s120_12, s120_15, s120_16, s120_17, s120_20, c10, c100, c6, eq_self, bnd_l, bnd_r, Option.toList_some, Option.toList_none, List.cons_append, List.nil_append, Nat.add_zero, Nat.zero_add, ↓reduceIte, nI_add, nI_mul, nI_subI, lt_t, lt_f, eq_f, lt_m1, m1_lt, eq_m1, m1_eq, i1, i2]
      exact hQ
    · rw [gP_no w (by omega)] at i1
      refine ⟨-1, nI 0, Or.inl rfl, fun Q hQ => ?_⟩
      rw [ent_120]
      simp (disch := omega) only [s120_0, s120_1, s120_2, s120_5, s120_6, s120_7, s120_8, s120_11, s120_12, s120_15, s120_16, s120_17, s120_20, c10, c100, c6, eq_self, bnd_l, bnd_r, Option.toList_some, Option.toList_none, List.cons_append, List.nil_append, Nat.add_zero, Nat.zero_add, ↓reduceIte, nI_add, nI_mul, nI_subI, lt_t, lt_f, eq_f, lt_m1, m1_lt, eq_m1, m1_eq, i1]
      exact hQ
  by_cases hc : r = 6 ∨ σ 39 0 = -1
  · have i3 := n_closes (p_close1 (X := X) (t := dA δ :: kA κ :: tA τ :: t) hS hc)
    refine LOK_of (k := 1) (s := 6) (σ' := rkC (nI 0) σ N) (front _ ?_) (by omega) (by omega) hS lS
    by_cases h6 : r = 6
    · subst h6
      simp (disch := omega) only [s120_22, s120_23, s120_26, s120_28, s120_30, s120_32, s120_35, s120_36, s120_37, s120_38, s120_40, s120_43, s120_44, s120_45, s120_46, s120_49, s120_50, s120_53, s120_54z0, s120_54z1, c10, c100, c6, eq_self, bnd_l, bnd_r, Option.toList_some, Option.toList_none, List.cons_append, List.nil_append, Nat.add_zero, Nat.zero_add, ↓reduceIte, nI_add, nI_mul, nI_subI, lt_t, lt_f, eq_f, lt_m1, m1_lt, eq_m1, m1_eq, i3, d2]
    · have e1 := d1 (hc.resolve_left h6)
      simp (disch := omega) only [s120_22, s120_23, s120_26, s120_28, s120_30, s120_32, s120_35, s120_36, s120_37, s120_38, s120_40, s120_43, s120_44, s120_45, s120_46, s120_49, s120_50, s120_53, s120_54z0, s120_54z1, c10, c100, c6, eq_self, bnd_l, bnd_r, Option.toList_some, Option.toList_none, List.cons_append, List.nil_append, Nat.add_zero, Nat.zero_add, ↓reduceIte, nI_add, nI_mul, nI_subI, lt_t, lt_f, eq_f, lt_m1, m1_lt, eq_m1, m1_eq, i3, d2, e1]
  · have h6 : r ≠ 6 := fun z => hc (Or.inl z)
    have h0 : ¬ σ 39 0 = -1 := fun z => hc (Or.inr z)
    have hlen : (dA δ :: kA κ :: tA τ :: t).length = t.length + 3 := rfl
    obtain ⟨t1, ht1, hπ, e1, hp⟩ := p_close0 (X := X) (t := dA δ :: kA κ :: tA τ :: t) hS h6 h0 (by rw [hlen]; omega)
    have i3 := w_closes hp
    rw [hlen] at ht1 hπ e1 i3
    generalize hpi : swp 3 32 (35 + (t.length + 3)) = π at hπ e1 i3
    have p0 : π 0 = 0 := by rw [← hpi]; exact swp_o (by omega) (by omega)
    have p35 : π 35 = 35 := by rw [← hpi]; exact swp_o (by omega) (by omega)
    have p36 : π 36 = 36 := by rw [← hpi]; exact swp_o (by omega) (by omega)
    have p37 : π 37 = 37 := by rw [← hpi]; exact swp_o (by omega) (by omega)
    have pX : π 100000 = 100000 := by rw [← hpi]; exact swp_o (by omega) (by omega)
    obtain ⟨t2, rfl⟩ : ∃ t2, t1 = dA δ :: kA κ :: tA τ :: t2 := ⟨t.map (re π) ++ (WO (clC9 (rkC (nI 0) σ N) N r)).map (re π), e1⟩
    have ht2 : t2.length = t.length + 32 := by
      have ht1 : t2.length + 3 = t.length + 3 + 32 := ht1
      omega
    have hI : INV (clz (rkC (nI 0) σ N) N r) 0 (r + 1) (n + 1) := INV_close hS h6
    have ew : ∀ t, WW (u2 (nwC (clC9 (rkC (nI 0) σ N) N r)) 1 1 (nI (r + 1))) t = WW (clz (rkC (nI 0) σ N) N r) t := fun _ => rfl
    rw [ew] at i3
    have z54 : ∀ c, c < 10 → clz (rkC (nI 0) σ N) N r 54 (10 * r + c) = rkC (nI 0) σ N 34 c := fun c hc => by
      show (if 10 * r ≤ 10 * r + c ∧ 10 * r + c < 10 * r + 10 then rkC (nI 0) (rkC (nI 0) σ N) N 34 (10 * r + c - 10 * r) else σ 54 (10 * r + c)) = _
      rw [if_pos (by omega), show 10 * r + c - 10 * r = c by omega, rkC_idem]
    have y54 : ∀ k c, k < r → c < 10 → clz (rkC (nI 0) σ N) N r 54 (10 * k + c) = σ 54 (10 * k + c) := fun k c hk hc => by
      show (if 10 * r ≤ 10 * k + c ∧ 10 * k + c < 10 * r + 10 then rkC (nI 0) (rkC (nI 0) σ N) N 34 (10 * k + c - 10 * r) else σ 54 (10 * k + c)) = _
      rw [if_neg (by omega)]
    have z39 : clz (rkC (nI 0) σ N) N r 39 0 = -1 := rfl
    have z28 : ∀ c, clz (rkC (nI 0) σ N) N r 28 c = nI 0 := fun _ => rfl
    have z13 : ∀ c, clz (rkC (nI 0) σ N) N r 13 c = nI 0 := fun _ => rfl
    have z29 : ∀ c, clz (rkC (nI 0) σ N) N r 29 c = nI 0 := fun _ => rfl
    generalize clz (rkC (nI 0) σ N) N r = ρ at *
    have hin : ∀ c, c < 10 → ¬ inC (nI 0) ρ c := fun c hc z => by
      rcases z with y | y
      · exact n1_0 y.symm
      · exact y.1 ((hI.1.2.2.2.2.2 z39).1 c (by omega)).1
    have j1 := p_ranked0 (X := X) (t := dA (upd (upd (upd δ 2 (nI (r + 1))) 1 (nI 0)) 0 (nI 0)) :: kA κ :: tA (ltF 10 (fun _ => nI 0) τ) :: t2) hI.1.1.1 (hz_of hI) (by omega : 0 < 10) (rk_uni (nI 0) (by omega))
    rw [gP_no (σ := ρ) (N := 0) (p := 0) (by unfold mP; rw [cnF_none 10 hin]; omega) (by omega)] at j1
    have j2 := q_pen (X := X) (σ := ρ) (N := 0) (t := dA (upd (upd (upd δ 2 (nI (r + 1))) 1 (nI 0)) 0 (nI 0)) :: kA κ :: tA (ltF 10 (fun _ => nI 0) τ) :: t2) (by omega : 0 < 10)
    rw [z13, z29] at j2
    have j3 := q_tot (X := X) (σ := ρ) (N := 0) (t := dA (upd (upd (upd δ 2 (nI (r + 1))) 1 (nI 0)) 0 (nI 0)) :: kA κ :: tA (ltF 10 (fun _ => nI 0) τ) :: t2) hI (by omega : 9 < 10)
    have e9 : ttC ρ 0 9 = nI 0 := by
      show nI 0 + (ρ 13 9 + ρ 29 9) = nI 0
      rw [z13, z29]
      rfl
    rw [e9] at j3
    have nice : exM X 120 26 [some (.ref 0), some (.ref 35), some (.ref 37), some (.int v3), some (.int v4), none, none] [.int (nI (r + 1))] (WW ρ (dA δ :: kA κ :: tA τ :: t2)) 32 4030 = some (.inl (some (.int (nI 1))), WW (rkC (nI 0) ρ 0) (dA (upd (upd (upd δ 2 (nI (r + 1))) 1 (nI 0)) 0 (nI 0)) :: kA κ :: tA (ltF 10 (fun _ => nI 0) τ) :: t2), 32, 4030) := by
      have last : exM X 120 91 [some (.ref 0), some (.ref 35), some (.ref 37), some (.int v3), some (.int v4), some (.int (nI (r + 1))), some (.int (nI 10))] [] (WW ρ (dA (upd (upd (upd δ 2 (nI (r + 1))) 1 (nI 0)) 0 (nI 0)) :: kA κ :: tA (ltF 10 (fun _ => nI 0) τ) :: t2)) 32 4030 = some (.inl (some (.int (nI 1))), WW (rkC (nI 0) ρ 0) (dA (upd (upd (upd δ 2 (nI (r + 1))) 1 (nI 0)) 0 (nI 0)) :: kA κ :: tA (ltF 10 (fun _ => nI 0) τ) :: t2), 32, 4030) := by
        rcases hv with rfl | ⟨c, hc10, rfl, hpl, rfl⟩
        · simp (disch := omega) only [s120_91, s120_93, s120_94, s120_95, s120_96, s120_99, s120_100, s120_101, s120_104, s120_105, s120_108, s120_109, s120_110, s120_113, s120_114, s120_115, s120_116, s120_117, s120_120, s120_121, s120_122, s120_125, s120_127, s120_129, s120_130, s120_133, s120_134, s120_135, s120_136, s120_139, s120_142, s120_143, s120_145, s120_146, s120_149, s120_152, s120_153, s120_156, s120_157z0, s120_157z1, c10, c100, c6, eq_self, bnd_l, bnd_r, Option.toList_some, Option.toList_none, List.cons_append, List.nil_append, Nat.add_zero, Nat.zero_add, ↓reduceIte, nI_add, nI_mul, nI_subI, lt_t, lt_f, eq_f, lt_m1, m1_lt, eq_m1, m1_eq, j1, j2, j3, upd_eq, upd_ne]
        · by_cases w : 2 < r + 1
          · simp (disch := omega) only [s120_91, s120_93, s120_94, s120_95, s120_96, s120_99, s120_100, s120_101, s120_104, s120_105, s120_108, s120_109, s120_110, s120_113, s120_114, s120_115, s120_116, s120_117, s120_120, s120_121, s120_122, s120_125, s120_127, s120_129, s120_130, s120_133, s120_134, s120_135, s120_136, s120_139, s120_142, s120_143, s120_145, s120_146, s120_149, s120_152, s120_153, s120_156, s120_157z0, s120_157z1, c10, c100, c6, eq_self, bnd_l, bnd_r, Option.toList_some, Option.toList_none, List.cons_append, List.nil_append, Nat.add_zero, Nat.zero_add, ↓reduceIte, nI_add, nI_mul, nI_subI, lt_t, lt_f, eq_f, lt_m1, m1_lt, eq_m1, m1_eq, j1, j2, j3, upd_eq, upd_ne]
          · have j4 := q_points (X := X) (σ := ρ) (N := 0) (t := dA (upd (upd (upd δ 2 (nI (r + 1))) 1 (nI 0)) 0 (nI 0)) :: kA κ :: tA (ltF 10 (fun _ => nI 0) τ) :: t2) hI hc10
            have es : sumV (ρ 54) (r + 1) c = sumV (σ 54) r c + 25 := by
              have e : ∀ m, m ≤ r → smN (ρ 54) c m = smN (σ 54) c m := by
                intro m
                induction m with
                | zero => intro _; rfl
                | succ m ih =>
                  intro hm
                  unfold smN
                  rw [ih (by omega), y54 m c (by omega) hc10]
              unfold sumV
              rw [if_pos (by omega), if_pos (by omega)]
              show smN (ρ 54) c r + ptV (ρ 54 (10 * r + c)) = _
              rw [e r (Nat.le_refl _), z54 c hc10, hpl]
              rfl
            rw [es] at j4
            generalize sumV (σ 54) r c = v at *
            simp (disch := omega) only [s120_91, s120_93, s120_94, s120_95, s120_96, s120_99, s120_100, s120_101, s120_104, s120_105, s120_108, s120_109, s120_110, s120_113, s120_114, s120_115, s120_116, s120_117, s120_120, s120_121, s120_122, s120_125, s120_127, s120_129, s120_130, s120_133, s120_134, s120_135, s120_136, s120_139, s120_142, s120_143, s120_145, s120_146, s120_149, s120_152, s120_153, s120_156, s120_157z0, s120_157z1, c10, c100, c6, eq_self, bnd_l, bnd_r, Option.toList_some, Option.toList_none, List.cons_append, List.nil_append, Nat.add_zero, Nat.zero_add, ↓reduceIte, nI_add, nI_mul, nI_subI, lt_t, lt_f, eq_f, lt_m1, m1_lt, eq_m1, m1_eq, j1, j2, j3, j4, upd_eq, upd_ne]
      have loop := l_tyres (X := X) (τ := τ) (k := 32) (s := 4030) last 10 0 (by omega)
      rw [ltF_0] at loop
      simp (disch := omega) only [s120_26, s120_28, s120_30, s120_32, s120_35, s120_36, s120_37, s120_38, s120_40, s120_43, s120_44, s120_45, s120_46, s120_49, s120_50, s120_53, s120_54z0, s120_54z1, s120_55, s120_56, s120_57, s120_58, s120_59, s120_60, s120_61, s120_62, s120_63, s120_64, s120_65, s120_66, s120_67, s120_68, s120_69, s120_70, s120_71, c10, c100, c6, eq_self, bnd_l, bnd_r, Option.toList_some, Option.toList_none, List.cons_append, List.nil_append, Nat.add_zero, Nat.zero_add, ↓reduceIte, nI_add, nI_mul, nI_subI, lt_t, lt_f, eq_f, lt_m1, m1_lt, eq_m1, m1_eq, eq_m2, d2, upd_eq]
      exact loop
    have hle : 35 + (t.length + 3) + 32 ≤ (WW ρ (dA δ :: kA κ :: tA τ :: t2)).length := by
      rw [WW_len]
      show _ ≤ 35 + (t2.length + 3)
      omega
    have ren := ex_ren hπ hle nice
    have r1 : rl π [some (.ref 0), some (.ref 35), some (.ref 37), some (.int v3), some (.int v4), none, none] = [some (.ref 0), some (.ref 35), some (.ref 37), some (.int v3), some (.int v4), none, none] := by
      show [some (Value.ref (π 0)), some (Value.ref (π 35)), some (Value.ref (π 37)), some (.int v3), some (.int v4), none, none] = _
      rw [p0, p35, p37]
    rw [r1] at ren
    have ren : exM X 120 26 [some (.ref 0), some (.ref 35), some (.ref 37), some (.int v3), some (.int v4), none, none] [.int (nI (r + 1))] (rh π (WW ρ (dA δ :: kA κ :: tA τ :: t2))) 32 4030 = some (.inl (some (.int (nI 1))), rh π (WW (rkC (nI 0) ρ 0) (dA (upd (upd (upd δ 2 (nI (r + 1))) 1 (nI 0)) 0 (nI 0)) :: kA κ :: tA (ltF 10 (fun _ => nI 0) τ) :: t2)), 32, 4030) := ren
    refine ⟨rkC (nI 0) ρ 0, 0, r + 1, upd (upd (upd δ 2 (nI (r + 1))) 1 (nI 0)) 0 (nI 0), κ, ltF 10 (fun _ => nI 0) τ, t2, _, 32, 4030, front _ ?_, by omega, by omega, INV_rkC hI, ⟨upd_eq, fun _ => ?_, fun z => absurd z39 z, ?_, fun i hi => by omega, fun c hc => ?_⟩, by omega, TRX_ren hπ (by rw [WW_len] at hle ⊢; exact hle) p0 p35 p36 p37 pX⟩
    · refine (s120_22).trans ?_
      refine (s120_23).trans ?_
      refine (bnd_of i3).trans ?_
      exact ren
    · rw [upd_ne (by omega), upd_eq]
    · rw [upd_ne (by omega), upd_ne (by omega), upd_eq]
    · rw [ltF_lt hc]
      exact (z28 c).symm
end CLD
