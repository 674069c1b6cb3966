/-! THE CLASS: the rally closed -/
/-- the world in three: the card, the season; the rally; what lies behind -/
def WAp (σ : Nat → Nat → Int32) (p : Nat) : rH := [.inr (8, [.ref 1, .ref p]), (.inr (5, [.ref 2, .int (σ 1 1)])), (.inl (0, 60, .inl (σ 2)))]
def WO (σ : Nat → Nat → Int32) : rH := [(.inr (1, [.ref 4, .ref 5, .ref 6, .int (σ 3 3)])), (.inl (0, 20, .inl (σ 4))), (.inl (0, 20, .inl (σ 5))), (.inl (0, 20, .inl (σ 6))), (.inr (2, [.ref 8, .ref 9])), (.inl (0, 200, .inl (σ 8))), (.inl (0, 20, .inl (σ 9))), (.inr (0, [.ref 3, .ref 7, .ref 11, .ref 12, .ref 13, .ref 14, .ref 15, .ref 16])), (.inl (0, 200, .inl (σ 11))), (.inl (0, 200, .inl (σ 12))), (.inl (0, 10, .inl (σ 13))), (.inl (0, 10, .inl (σ 14))), (.inl (1, 10, .inl (σ 15))), (.inl (1, 10, .inl (σ 16))), (.inr (6, [.ref 3, .ref 7, .ref 10, .ref 18, .ref 19, .ref 20, .ref 21, .ref 22, .ref 23, .ref 24])), (.inl (0, 200, .inl (σ 18))), (.inl (0, 200, .inl (σ 19))), (.inl (0, 200, .inl (σ 20))), (.inl (1, 200, .inl (σ 21))), (.inl (0, 200, .inl (σ 22))), (.inl (0, 200, .inl (σ 23))), (.inl (0, 20, .inl (σ 24))), (.inr (7, [.ref 26, .ref 27, .ref 28, .ref 29])), (.inl (1, 1000, .inl (σ 26))), (.inl (1, 1000, .inl (σ 27))), (.inl (0, 10, .inl (σ 28))), (.inl (0, 10, .inl (σ 29))), (.inr (3, [.ref 3, .ref 7, .ref 10, .ref 17, .ref 25, .ref 31])), (.inr (4, [.ref 10, .ref 17, .ref 25, .ref 32, .ref 33, .ref 34])), (.inl (0, 10, .inl (σ 32))), (.inl (1, 10, .inl (σ 33))), (.inl (0, 10, .inl (σ 34)))]
/-- a new rally -/
def nwC (σ : Nat → Nat → Int32) : Nat → Nat → Int32 := fun p =>
  if p = 11 ∨ p = 18 ∨ p = 19 ∨ p = 20 ∨ p = 22 ∨ p = 23 then ltF 200 (fun _ => -1) fun _ => 0
  else if p = 9 ∨ p = 24 then ltF 20 (fun _ => -1) fun _ => 0
  else if 3 ≤ p ∧ p < 35 then fun _ => 0 else σ p
section CLO
variable {X : rX} {σ σ' : Nat → Nat → Int32} {t : rH} {N r n : Nat}
theorem WW_cut {t : rH} : WW σ t = WAp σ 30 ++ WO σ ++ t := rfl
theorem WW_len {t : rH} : (WW σ t).length = 35 + t.length := by
  rw [WW_cut, List.length_append, List.length_append]
  show 3 + 32 + t.length = _
  omega
/-- the heap with the new rally, renamed -/
theorem new_rally {t : rH} (hb : 35 + t.length + 40 ≤ 99999) : ∃ t1, t1.length = t.length + 32 ∧ PI (swp 3 32 (35 + t.length)) (35 + t.length + 32) ∧
    (WW σ t ++ NR (35 + t.length)).set 0 (.inr (8, [.ref 1, .ref (35 + t.length + 27)])) = rh (swp 3 32 (35 + t.length)) (WW (nwC σ) t1) ∧ t1 = t.map (re (swp 3 32 (35 + t.length))) ++ (WO σ).map (re (swp 3 32 (35 + t.length))) := by
  have hπ := swp_PI (a := 3) (n := 32) (b := 35 + t.length) (by omega) (by omega)
  refine ⟨_, ?_, hπ, ?_, rfl⟩
  · rw [List.length_append, List.length_map, List.length_map]
    rfl
  · generalize hB : 35 + t.length = b at hb hπ ⊢
    have hHA : (WW σ t ++ NR b).set 0 (.inr (8, [.ref 1, .ref (b + 27)])) = WAp σ (b + 27) ++ WO σ ++ t ++ NR b := rfl
    have hlA : (WAp σ (b + 27)).length = 3 := rfl
    have hlO : (WO σ).length = 32 := rfl
    have hs := rh_swp (A := WAp σ (b + 27)) (O := WO σ) (C := t) (N := NR b) rfl (by rw [hlA, hlO, NR_len]; omega)
    rw [hlA, hlO, NR_len, show 3 + 32 + t.length = b by omega] at hs
    have hlen : b + 32 ≤ (WAp σ (b + 27) ++ WO σ ++ t ++ NR b).length := by
      rw [List.length_append, List.length_append, List.length_append, hlA, hlO, NR_len]
      omega
    have pb : ∀ j, j < 32 → swp 3 32 b (b + j) = 3 + j := fun j hj => swp_b (by omega) hj
    have po : ∀ p, 35 ≤ p → p < b → swp 3 32 b p = p := fun p h1 h2 => swp_o (by omega) (by omega)
    have p1 : swp 3 32 b 1 = 1 := swp_o (by omega) (by omega)
    have p2 : swp 3 32 b 2 = 2 := swp_o (by omega) (by omega)
    rw [hHA, ← rh_rh hπ hlen, hs]
    congr 1
    generalize swp 3 32 b = π at pb po p1 p2
    have eA : (WAp σ (b + 27)).map (re π) = WAp (nwC σ) 30 := by
      simp only [WAp, List.map_cons, List.map_nil, re, rv]
      rw [p1, p2, pb 27 (by omega)]
      rfl
    have eN : (NR b).map (re π) = WO (nwC σ) := by
      simp (disch := omega) only [NR, List.map_cons, List.map_nil, re, rv, pb]
      rfl
    rw [eA, eN, List.append_assoc]
    rfl
/-! the season -/
/-- the places noted, car by car -/
def ntJ (f x : Nat → Int32) (r : Nat) : Nat → Nat → Int32
  | 0 => f
  | m + 1 => ntF (ntJ f x r m) m r (vl (x m))
theorem qF_congr {v : Nat} {g g' : Nat → Nat} : ∀ m, (∀ k, k < m → g' k = g k) → qF v g' m = qF v g m
  | 0, _ => rfl
  | m + 1, h => by
    unfold qF
    rw [h m (by omega), qF_congr m fun k hk => h k (by omega)]
theorem nt_val {f : Nat → Int32} {c r v q : Nat} (hq : qF v (fun n => cnt (f (6 * c + n))) r = q) (i : Nat) : ntF f c r v (6 * c + i) = if i = q then nI v else if q < i ∧ i ≤ r then f (6 * c + (i - 1)) else f (6 * c + i) := by
  unfold ntF
  rw [hq]
  by_cases w : i = q
  · rw [if_pos w, w, upd_eq]
  · have ne : 6 * c + i ≠ 6 * c + q := fun z => w (Nat.add_left_cancel z)
    rw [if_neg w, upd_ne ne]
    unfold shF
    by_cases w2 : q < i ∧ i ≤ r
    · have e : 6 * c + i - 1 = 6 * c + (i - 1) := by omega
      have g : 6 * c + q < 6 * c + i ∧ 6 * c + i ≤ 6 * c + r := by omega
      rw [if_pos w2, if_pos g, e]
    · have g : ¬ (6 * c + q < 6 * c + i ∧ 6 * c + i ≤ 6 * c + r) := by omega
      rw [if_neg w2, if_neg g]
theorem nt_row {f f' : Nat → Int32} {c r v : Nat} (hr : r < 6) (h : ∀ i, i < 6 → f' (6 * c + i) = f (6 * c + i)) (i : Nat) (hi : i < 6) : ntF f' c r v (6 * c + i) = ntF f c r v (6 * c + i) := by
  obtain ⟨q, hq⟩ : ∃ q, qF v (fun n => cnt (f (6 * c + n))) r = q := ⟨_, rfl⟩
  have hq' : qF v (fun n => cnt (f' (6 * c + n))) r = q := by
    rw [← hq]
    refine qF_congr r fun k hk => ?_
    show cnt (f' (6 * c + k)) = cnt (f (6 * c + k))
    rw [h k (by omega)]
  rw [nt_val hq' i, nt_val hq i, h i hi, h (i - 1) (by omega)]
theorem nt_out {f : Nat → Int32} {c r v j : Nat} (hr : r < 6) (h : ¬ (6 * c ≤ j ∧ j < 6 * c + 6)) : ntF f c r v j = f j := by
  have hq := qF_le (v := v) (f := fun n => cnt (f (6 * c + n))) r
  unfold ntF shF
  rw [upd_ne (by omega), if_neg (by omega)]
theorem ntJ_row {f x : Nat → Int32} {r : Nat} (hr : r < 6) {c : Nat} : ∀ m i, i < 6 → ntJ f x r m (6 * c + i) = if c < m then ntF f c r (vl (x c)) (6 * c + i) else f (6 * c + i)
  | 0, i, _ => rfl
  | m + 1, i, hi => by
    unfold ntJ
    by_cases w : m = c
    · subst w
      rw [if_pos (by omega)]
      exact nt_row hr (fun j hj => by rw [ntJ_row hr m j hj, if_neg (by omega)]) i hi
    · rw [nt_out hr (by omega), ntJ_row hr m i hi]
      by_cases w2 : c < m
      · rw [if_pos w2, if_pos (by omega)]
      · rw [if_neg w2, if_neg (by omega)]
theorem l_notes (hr : r < 6) (h1 : σ 1 1 = nI r) (hx : ∀ c, c < 10 → okP (σ 34 c)) (hf : ∀ c, c < 10 → ∀ m, m < r → σ 2 (6 * c + m) = nI (fC σ c m) ∧ fC σ c m ≤ 10) {Q : Option rR} (hQ : exM X 96 74 [some (.ref 0), some (.int (nI 10))] [] (WW (sA σ 2 (ntJ (σ 2) (σ 34) r 10)) t) 0 0 = Q) :
    ∀ m j, j + m = 10 → exM X 96 43 [some (.ref 0), some (.int (nI j))] [] (WW (sA σ 2 (ntJ (σ 2) (σ 34) r j)) t) 0 0 = Q := by
  intro m
  induction m with
  | zero =>
    intro j hj
    obtain rfl : j = 10 := by omega
    simp (disch := omega) only [s96_43, s96_44, s96_46, s96_49, s96_50, s96_53, s96_54, s96_55, s96_58, s96_61, s96_62, s96_65, s96_68, s96_71, c10, c100, c6, eq_self, bnd_l, bnd_r, Option.toList_some, Option.toList_none, List.cons_append, List.nil_append, Nat.add_zero, Nat.zero_add, ↓reduceIte, nI_add, nI_mul, nI_subI, lt_t, lt_f, eq_f, lt_m1, m1_lt, eq_m1, m1_eq]
    exact hQ
  | succ m ih =>
    intro j hj
    have i1 := k_placeOf4 (X := X) (σ := sA σ 2 (ntJ (σ 2) (σ 34) r j)) (t := t) (c := j) (by omega)
    have e34 : sA σ 2 (ntJ (σ 2) (σ 34) r j) 34 j = σ 34 j := rfl
    rw [e34] at i1
    have i2 := k_note (X := X) (σ := sA σ 2 (ntJ (σ 2) (σ 34) r j)) (t := t) (c := j) (r := r) (x := σ 34 j) (by omega) hr h1 (hx j (by omega)) (fun k hk => by
      have e : ntJ (σ 2) (σ 34) r j (6 * j + k) = σ 2 (6 * j + k) := by rw [ntJ_row hr j k (by omega), if_neg (by omega)]
      show ntJ (σ 2) (σ 34) r j (6 * j + k) = nI (cnt (ntJ (σ 2) (σ 34) r j (6 * j + k))) ∧ cnt (ntJ (σ 2) (σ 34) r j (6 * j + k)) ≤ 10
      rw [e]
      exact hf j (by omega) k hk)
    rw [sA_sA, sA_eq] at i2
    have i3 := ih (j + 1) (by omega)
    rw [show ntJ (σ 2) (σ 34) r (j + 1) = ntF (ntJ (σ 2) (σ 34) r j) j r (vl (σ 34 j)) from rfl] at i3
    rw [s96_43]
    simp (disch := omega) only [s96_44, s96_46, s96_49, s96_50, s96_53, s96_54, s96_55, s96_58, s96_61, s96_62, s96_65, s96_68, s96_71, c10, c100, c6, eq_self, bnd_l, bnd_r, Option.toList_some, Option.toList_none, List.cons_append, List.nil_append, Nat.add_zero, Nat.zero_add, ↓reduceIte, nI_add, nI_mul, nI_subI, lt_t, lt_f, eq_f, lt_m1, m1_lt, eq_m1, m1_eq, i1, i2]
    exact i3
theorem k_end : exC X 54 [.ref 1] (WW σ t) = ans (σ 1 1 + nI 1) (WW (u2 σ 1 1 (σ 1 1 + nI 1)) t) := by
  rw [ent_54]
  have e : u2 σ 1 1 (σ 1 1 + nI 1) 1 1 = σ 1 1 + nI 1 := by
    show upd (σ 1) 1 _ 1 = _
    exact upd_eq
  simp (disch := omega) only [s54_0, s54_1, s54_2, s54_5, s54_6, s54_7, s54_10, s54_11, s54_14, c10, c100, c6, eq_self, bnd_l, bnd_r, Option.toList_some, Option.toList_none, List.cons_append, List.nil_append, Nat.add_zero, Nat.zero_add, ↓reduceIte, nI_add, nI_mul, nI_subI, lt_t, lt_f, eq_f, lt_m1, m1_lt, eq_m1, m1_eq, e]
/-- the class with the rally closed -/
noncomputable def clC9 (σ : Nat → Nat → Int32) (N r : Nat) : Nat → Nat → Int32 := sA (rkC (nI 0) σ N) 2 (ntJ (σ 2) (rkC (nI 0) σ N 34) r 10)
theorem p_close1 (h : INV σ N r n) (hn : r = 6 ∨ σ 39 0 = -1) : exC X 96 [.ref 0] (WW σ t) = exT 0 (WW σ t) := by
  have i1 := k_isFull (X := X) (t := t) h.2.2.2.1.1 h.2.2.2.1.2.1
  have i2 := k_isBegun (X := X) (t := t) h.1.1.2.1.2.2.1
  rw [ent_96]
  by_cases h6 : r = 6
  · have i3 := i1.1 h6
    simp (disch := omega) only [s96_0, s96_1, s96_4, s96_7, s96_10, s96_11, s96_14, s96_17, s96_20, c10, c100, c6, eq_self, bnd_l, bnd_r, Option.toList_some, Option.toList_none, List.cons_append, List.nil_append, Nat.add_zero, Nat.zero_add, ↓reduceIte, nI_add, nI_mul, nI_subI, lt_t, lt_f, eq_f, lt_m1, m1_lt, eq_m1, m1_eq, i3]
  · have i3 := i1.2 h6
    have i4 := i2.1 (hn.resolve_left h6)
    simp (disch := omega) only [s96_0, s96_1, s96_4, s96_7, s96_10, s96_11, s96_14, s96_17, s96_20, c10, c100, c6, eq_self, bnd_l, bnd_r, Option.toList_some, Option.toList_none, List.cons_append, List.nil_append, Nat.add_zero, Nat.zero_add, ↓reduceIte, nI_add, nI_mul, nI_subI, lt_t, lt_f, eq_f, lt_m1, m1_lt, eq_m1, m1_eq, i3, i4]
theorem okP_rk (h : INV σ N r n) {c : Nat} (hc : c < 10) : okP (rkC (nI 0) σ N 34 c) := by
  rw [rkC_plV hc]
  by_cases q : inC (nI 0) σ c
  · rw [plV_t q]
    have h1 := rnk_m (A := ahdC (rk1 (nI 0) σ N 10 32) (σ 23) N) hc q
    have h2 := cnF_le (inC (nI 0) σ) 10
    exact Or.inr ⟨_, Nat.lt_of_lt_of_le h1 h2, rfl⟩
  · rw [plV_f q]
    exact Or.inl rfl
theorem p_close0 (h : INV σ N r n) (hr : r ≠ 6) (hn : ¬ σ 39 0 = -1) (hb : 35 + t.length + 40 ≤ 99999) : ∃ t1, t1.length = t.length + 32 ∧ PI (swp 3 32 (35 + t.length)) (35 + t.length + 32) ∧ t1 = t.map (re (swp 3 32 (35 + t.length))) ++ (WO (clC9 σ N r)).map (re (swp 3 32 (35 + t.length))) ∧
    exC X 96 [.ref 0] (WW σ t) = some (.inl (some (.int (nI (r + 1)))), rh (swp 3 32 (35 + t.length)) (WW (u2 (nwC (clC9 σ N r)) 1 1 (nI (r + 1))) t1), 32, 4030) := by
  obtain ⟨hr6, hr1, -, hres⟩ := h.2.2.2.1
  have i1 := (k_isFull (X := X) (t := t) hr6 hr1).2 hr
  have i2 := (k_isBegun (X := X) (t := t) h.1.1.2.1.2.2.1).2 hn
  have i3 := k_reckon4 (X := X) (t := t) (z := nI 0) (Or.inl rfl) h.1.1.1 (hz_of h)
  obtain ⟨t1, ht1, hπ, hHA, e1⟩ := new_rally (σ := clC9 σ N r) (t := t) hb
  refine ⟨t1, ht1, hπ, e1, ?_⟩
  have hlt : 35 + t.length + 32 ≤ (WW (nwC (clC9 σ N r)) t1).length := by rw [WW_len, ht1]; omega
  have p0 : swp 3 32 (35 + t.length) 0 = 0 := swp_o (by omega) (by omega)
  -- the end of it, on the new world
  have fin : exM X 96 81 [some (.ref 0), some (.int (nI 10))] [] (WW (nwC (clC9 σ N r)) t1) 32 4030 = some (.inl (some (.int (nI (r + 1)))), WW (u2 (nwC (clC9 σ N r)) 1 1 (nI (r + 1))) t1, 32, 4030) := by
    have i4 := k_end (X := X) (σ := nwC (clC9 σ N r)) (t := t1)
    have e2 : nwC (clC9 σ N r) 1 1 + nI 1 = nI (r + 1) := by
      show σ 1 1 + nI 1 = _
      rw [hr1, nI_add]
    rw [e2] at i4
    simp (disch := omega) only [s96_81, s96_82, s96_85, s96_88, c10, c100, c6, eq_self, bnd_l, bnd_r, Option.toList_some, Option.toList_none, List.cons_append, List.nil_append, Nat.add_zero, Nat.zero_add, ↓reduceIte, nI_add, nI_mul, nI_subI, lt_t, lt_f, eq_f, lt_m1, m1_lt, eq_m1, m1_eq, i4]
  have fin2 := ex_ren hπ hlt fin
  rw [← hHA] at fin2
  have e3 : rl (swp 3 32 (35 + t.length)) [some (.ref 0), some (.int (nI 10))] = [some (.ref 0), some (.int (nI 10))] := by
    show [some (Value.ref (swp 3 32 (35 + t.length) 0)), some (.int (nI 10))] = _
    rw [p0]
  rw [e3] at fin2
  have mid : exM X 96 74 [some (.ref 0), some (.int (nI 10))] [] (WW (clC9 σ N r) t) 0 0 = some (.inl (some (.int (nI (r + 1)))), rh (swp 3 32 (35 + t.length)) (WW (u2 (nwC (clC9 σ N r)) 1 1 (nI (r + 1))) t1), 32, 4030) := by
    refine (s96_74).trans ?_
    refine (s96_75).trans ?_
    refine (bnd_of (k_begin (h0 := WW (clC9 σ N r) t) (by rw [WW_len]; exact hb))).trans ?_
    rw [WW_len]
    refine (s96_78 (p := 0) (fs := [.ref 1, .ref 30]) (v := .ref (35 + t.length + 27)) rfl (Nat.le_of_ble_eq_true rfl) ⟨rfl, rfl⟩).trans ?_
    exact fin2
  have loop := l_notes (X := X) (σ := rkC (nI 0) σ N) (t := t) (r := r) (by omega) hr1 (fun c hc => okP_rk h hc) (fun c hc m hm => by
    obtain ⟨⟨-, w1, -⟩, w2⟩ := hres c hc
    exact ⟨w2 m hm, w1 m hm⟩) mid 10 0 (by omega)
  have e4 : sA (rkC (nI 0) σ N) 2 (ntJ (rkC (nI 0) σ N 2) (rkC (nI 0) σ N 34) r 0) = rkC (nI 0) σ N := sA_self
  rw [e4] at loop
  rw [ent_96]
  simp (disch := omega) only [s96_0, s96_1, s96_4, s96_7, s96_10, s96_11, s96_14, s96_17, s96_20, s96_30, s96_31, s96_34, s96_37, s96_38, s96_41, s96_42, c10, c100, c6, eq_self, bnd_l, bnd_r, Option.toList_some, Option.toList_none, List.cons_append, List.nil_append, Nat.add_zero, Nat.zero_add, ↓reduceIte, nI_add, nI_mul, nI_subI, lt_t, lt_f, eq_f, lt_m1, m1_lt, eq_m1, m1_eq, i1, i2, i3]
  exact loop
end CLO
