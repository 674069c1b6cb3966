/-! THE LAW: a rally closed, the loop -/
section LOP
variable {X : rX} {σ : Nat → Nat → Int32} {τ : Nat → Int64} {t : rH} {N r n i : Nat}
theorem FIN_mono {q : Option rR} {K S K' S' : Nat} (h : FIN q K S) (h1 : K ≤ K') (h2 : S ≤ S') : FIN q K' S' := by
  obtain ⟨a, k, s, e, b, c⟩ := h
  exact ⟨a, k, s, e, by omega, by omega⟩
theorem FIN_ren {π : Nat → Nat} {L M pc K S k s : Nat} {ls : rL} {st : List Value} {h : rH} (hπ : PI π L) (hl : L ≤ h.length) (hF : FIN (exM X M pc ls st h k s) K S) : FIN (exM X M pc (rl π ls) (st.map (rv π)) (rh π h) k s) K S := by
  obtain ⟨a, k', s', e, b, c⟩ := hF
  exact ⟨_, k', s', ex_ren hπ hl e, b, c⟩
theorem rvo_rvo {π : Nat → Nat} {L : Nat} (hπ : PI π L) (o : Option Value) : (o.map (rv π)).map (rv π) = o := by
  cases o with
  | none => rfl
  | some v => cases v <;> first | rfl | exact congrArg (fun z => some (Value.ref z)) (hπ.2.2.2 _)
theorem w_close1 (i1 : exC X 96 [.ref 0] (WW σ (outc τ :: t)) = exT 0 (WW σ (outc τ :: t))) : exC X 172 [.ref 0, .ref 57] (WW σ (outc τ :: t)) = some (.inl (some (.int (nI 1))), WW σ (outc τ :: t), 1, 6) := by
  rw [ent_172]
  simp (disch := omega) only [s172_0, s172_1, s172_2, s172_3, t172_0, s172_6, s172_7, s172_8, s172_11, s172_12, s172_13, s172_14, s172_15, c10, c100, c6, eq_self, bnd_l, bnd_r, Option.toList_some, Option.toList_none, List.cons_append, List.nil_append, Nat.add_zero, Nat.zero_add, ↓reduceIte, nI_add, nI_mul, nI_subI, lt_t, lt_f, eq_f, lt_m1, m1_lt, eq_m1, m1_eq, i1]
theorem w_close0 {π : Nat → Nat} {L : Nat} {v : Int32} {σ1 : Nat → Nat → Int32} {t1 : rH} (hπ : PI π L) (hl : L ≤ 58 + t1.length) (p0 : π 0 = 0) (p57 : π 57 = 57) (i1 : exC X 96 [.ref 0] (WW σ (outc τ :: t)) = some (.inl (some (.int v)), rh π (WW σ1 (outc τ :: t1)), 32, 4030)) :
    exC X 172 [.ref 0, .ref 57] (WW σ (outc τ :: t)) = some (.inl (some (.int (nI 0))), rh π (WW σ1 (outc (vp_updL τ 0 v.toInt64) :: t1)), 32, 4030) := by
  have nice : exM X 172 6 [some (.ref 0), some (.ref 57), none] [.int v, .int (nI 0), .ref 57] (WW σ1 (outc τ :: t1)) 32 4030 = some (.inl (some (.int (nI 0))), WW σ1 (outc (vp_updL τ 0 v.toInt64) :: t1), 32, 4030) := by
    simp (disch := omega) only [t172_0, s172_6, s172_7, s172_8, s172_11, s172_12, s172_13, s172_14, s172_15, c10, c100, c6, eq_self, bnd_l, bnd_r, Option.toList_some, Option.toList_none, List.cons_append, List.nil_append, Nat.add_zero, Nat.zero_add, ↓reduceIte, nI_add, nI_mul, nI_subI, lt_t, lt_f, eq_f, lt_m1, m1_lt, eq_m1, m1_eq]
  have ren := ex_ren hπ (by rw [WW_len]; show L ≤ 57 + (t1.length + 1); omega) nice
  have e1 : rl π [some (.ref 0), some (.ref 57), none] = [some (.ref 0), some (.ref 57), none] := by
    show [some (Value.ref (π 0)), some (Value.ref (π 57)), none] = _
    rw [p0, p57]
  have e2 : List.map (rv π) [.int v, .int (nI 0), .ref 57] = [.int v, .int (nI 0), .ref 57] := by
    show [Value.int v, Value.int (nI 0), Value.ref (π 57)] = _
    rw [p57]
  rw [e1, e2] at ren
  rw [ent_172]
  refine (s172_0).trans ?_
  refine (s172_1).trans ?_
  refine (s172_2).trans ?_
  refine (s172_3).trans ?_
  refine (bnd_of i1).trans ?_
  exact ren
theorem b_close (h : INV σ N r n) (hn : n ≤ 512) (hi : i + 5 ≤ X.1) (hX : X.1 < 2 ^ 31) (hb : 58 + t.length + 40 ≤ 99999) : NXT X i σ τ t n 1272 := by
  have hlen : (outc τ :: t).length = t.length + 1 := rfl
  rcases a_close (X := X) (t := outc τ :: t) h hn (by rw [hlen]; omega) with ⟨a1, i2⟩ | ⟨v, σ1, σ2, t1, ht1, hπ, ⟨o, ho⟩, a1, a2, e3, hI⟩
  · have i1 := w_close1 a1
    have i3 := q_thrown (X := X) (σ := (u2 σ 35 0 (nI 1))) (t := outc τ :: t)
    rw [show (u2 σ 35 0 (nI 1)) 35 0 = nI 1 from rfl] at i3
    refine ⟨_, τ, t, N, r, 1, 6, by omega, by omega, INV_mono (INV_thr (v := nI 1) h) (Nat.le_succ n), by omega, fun o5 o6 k s => ⟨some (.int (nI 1)), some (.int (nI 0)), fun K S hF => ?_⟩⟩
    simp (disch := omega) only [s175_1272, s175_1273, s175_1274, s175_1277, s175_1279, s175_1280, s175_1283, s175_1285, s175_1286, s175_1289, s175_1291, s175_1294, s175_1295z0, s175_1295z1, s175_1296, s175_1298, s175_1301, s175_1302, s175_1303, s175_1304, s175_1306, s175_1307, s175_1308, s175_1311, s175_1312z0, s175_1312z1, s175_1313, c10, c100, c6, eq_self, bnd_l, bnd_r, Option.toList_some, Option.toList_none, List.cons_append, List.nil_append, Nat.add_zero, Nat.zero_add, ↓reduceIte, nI_add, nI_mul, nI_subI, lt_t, lt_f, eq_f, lt_m1, m1_lt, eq_m1, m1_eq, i1, i2, i3]
    exact hF
  · rw [hlen] at hπ ho a1 ht1
    generalize hp : swp 3 32 (57 + (t.length + 1)) = π at hπ ho a1
    have p0 : π 0 = 0 := by rw [← hp]; exact swp_o (by omega) (by omega)
    have p35 : π 35 = 35 := by rw [← hp]; exact swp_o (by omega) (by omega)
    have p57 : π 57 = 57 := by rw [← hp]; exact swp_o (by omega) (by omega)
    have pX : π 100000 = 100000 := by rw [← hp]; exact swp_o (by omega) (by omega)
    obtain ⟨t2, rfl⟩ : ∃ t2, t1 = outc τ :: t2 := ⟨t.map (re π) ++ o, ho⟩
    have ht2 : t2.length = t.length + 32 := by
      have ht1 : t2.length + 1 = t.length + 1 + 32 := ht1
      omega
    have hl : 57 + (t.length + 1) + 32 ≤ 58 + t2.length := by omega
    have i1 := w_close0 (X := X) hπ hl p0 p57 a1
    have i2 := a2 (outc (vp_updL τ 0 v.toInt64) :: t2)
    have i3 := q_thrown (X := X) (σ := σ2) (t := outc (vp_updL τ 0 v.toInt64) :: t2)
    rw [e3] at i3
    have e4 : vp_updL τ 0 v.toInt64 0 = v.toInt64 := if_pos rfl
    have e6 : lg_cmp (vp_updL τ 0 v.toInt64 0) v.toInt64 = nI 0 := by rw [e4]; exact lcmp_self
    refine ⟨σ2, vp_updL τ 0 v.toInt64, t2, 0, r + 1, 32, 4030, by omega, by omega, hI, by omega, fun o5 o6 k s => ⟨some (.int (nI 0)), some (.int v), fun K S hF => ?_⟩⟩
    have nice : FIN (exM X 175 1277 [some (.ref 100000), some (.ref 0), some (.ref 35), some (.ref 57), some (.int (nI i)), o5.map (rv π), o6.map (rv π)] [.int (nI 0)] (WW σ1 (outc (vp_updL τ 0 v.toInt64) :: t2)) (k + 32) (s + 4030)) K S := by
      simp (disch := omega) only [s175_1277, s175_1279, s175_1280, s175_1283, s175_1285, s175_1286, s175_1289, s175_1291, s175_1294, s175_1295z0, s175_1295z1, s175_1296, s175_1298, s175_1301, s175_1302, s175_1303, s175_1304, s175_1306, s175_1307, s175_1308, s175_1311, s175_1312z0, s175_1312z1, s175_1313, c10, c100, c6, eq_self, bnd_l, bnd_r, Option.toList_some, Option.toList_none, List.cons_append, List.nil_append, Nat.add_zero, Nat.zero_add, ↓reduceIte, nI_add, nI_mul, nI_subI, lt_t, lt_f, eq_f, lt_m1, m1_lt, eq_m1, m1_eq, i2, i3, e6]
      exact hF
    have ren := FIN_ren hπ (by rw [WW_len]; show _ ≤ 57 + (t2.length + 1); omega) nice
    have e1 : rl π [some (.ref 100000), some (.ref 0), some (.ref 35), some (.ref 57), some (.int (nI i)), o5.map (rv π), o6.map (rv π)] = [some (.ref 100000), some (.ref 0), some (.ref 35), some (.ref 57), some (.int (nI i)), o5, o6] := by
      show [some (Value.ref (π 100000)), some (Value.ref (π 0)), some (Value.ref (π 35)), some (Value.ref (π 57)), some (.int (nI i)), (o5.map (rv π)).map (rv π), (o6.map (rv π)).map (rv π)] = _
      rw [pX, p0, p35, p57, rvo_rvo hπ, rvo_rvo hπ]
    rw [e1] at ren
    have ren : FIN (exM X 175 1277 [some (.ref 100000), some (.ref 0), some (.ref 35), some (.ref 57), some (.int (nI i)), o5, o6] [.int (nI 0)] (rh π (WW σ1 (outc (vp_updL τ 0 v.toInt64) :: t2))) (k + 32) (s + 4030)) K S := ren
    simp (disch := omega) only [s175_1272, s175_1273, s175_1274, c10, c100, c6, eq_self, bnd_l, bnd_r, Option.toList_some, Option.toList_none, List.cons_append, List.nil_append, Nat.add_zero, Nat.zero_add, ↓reduceIte, nI_add, nI_mul, nI_subI, lt_t, lt_f, eq_f, lt_m1, m1_lt, eq_m1, m1_eq, i1]
    exact ren
/-! the loop -/
theorem head_c {a : Nat} (ha : a ≤ 2560) (hi : i ≤ 2560) : (nI a - nI 5 < nI i) = (a < i + 5) := by
  rw [Int32.lt_iff_toInt_lt, sub_toInt (by omega) (by omega), nI_toInt (by omega)]
  apply propext
  omega
theorem go_blk {pc K S k s : Nat} {o5 o6 : Option Value} (B : NXT X i σ τ t n pc) (hs : exM X 175 23 [some (.ref 100000), some (.ref 0), some (.ref 35), some (.ref 57), some (.int (nI i)), o5, o6] [] (WW σ (outc τ :: t)) k s = exM X 175 pc [some (.ref 100000), some (.ref 0), some (.ref 35), some (.ref 57), some (.int (nI i)), o5, o6] [] (WW σ (outc τ :: t)) k s)
    (ih : ∀ (σ : Nat → Nat → Int32) (τ : Nat → Int64) (t2 : rH) (N r k2 s2 : Nat) (o5 o6 : Option Value), INV σ N r (n + 1) → t2.length ≤ t.length + 32 → k2 ≤ k + 33 → s2 ≤ s + 4036 → FIN (exM X 175 23 [some (.ref 100000), some (.ref 0), some (.ref 35), some (.ref 57), some (.int (nI (i + 5))), o5, o6] [] (WW σ (outc τ :: t2)) k2 s2) K S) : FIN (exM X 175 23 [some (.ref 100000), some (.ref 0), some (.ref 35), some (.ref 57), some (.int (nI i)), o5, o6] [] (WW σ (outc τ :: t)) k s) K S := by
  obtain ⟨σ2, τ1, t1, N', r', k1, s1, hk, hs1, hI, ht, T⟩ := B
  obtain ⟨o5', o6', T⟩ := T o5 o6 k s
  rw [hs]
  refine T K S ?_
  have := ih σ2 τ1 t1 N' r' (k + k1) (s + s1) o5' o6' hI ht (by omega) (by omega)
  simp (disch := omega) only [s175_1428, s175_1431, c10, c100, c6, eq_self, bnd_l, bnd_r, Option.toList_some, Option.toList_none, List.cons_append, List.nil_append, Nat.add_zero, Nat.zero_add, ↓reduceIte, nI_add, nI_mul, nI_subI, lt_t, lt_f, eq_f, lt_m1, m1_lt, eq_m1, m1_eq]
  exact this
theorem b_none (h : INV σ N r n) : NXT X i σ τ t n 1428 := ⟨σ, τ, t, N, r, 0, 0, by omega, by omega, INV_mono h (Nat.le_succ n), by omega, fun o5 o6 _ _ => ⟨o5, o6, fun _ _ hF => hF⟩⟩
set_option maxHeartbeats 4000000 in
theorem law_loop (hX : X.1 ≤ 2560) : ∀ (m i : Nat) (σ : Nat → Nat → Int32) (τ : Nat → Int64) (t : rH) (N r n k s : Nat) (o5 o6 : Option Value), INV σ N r n → i = 5 * n → i ≤ X.1 → X.1 < i + 5 * m + 5 → 58 + t.length + 32 * m + 100 ≤ 99999 →
    FIN (exM X 175 23 [some (.ref 100000), some (.ref 0), some (.ref 35), some (.ref 57), some (.int (nI i)), o5, o6] [] (WW σ (outc τ :: t)) k s) (k + 33 * m) (s + 4036 * m) := by
  intro m
  induction m with
  | zero =>
    intro i σ τ t N r n k s o5 o6 h hi hi2 hm ht
    have hc : nI X.1 - nI 5 < nI i := by rw [head_c hX (by omega)]; omega
    simp (disch := omega) only [s175_23, s175_25, s175_26, s175_27, s175_28, s175_29, s175_1434, s175_1435z0, s175_1435z1, c10, c100, c6, eq_self, bnd_l, bnd_r, Option.toList_some, Option.toList_none, List.cons_append, List.nil_append, Nat.add_zero, Nat.zero_add, ↓reduceIte, nI_add, nI_mul, nI_subI, lt_t, lt_f, eq_f, lt_m1, m1_lt, eq_m1, m1_eq, hc]
    exact ⟨_, _, _, rfl, by omega, by omega⟩
  | succ m ih =>
    intro i σ τ t N r n k s o5 o6 h hi hi2 hm ht
    by_cases hx : X.1 < i + 5
    · have hc : nI X.1 - nI 5 < nI i := by rw [head_c hX (by omega)]; exact hx
      simp (disch := omega) only [s175_23, s175_25, s175_26, s175_27, s175_28, s175_29, s175_1434, s175_1435z0, s175_1435z1, c10, c100, c6, eq_self, bnd_l, bnd_r, Option.toList_some, Option.toList_none, List.cons_append, List.nil_append, Nat.add_zero, Nat.zero_add, ↓reduceIte, nI_add, nI_mul, nI_subI, lt_t, lt_f, eq_f, lt_m1, m1_lt, eq_m1, m1_eq, hc]
      exact ⟨_, _, _, rfl, by omega, by omega⟩
    · have hc : ¬ nI X.1 - nI 5 < nI i := by rw [head_c hX (by omega)]; exact hx
      have hi5 : i + 5 ≤ X.1 := by omega
      have hX2 : X.1 < 2 ^ 31 := by omega
      have hn : n ≤ 512 := by omega
      have next : ∀ (σ : Nat → Nat → Int32) (τ : Nat → Int64) (t2 : rH) (N r k2 s2 : Nat) (o5 o6 : Option Value), INV σ N r (n + 1) → t2.length ≤ t.length + 32 → k2 ≤ k + 33 → s2 ≤ s + 4036 → FIN (exM X 175 23 [some (.ref 100000), some (.ref 0), some (.ref 35), some (.ref 57), some (.int (nI (i + 5))), o5, o6] [] (WW σ (outc τ :: t2)) k2 s2) (k + 33 * (m + 1)) (s + 4036 * (m + 1)) := by
        intro σ τ t2 N r k2 s2 o5 o6 h2 ht2 hk hs
        exact FIN_mono (ih (i + 5) σ τ t2 N r (n + 1) k2 s2 o5 o6 h2 (by omega) (by omega) (by omega) (by omega)) (by omega) (by omega)
      obtain ⟨j, hj, ej⟩ := pk_andE (X.2 i) (m := nI 31) 5 (by decide +kernel)
      by_cases h19 : 19 ≤ j
      · refine go_blk (b_none h) ?_ next
        have hd := fun ls st k s => s175_39_d (X := X) (ls := ls) (st := st) (k := k) (s := s) (h := WW σ (outc τ :: t)) (x := nI j) (Or.inr (by rw [nI_toInt (by omega)]; omega))
        simp (disch := omega) only [s175_23, s175_25, s175_26, s175_27, s175_28, s175_29, s175_32, s175_33, s175_35, s175_36, s175_38, c10, c100, c6, eq_self, bnd_l, bnd_r, Option.toList_some, Option.toList_none, List.cons_append, List.nil_append, Nat.add_zero, Nat.zero_add, ↓reduceIte, nI_add, nI_mul, nI_subI, lt_t, lt_f, eq_f, lt_m1, m1_lt, eq_m1, m1_eq, hc, ej, hd]
      · have hjs : j = 0 ∨ j = 1 ∨ j = 2 ∨ j = 3 ∨ j = 4 ∨ j = 5 ∨ j = 6 ∨ j = 7 ∨ j = 8 ∨ j = 9 ∨ j = 10 ∨ j = 11 ∨ j = 12 ∨ j = 13 ∨ j = 14 ∨ j = 15 ∨ j = 16 ∨ j = 17 ∨ j = 18 := by omega
        rcases hjs with rfl | rfl | rfl | rfl | rfl | rfl | rfl | rfl | rfl | rfl | rfl | rfl | rfl | rfl | rfl | rfl | rfl | rfl | rfl
        · refine go_blk (b_item h hn hi5 hX2) ?_ next
          simp (disch := omega) only [s175_23, s175_25, s175_26, s175_27, s175_28, s175_29, s175_32, s175_33, s175_35, s175_36, s175_38, s175_39_0, s175_39_1, s175_39_2, s175_39_3, s175_39_4, s175_39_5, s175_39_6, s175_39_7, s175_39_8, s175_39_9, s175_39_10, s175_39_11, s175_39_12, s175_39_13, s175_39_14, s175_39_15, s175_39_16, s175_39_17, s175_39_18, s175_39_d, c10, c100, c6, eq_self, bnd_l, bnd_r, Option.toList_some, Option.toList_none, List.cons_append, List.nil_append, Nat.add_zero, Nat.zero_add, ↓reduceIte, nI_add, nI_mul, nI_subI, lt_t, lt_f, eq_f, lt_m1, m1_lt, eq_m1, m1_eq, hc, ej]
        · refine go_blk (b_open h hn hi5 hX2) ?_ next
          simp (disch := omega) only [s175_23, s175_25, s175_26, s175_27, s175_28, s175_29, s175_32, s175_33, s175_35, s175_36, s175_38, s175_39_0, s175_39_1, s175_39_2, s175_39_3, s175_39_4, s175_39_5, s175_39_6, s175_39_7, s175_39_8, s175_39_9, s175_39_10, s175_39_11, s175_39_12, s175_39_13, s175_39_14, s175_39_15, s175_39_16, s175_39_17, s175_39_18, s175_39_d, c10, c100, c6, eq_self, bnd_l, bnd_r, Option.toList_some, Option.toList_none, List.cons_append, List.nil_append, Nat.add_zero, Nat.zero_add, ↓reduceIte, nI_add, nI_mul, nI_subI, lt_t, lt_f, eq_f, lt_m1, m1_lt, eq_m1, m1_eq, hc, ej]
        · refine go_blk (b_starts h hn hi5 hX2) ?_ next
          simp (disch := omega) only [s175_23, s175_25, s175_26, s175_27, s175_28, s175_29, s175_32, s175_33, s175_35, s175_36, s175_38, s175_39_0, s175_39_1, s175_39_2, s175_39_3, s175_39_4, s175_39_5, s175_39_6, s175_39_7, s175_39_8, s175_39_9, s175_39_10, s175_39_11, s175_39_12, s175_39_13, s175_39_14, s175_39_15, s175_39_16, s175_39_17, s175_39_18, s175_39_d, c10, c100, c6, eq_self, bnd_l, bnd_r, Option.toList_some, Option.toList_none, List.cons_append, List.nil_append, Nat.add_zero, Nat.zero_add, ↓reduceIte, nI_add, nI_mul, nI_subI, lt_t, lt_f, eq_f, lt_m1, m1_lt, eq_m1, m1_eq, hc, ej]
        · refine go_blk (b_due h hn hi5 hX2) ?_ next
          simp (disch := omega) only [s175_23, s175_25, s175_26, s175_27, s175_28, s175_29, s175_32, s175_33, s175_35, s175_36, s175_38, s175_39_0, s175_39_1, s175_39_2, s175_39_3, s175_39_4, s175_39_5, s175_39_6, s175_39_7, s175_39_8, s175_39_9, s175_39_10, s175_39_11, s175_39_12, s175_39_13, s175_39_14, s175_39_15, s175_39_16, s175_39_17, s175_39_18, s175_39_d, c10, c100, c6, eq_self, bnd_l, bnd_r, Option.toList_some, Option.toList_none, List.cons_append, List.nil_append, Nat.add_zero, Nat.zero_add, ↓reduceIte, nI_add, nI_mul, nI_subI, lt_t, lt_f, eq_f, lt_m1, m1_lt, eq_m1, m1_eq, hc, ej]
        · refine go_blk (b_stamp h hn hi5 hX2) ?_ next
          simp (disch := omega) only [s175_23, s175_25, s175_26, s175_27, s175_28, s175_29, s175_32, s175_33, s175_35, s175_36, s175_38, s175_39_0, s175_39_1, s175_39_2, s175_39_3, s175_39_4, s175_39_5, s175_39_6, s175_39_7, s175_39_8, s175_39_9, s175_39_10, s175_39_11, s175_39_12, s175_39_13, s175_39_14, s175_39_15, s175_39_16, s175_39_17, s175_39_18, s175_39_d, c10, c100, c6, eq_self, bnd_l, bnd_r, Option.toList_some, Option.toList_none, List.cons_append, List.nil_append, Nat.add_zero, Nat.zero_add, ↓reduceIte, nI_add, nI_mul, nI_subI, lt_t, lt_f, eq_f, lt_m1, m1_lt, eq_m1, m1_eq, hc, ej]
        · refine go_blk (b_delay h hn hi5 hX2) ?_ next
          simp (disch := omega) only [s175_23, s175_25, s175_26, s175_27, s175_28, s175_29, s175_32, s175_33, s175_35, s175_36, s175_38, s175_39_0, s175_39_1, s175_39_2, s175_39_3, s175_39_4, s175_39_5, s175_39_6, s175_39_7, s175_39_8, s175_39_9, s175_39_10, s175_39_11, s175_39_12, s175_39_13, s175_39_14, s175_39_15, s175_39_16, s175_39_17, s175_39_18, s175_39_d, c10, c100, c6, eq_self, bnd_l, bnd_r, Option.toList_some, Option.toList_none, List.cons_append, List.nil_append, Nat.add_zero, Nat.zero_add, ↓reduceIte, nI_add, nI_mul, nI_subI, lt_t, lt_f, eq_f, lt_m1, m1_lt, eq_m1, m1_eq, hc, ej]
        · refine go_blk (b_finish h hn hi5 hX2) ?_ next
          simp (disch := omega) only [s175_23, s175_25, s175_26, s175_27, s175_28, s175_29, s175_32, s175_33, s175_35, s175_36, s175_38, s175_39_0, s175_39_1, s175_39_2, s175_39_3, s175_39_4, s175_39_5, s175_39_6, s175_39_7, s175_39_8, s175_39_9, s175_39_10, s175_39_11, s175_39_12, s175_39_13, s175_39_14, s175_39_15, s175_39_16, s175_39_17, s175_39_18, s175_39_d, c10, c100, c6, eq_self, bnd_l, bnd_r, Option.toList_some, Option.toList_none, List.cons_append, List.nil_append, Nat.add_zero, Nat.zero_add, ↓reduceIte, nI_add, nI_mul, nI_subI, lt_t, lt_f, eq_f, lt_m1, m1_lt, eq_m1, m1_eq, hc, ej]
        · refine go_blk (b_held h hn hi5 hX2) ?_ next
          simp (disch := omega) only [s175_23, s175_25, s175_26, s175_27, s175_28, s175_29, s175_32, s175_33, s175_35, s175_36, s175_38, s175_39_0, s175_39_1, s175_39_2, s175_39_3, s175_39_4, s175_39_5, s175_39_6, s175_39_7, s175_39_8, s175_39_9, s175_39_10, s175_39_11, s175_39_12, s175_39_13, s175_39_14, s175_39_15, s175_39_16, s175_39_17, s175_39_18, s175_39_d, c10, c100, c6, eq_self, bnd_l, bnd_r, Option.toList_some, Option.toList_none, List.cons_append, List.nil_append, Nat.add_zero, Nat.zero_add, ↓reduceIte, nI_add, nI_mul, nI_subI, lt_t, lt_f, eq_f, lt_m1, m1_lt, eq_m1, m1_eq, hc, ej]
        · refine go_blk (b_award h hn hi5 hX2) ?_ next
          simp (disch := omega) only [s175_23, s175_25, s175_26, s175_27, s175_28, s175_29, s175_32, s175_33, s175_35, s175_36, s175_38, s175_39_0, s175_39_1, s175_39_2, s175_39_3, s175_39_4, s175_39_5, s175_39_6, s175_39_7, s175_39_8, s175_39_9, s175_39_10, s175_39_11, s175_39_12, s175_39_13, s175_39_14, s175_39_15, s175_39_16, s175_39_17, s175_39_18, s175_39_d, c10, c100, c6, eq_self, bnd_l, bnd_r, Option.toList_some, Option.toList_none, List.cons_append, List.nil_append, Nat.add_zero, Nat.zero_add, ↓reduceIte, nI_add, nI_mul, nI_subI, lt_t, lt_f, eq_f, lt_m1, m1_lt, eq_m1, m1_eq, hc, ej]
        · refine go_blk (b_time h hn hi5 hX2) ?_ next
          simp (disch := omega) only [s175_23, s175_25, s175_26, s175_27, s175_28, s175_29, s175_32, s175_33, s175_35, s175_36, s175_38, s175_39_0, s175_39_1, s175_39_2, s175_39_3, s175_39_4, s175_39_5, s175_39_6, s175_39_7, s175_39_8, s175_39_9, s175_39_10, s175_39_11, s175_39_12, s175_39_13, s175_39_14, s175_39_15, s175_39_16, s175_39_17, s175_39_18, s175_39_d, c10, c100, c6, eq_self, bnd_l, bnd_r, Option.toList_some, Option.toList_none, List.cons_append, List.nil_append, Nat.add_zero, Nat.zero_add, ↓reduceIte, nI_add, nI_mul, nI_subI, lt_t, lt_f, eq_f, lt_m1, m1_lt, eq_m1, m1_eq, hc, ej]
        · refine go_blk (b_allocate h hn hi5 hX2) ?_ next
          simp (disch := omega) only [s175_23, s175_25, s175_26, s175_27, s175_28, s175_29, s175_32, s175_33, s175_35, s175_36, s175_38, s175_39_0, s175_39_1, s175_39_2, s175_39_3, s175_39_4, s175_39_5, s175_39_6, s175_39_7, s175_39_8, s175_39_9, s175_39_10, s175_39_11, s175_39_12, s175_39_13, s175_39_14, s175_39_15, s175_39_16, s175_39_17, s175_39_18, s175_39_d, c10, c100, c6, eq_self, bnd_l, bnd_r, Option.toList_some, Option.toList_none, List.cons_append, List.nil_append, Nat.add_zero, Nat.zero_add, ↓reduceIte, nI_add, nI_mul, nI_subI, lt_t, lt_f, eq_f, lt_m1, m1_lt, eq_m1, m1_eq, hc, ej]
        · refine go_blk (b_seen h hn hi5 hX2) ?_ next
          simp (disch := omega) only [s175_23, s175_25, s175_26, s175_27, s175_28, s175_29, s175_32, s175_33, s175_35, s175_36, s175_38, s175_39_0, s175_39_1, s175_39_2, s175_39_3, s175_39_4, s175_39_5, s175_39_6, s175_39_7, s175_39_8, s175_39_9, s175_39_10, s175_39_11, s175_39_12, s175_39_13, s175_39_14, s175_39_15, s175_39_16, s175_39_17, s175_39_18, s175_39_d, c10, c100, c6, eq_self, bnd_l, bnd_r, Option.toList_some, Option.toList_none, List.cons_append, List.nil_append, Nat.add_zero, Nat.zero_add, ↓reduceIte, nI_add, nI_mul, nI_subI, lt_t, lt_f, eq_f, lt_m1, m1_lt, eq_m1, m1_eq, hc, ej]
        · refine go_blk (b_retire h hn hi5 hX2) ?_ next
          simp (disch := omega) only [s175_23, s175_25, s175_26, s175_27, s175_28, s175_29, s175_32, s175_33, s175_35, s175_36, s175_38, s175_39_0, s175_39_1, s175_39_2, s175_39_3, s175_39_4, s175_39_5, s175_39_6, s175_39_7, s175_39_8, s175_39_9, s175_39_10, s175_39_11, s175_39_12, s175_39_13, s175_39_14, s175_39_15, s175_39_16, s175_39_17, s175_39_18, s175_39_d, c10, c100, c6, eq_self, bnd_l, bnd_r, Option.toList_some, Option.toList_none, List.cons_append, List.nil_append, Nat.add_zero, Nat.zero_add, ↓reduceIte, nI_add, nI_mul, nI_subI, lt_t, lt_f, eq_f, lt_m1, m1_lt, eq_m1, m1_eq, hc, ej]
        · refine go_blk (b_car h hn hi5 hX2) ?_ next
          simp (disch := omega) only [s175_23, s175_25, s175_26, s175_27, s175_28, s175_29, s175_32, s175_33, s175_35, s175_36, s175_38, s175_39_0, s175_39_1, s175_39_2, s175_39_3, s175_39_4, s175_39_5, s175_39_6, s175_39_7, s175_39_8, s175_39_9, s175_39_10, s175_39_11, s175_39_12, s175_39_13, s175_39_14, s175_39_15, s175_39_16, s175_39_17, s175_39_18, s175_39_d, c10, c100, c6, eq_self, bnd_l, bnd_r, Option.toList_some, Option.toList_none, List.cons_append, List.nil_append, Nat.add_zero, Nat.zero_add, ↓reduceIte, nI_add, nI_mul, nI_subI, lt_t, lt_f, eq_f, lt_m1, m1_lt, eq_m1, m1_eq, hc, ej]
        · refine go_blk (b_totalAnew h hn hi5 hX2) ?_ next
          simp (disch := omega) only [s175_23, s175_25, s175_26, s175_27, s175_28, s175_29, s175_32, s175_33, s175_35, s175_36, s175_38, s175_39_0, s175_39_1, s175_39_2, s175_39_3, s175_39_4, s175_39_5, s175_39_6, s175_39_7, s175_39_8, s175_39_9, s175_39_10, s175_39_11, s175_39_12, s175_39_13, s175_39_14, s175_39_15, s175_39_16, s175_39_17, s175_39_18, s175_39_d, c10, c100, c6, eq_self, bnd_l, bnd_r, Option.toList_some, Option.toList_none, List.cons_append, List.nil_append, Nat.add_zero, Nat.zero_add, ↓reduceIte, nI_add, nI_mul, nI_subI, lt_t, lt_f, eq_f, lt_m1, m1_lt, eq_m1, m1_eq, hc, ej]
        · refine go_blk (b_ranked h hn hi5 hX2) ?_ next
          simp (disch := omega) only [s175_23, s175_25, s175_26, s175_27, s175_28, s175_29, s175_32, s175_33, s175_35, s175_36, s175_38, s175_39_0, s175_39_1, s175_39_2, s175_39_3, s175_39_4, s175_39_5, s175_39_6, s175_39_7, s175_39_8, s175_39_9, s175_39_10, s175_39_11, s175_39_12, s175_39_13, s175_39_14, s175_39_15, s175_39_16, s175_39_17, s175_39_18, s175_39_d, c10, c100, c6, eq_self, bnd_l, bnd_r, Option.toList_some, Option.toList_none, List.cons_append, List.nil_append, Nat.add_zero, Nat.zero_add, ↓reduceIte, nI_add, nI_mul, nI_subI, lt_t, lt_f, eq_f, lt_m1, m1_lt, eq_m1, m1_eq, hc, ej]
        · refine go_blk (b_close h hn hi5 hX2 (by omega)) ?_ next
          simp (disch := omega) only [s175_23, s175_25, s175_26, s175_27, s175_28, s175_29, s175_32, s175_33, s175_35, s175_36, s175_38, s175_39_0, s175_39_1, s175_39_2, s175_39_3, s175_39_4, s175_39_5, s175_39_6, s175_39_7, s175_39_8, s175_39_9, s175_39_10, s175_39_11, s175_39_12, s175_39_13, s175_39_14, s175_39_15, s175_39_16, s175_39_17, s175_39_18, s175_39_d, c10, c100, c6, eq_self, bnd_l, bnd_r, Option.toList_some, Option.toList_none, List.cons_append, List.nil_append, Nat.add_zero, Nat.zero_add, ↓reduceIte, nI_add, nI_mul, nI_subI, lt_t, lt_f, eq_f, lt_m1, m1_lt, eq_m1, m1_eq, hc, ej]
        · refine go_blk (b_points h hn hi5 hX2) ?_ next
          simp (disch := omega) only [s175_23, s175_25, s175_26, s175_27, s175_28, s175_29, s175_32, s175_33, s175_35, s175_36, s175_38, s175_39_0, s175_39_1, s175_39_2, s175_39_3, s175_39_4, s175_39_5, s175_39_6, s175_39_7, s175_39_8, s175_39_9, s175_39_10, s175_39_11, s175_39_12, s175_39_13, s175_39_14, s175_39_15, s175_39_16, s175_39_17, s175_39_18, s175_39_d, c10, c100, c6, eq_self, bnd_l, bnd_r, Option.toList_some, Option.toList_none, List.cons_append, List.nil_append, Nat.add_zero, Nat.zero_add, ↓reduceIte, nI_add, nI_mul, nI_subI, lt_t, lt_f, eq_f, lt_m1, m1_lt, eq_m1, m1_eq, hc, ej]
        · refine go_blk (b_table h hn hi5 hX2) ?_ next
          simp (disch := omega) only [s175_23, s175_25, s175_26, s175_27, s175_28, s175_29, s175_32, s175_33, s175_35, s175_36, s175_38, s175_39_0, s175_39_1, s175_39_2, s175_39_3, s175_39_4, s175_39_5, s175_39_6, s175_39_7, s175_39_8, s175_39_9, s175_39_10, s175_39_11, s175_39_12, s175_39_13, s175_39_14, s175_39_15, s175_39_16, s175_39_17, s175_39_18, s175_39_d, c10, c100, c6, eq_self, bnd_l, bnd_r, Option.toList_some, Option.toList_none, List.cons_append, List.nil_append, Nat.add_zero, Nat.zero_add, ↓reduceIte, nI_add, nI_mul, nI_subI, lt_t, lt_f, eq_f, lt_m1, m1_lt, eq_m1, m1_eq, hc, ej]
end LOP
