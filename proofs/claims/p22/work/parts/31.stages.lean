/-! THE CLASS: stages -/
theorem xor_lt (x y : Int32) : (x ^^^ y < 0) ↔ ¬ ((x < 0) ↔ (y < 0)) := by
  have h : ∀ z : Int32, z < 0 ↔ z.toBitVec.msb = true := fun z => by
    rw [Int32.lt_iff_toBitVec_slt, show (0 : Int32).toBitVec = 0#32 from rfl, BitVec.slt_zero_eq_msb]
  rw [h, h, h, Int32.toBitVec_xor, BitVec.msb_xor]
  cases x.toBitVec.msb <;> cases y.toBitVec.msb <;> decide
theorem bm_ {z : Int} (h1 : -2147483648 ≤ z) (h2 : z < 2147483648) : z.bmod (2 ^ 32) = z := Int.bmod_eq_of_le (by omega) (by omega)
theorem tdb {v : Int} {n : Nat} (h1 : 1 ≤ n) (h2 : n ≤ 10) (hv : -1000000000 ≤ v) (hv2 : v ≤ 1000000000) : -1000000000 ≤ v.tdiv n ∧ v.tdiv n ≤ 1000000000 ∧ -1000000010 ≤ v.tdiv n * n ∧ v.tdiv n * n ≤ 1000000010 := by
  have hn : n = 1 ∨ n = 2 ∨ n = 3 ∨ n = 4 ∨ n = 5 ∨ n = 6 ∨ n = 7 ∨ n = 8 ∨ n = 9 ∨ n = 10 := by omega
  have hs : Int.sign (n : Int) = 1 := Int.sign_eq_one_of_pos (by omega)
  rw [Int.tdiv_eq_ediv, hs]
  rcases hn with rfl | rfl | rfl | rfl | rfl | rfl | rfl | rfl | rfl | rfl <;>
    (split <;> simp <;> omega)
theorem tdf {v : Int} {n : Nat} (h1 : 1 ≤ n) (h2 : n ≤ 10) (hv : v < 0) : -(((n : Int) - 1 - v).tdiv n) = if v.tdiv n * n = v then v.tdiv n else v.tdiv n - 1 := by
  have hn : n = 1 ∨ n = 2 ∨ n = 3 ∨ n = 4 ∨ n = 5 ∨ n = 6 ∨ n = 7 ∨ n = 8 ∨ n = 9 ∨ n = 10 := by omega
  have hs : Int.sign (n : Int) = 1 := Int.sign_eq_one_of_pos (by omega)
  rw [Int.tdiv_eq_ediv, Int.tdiv_eq_ediv, hs, if_pos (Or.inl (by omega : 0 ≤ (n : Int) - 1 - v))]
  rcases hn with rfl | rfl | rfl | rfl | rfl | rfl | rfl | rfl | rfl | rfl <;>
    (split <;> split <;> simp at * <;> omega)
theorem fdv {x : Int32} {n : Nat} (h1 : 1 ≤ n) (h2 : n ≤ 10) (hv : -999999980 ≤ x.toInt) (hv2 : x.toInt ≤ 999999980) :
    (if x ^^^ nI n < nI 0 then (if x / nI n * nI n = x then x / nI n else x / nI n - nI 1) else x / nI n) = floorF x (nI n) := by
  have e0 : (nI n).toInt = n := nI_toInt (by omega)
  have hy : ¬ nI n < nI 0 := by
    rw [Int32.lt_iff_toInt_lt, e0, nI_toInt (by omega)]
    omega
  have hx : (x ^^^ nI n < nI 0) ↔ ¬ ((x < nI 0) ↔ (nI n < nI 0)) := xor_lt x (nI n)
  unfold floorF
  by_cases h0 : x < nI 0
  · have h0' : x.toInt < 0 := by
      rw [Int32.lt_iff_toInt_lt, nI_toInt (by omega)] at h0
      exact h0
    rw [if_pos h0, if_pos (hx.mpr (fun q => hy (q.mp h0)))]
    have b1 := tdb (v := x.toInt) h1 h2 (by omega) (by omega)
    have b2 := tdb (v := (n : Int) - 1 - x.toInt) h1 h2 (by omega) (by omega)
    have e1 : (x / nI n).toInt = x.toInt.tdiv n := by
      rw [Int32.toInt_div, e0]
      exact bm_ (by omega) (by omega)
    have e2 : (x / nI n * nI n).toInt = x.toInt.tdiv n * n := by
      rw [Int32.toInt_mul, e0, e1]
      exact bm_ (by omega) (by omega)
    have e3 : (x / nI n - nI 1).toInt = x.toInt.tdiv n - 1 := by
      rw [Int32.toInt_sub, e1, nI_toInt (by omega)]
      exact bm_ (by omega) (by omega)
    have e4 : (nI n - nI 1 - x).toInt = (n : Int) - 1 - x.toInt := by
      rw [Int32.toInt_sub, Int32.toInt_sub, e0, nI_toInt (by omega), bm_ (z := (n : Int) - ((1 : Nat) : Int)) (by omega) (by omega)]
      exact bm_ (by omega) (by omega)
    have e5 : (-((nI n - nI 1 - x) / nI n)).toInt = -(((n : Int) - 1 - x.toInt).tdiv n) := by
      rw [Int32.toInt_neg, Int32.toInt_div, e4, e0, bm_ (z := ((n : Int) - 1 - x.toInt).tdiv n) (by omega) (by omega)]
      exact bm_ (by omega) (by omega)
    have e6 := tdf h1 h2 h0'
    refine Int32.toInt_inj.mp ?_
    rw [e5, e6]
    by_cases h3 : x / nI n * nI n = x
    · rw [if_pos h3, if_pos (by rw [← e2, h3]), e1]
    · rw [if_neg h3, if_neg (fun q => h3 (Int32.toInt_inj.mp (by rw [e2, q]))), e3]
  · rw [if_neg h0, if_neg (fun q => (hx.mp q) ⟨fun z => absurd z h0, fun z => absurd z hy⟩)]

section CMP3
variable {X : rX} {h : rH} {σ : Nat → Nat → Int32} {t : rH} {N : Nat}
theorem c_floorDiv {x : Int32} {n : Nat} (h1 : 1 ≤ n) (h2 : n ≤ 10) (hv : -999999980 ≤ x.toInt) (hv2 : x.toInt ≤ 999999980) : exC X 124 [.int x, .int (nI n)] h = ans (floorF x (nI n)) h := by
  rw [ent_124, ← fdv h1 h2 hv hv2]
  have hy : ¬ nI n = 0 := nI_nz (by omega) (by omega)
  by_cases hx : x ^^^ nI n < nI 0
  · by_cases hm : x / nI n * nI n = x
    · simp (disch := omega) only [s124_0, s124_1, s124_3, s124_4, s124_5, s124_6, s124_7, s124_10, s124_11, s124_12, s124_13, s124_14, s124_17, s124_18, s124_19, s124_20, s124_21, s124_22, c10, c100, c6, eq_self, bnd_l, bnd_r, Option.toList_some, Option.toList_none, List.cons_append, List.nil_append, Nat.add_zero, Nat.zero_add, ↓reduceIte, nI_add, nI_mul, nI_subI, lt_t, lt_f, eq_f, lt_m1, m1_lt, eq_m1, m1_eq, s124_2 hy, hx, hm]
    · simp (disch := omega) only [s124_0, s124_1, s124_3, s124_4, s124_5, s124_6, s124_7, s124_10, s124_11, s124_12, s124_13, s124_14, s124_17, s124_18, s124_19, s124_20, s124_21, s124_22, c10, c100, c6, eq_self, bnd_l, bnd_r, Option.toList_some, Option.toList_none, List.cons_append, List.nil_append, Nat.add_zero, Nat.zero_add, ↓reduceIte, nI_add, nI_mul, nI_subI, lt_t, lt_f, eq_f, lt_m1, m1_lt, eq_m1, m1_eq, s124_2 hy, hx, hm]
  · simp (disch := omega) only [s124_0, s124_1, s124_3, s124_4, s124_5, s124_6, s124_7, s124_10, s124_11, s124_12, s124_13, s124_14, s124_17, s124_18, s124_19, s124_20, s124_21, s124_22, c10, c100, c6, eq_self, bnd_l, bnd_r, Option.toList_some, Option.toList_none, List.cons_append, List.nil_append, Nat.add_zero, Nat.zero_add, ↓reduceIte, nI_add, nI_mul, nI_subI, lt_t, lt_f, eq_f, lt_m1, m1_lt, eq_m1, m1_eq, s124_2 hy, hx]
/-- a finish, or none -/
def finM (x : Int32) : Prop := x = -1 ∨ ∃ n, n ≤ 2000000 ∧ x = nI n
theorem dsF_b {bm hd : Nat → Int32} {b : Nat} (hb : ∀ j, j < 10 → finM (bm (b + j)) ∧ finM (hd (b + j))) : ∀ j : Nat, j ≤ 10 → -(2000000 * (j : Int)) ≤ (dsF bm hd b j).toInt ∧ (dsF bm hd b j).toInt ≤ 2000000 * (j : Int)
  | 0, _ => by
    unfold dsF
    rw [nI_toInt (by omega)]
    omega
  | j + 1, hj => by
    have ih := dsF_b hb j (by omega)
    obtain ⟨h1, h2⟩ := hb j (by omega)
    unfold dsF
    by_cases e1 : bm (b + j) = -1
    · rw [if_pos e1, add0]
      omega
    · rw [if_neg e1]
      by_cases e2 : hd (b + j) = -1
      · rw [if_pos e2, add0]
        omega
      · rw [if_neg e2]
        obtain ⟨m, hm, e3⟩ := h1.resolve_left e1
        obtain ⟨n, hn, e4⟩ := h2.resolve_left e2
        have e5 : (bm (b + j) - hd (b + j)).toInt = (m : Int) - n := by
          rw [e3, e4]
          exact sub_toInt (by omega) (by omega)
        rw [Int32.toInt_add, e5, bm_ (by omega) (by omega)]
        omega
theorem l_beamLead {i : Nat} (hi : i < 20) (hb : ∀ j, j < 10 → finM (σ 18 (10 * i + j)) ∧ finM (σ 19 (10 * i + j))) : ∀ n j, j + n = 10 → ∀ o5, exM X 70 7 [some (.ref 17), some (.int (nI i)), some (.int (dsF (σ 18) (σ 19) (10 * i) j)), some (.int (nI (dcF (σ 18) (σ 19) (10 * i) j))), some (.int (nI j)), o5] [] (WW σ t) 0 0 = ans (meanF (σ 18) (σ 19) i) (WW σ t) := by
  intro n
  induction n with
  | zero =>
    intro j hj o5
    have e : j = 10 := by omega
    subst e
    have hle := dcF_le (σ 18) (σ 19) (10 * i) 10
    have hd := dsF_b hb 10 (by omega)
    by_cases h0 : dcF (σ 18) (σ 19) (10 * i) 10 = 0
    · simp (disch := omega) only [s70_0, s70_1, s70_2, s70_3, s70_4, s70_5, s70_7, s70_9, s70_11, s70_14, s70_15, s70_17, s70_18, s70_20, s70_21, s70_23, s70_24, s70_27, s70_29, s70_30, s70_31, s70_34, s70_35, s70_38, s70_40, s70_41, s70_42, s70_45, s70_46, s70_47, s70_50, s70_52, s70_53, s70_54, s70_57, s70_59, s70_60, s70_61, s70_62, s70_63, s70_66, s70_69, s70_72, s70_73, s70_76, s70_77, s70_80, s70_81, s70_82, s70_85, c10, c100, c6, eq_self, bnd_l, bnd_r, Option.toList_some, Option.toList_none, List.cons_append, List.nil_append, Nat.add_zero, Nat.zero_add, ↓reduceIte, nI_add, nI_mul, nI_subI, lt_t, lt_f, eq_f, lt_m1, m1_lt, eq_m1, m1_eq, h0, meanF]
    · have hf := c_floorDiv (X := X) (h := WW σ t) (x := dsF (σ 18) (σ 19) (10 * i) 10) (n := dcF (σ 18) (σ 19) (10 * i) 10) (by omega) hle (by omega) (by omega)
      simp (disch := omega) only [s70_0, s70_1, s70_2, s70_3, s70_4, s70_5, s70_7, s70_9, s70_11, s70_14, s70_15, s70_17, s70_18, s70_20, s70_21, s70_23, s70_24, s70_27, s70_29, s70_30, s70_31, s70_34, s70_35, s70_38, s70_40, s70_41, s70_42, s70_45, s70_46, s70_47, s70_50, s70_52, s70_53, s70_54, s70_57, s70_59, s70_60, s70_61, s70_62, s70_63, s70_66, s70_69, s70_72, s70_73, s70_76, s70_77, s70_80, s70_81, s70_82, s70_85, c10, c100, c6, eq_self, bnd_l, bnd_r, Option.toList_some, Option.toList_none, List.cons_append, List.nil_append, Nat.add_zero, Nat.zero_add, ↓reduceIte, nI_add, nI_mul, nI_subI, lt_t, lt_f, eq_f, lt_m1, m1_lt, eq_m1, m1_eq, h0, meanF, hf]
  | succ n ih =>
    intro j hj o5
    rw [s70_7]
    have i1 := ih (j + 1) (by omega)
    have hle := dcF_le (σ 18) (σ 19) (10 * i) j
    by_cases hb : σ 18 (10 * i + j) = -1
    · simp only [dsF, dcF, hb, if_true, add0, Nat.add_zero] at i1
      simp (disch := omega) only [s70_9, s70_11, s70_14, s70_15, s70_17, s70_18, s70_20, s70_21, s70_23, s70_24, s70_27, s70_29, s70_30, s70_31, s70_34, s70_35, s70_38, s70_40, s70_41, s70_42, s70_45, s70_46, s70_47, s70_50, s70_52, s70_53, s70_54, s70_57, s70_59, s70_60, s70_61, s70_62, s70_63, s70_66, s70_69, c10, c100, c6, eq_self, bnd_l, bnd_r, Option.toList_some, Option.toList_none, List.cons_append, List.nil_append, Nat.add_zero, Nat.zero_add, ↓reduceIte, nI_add, nI_mul, nI_subI, lt_t, lt_f, eq_f, lt_m1, m1_lt, eq_m1, m1_eq, hb]
      exact i1 _
    · by_cases hd : σ 19 (10 * i + j) = -1
      · simp only [dsF, dcF, hb, hd, if_true, if_false, add0, Nat.add_zero] at i1
        simp (disch := omega) only [s70_9, s70_11, s70_14, s70_15, s70_17, s70_18, s70_20, s70_21, s70_23, s70_24, s70_27, s70_29, s70_30, s70_31, s70_34, s70_35, s70_38, s70_40, s70_41, s70_42, s70_45, s70_46, s70_47, s70_50, s70_52, s70_53, s70_54, s70_57, s70_59, s70_60, s70_61, s70_62, s70_63, s70_66, s70_69, c10, c100, c6, eq_self, bnd_l, bnd_r, Option.toList_some, Option.toList_none, List.cons_append, List.nil_append, Nat.add_zero, Nat.zero_add, ↓reduceIte, nI_add, nI_mul, nI_subI, lt_t, lt_f, eq_f, lt_m1, m1_lt, eq_m1, m1_eq, hb, hd]
        exact i1 _
      · simp only [dsF, dcF, hb, hd, if_false] at i1
        simp (disch := omega) only [s70_9, s70_11, s70_14, s70_15, s70_17, s70_18, s70_20, s70_21, s70_23, s70_24, s70_27, s70_29, s70_30, s70_31, s70_34, s70_35, s70_38, s70_40, s70_41, s70_42, s70_45, s70_46, s70_47, s70_50, s70_52, s70_53, s70_54, s70_57, s70_59, s70_60, s70_61, s70_62, s70_63, s70_66, s70_69, c10, c100, c6, eq_self, bnd_l, bnd_r, Option.toList_some, Option.toList_none, List.cons_append, List.nil_append, Nat.add_zero, Nat.zero_add, ↓reduceIte, nI_add, nI_mul, nI_subI, lt_t, lt_f, eq_f, lt_m1, m1_lt, eq_m1, m1_eq, hb, hd]
        exact i1 _
theorem k_beamLead {i : Nat} (hi : i < 20) (hb : ∀ j, j < 10 → finM (σ 18 (10 * i + j)) ∧ finM (σ 19 (10 * i + j))) : exC X 70 [.ref 17, .int (nI i)] (WW σ t) = ans (meanF (σ 18) (σ 19) i) (WW σ t) := by
  rw [ent_70]
  have hL := l_beamLead (X := X) (σ := σ) (t := t) hi hb 10 0 (by omega) none
  simp only [dsF, dcF] at hL
  simp (disch := omega) only [s70_0, s70_1, s70_2, s70_3, s70_4, s70_5, c10, c100, c6, eq_self, bnd_l, bnd_r, Option.toList_some, Option.toList_none, List.cons_append, List.nil_append, Nat.add_zero, Nat.zero_add, ↓reduceIte, nI_add, nI_mul, nI_subI, lt_t, lt_f, eq_f, lt_m1, m1_lt, eq_m1, m1_eq]
  exact hL
/-- n cells of row i written -/
def blkN (i n : Nat) (g f : Nat → Int32) : Nat → Int32 := fun j => if 10 * i ≤ j ∧ j < 10 * i + n then g (j - 10 * i) else f j
theorem blkN_0 {i : Nat} {g f : Nat → Int32} : blkN i 0 g f = f := by
  funext j
  unfold blkN
  rw [if_neg (by omega)]
theorem blkN_at {i n c : Nat} {g f : Nat → Int32} (hc : c < n) : blkN i n g f (10 * i + c) = g c := by
  unfold blkN
  rw [if_pos ⟨by omega, by omega⟩, Nat.add_sub_cancel_left]
theorem blkN_out {i n j : Nat} {g f : Nat → Int32} (h : ¬ (10 * i ≤ j ∧ j < 10 * i + n)) : blkN i n g f j = f j := if_neg h
theorem blkN_s {i n : Nat} {g f : Nat → Int32} {x : Int32} (hx : x = g n) : upd (blkN i n g f) (10 * i + n) x = blkN i (n + 1) g f := by
  funext j
  unfold upd blkN
  by_cases h1 : j = 10 * i + n
  · subst h1
    rw [if_pos rfl, if_pos ⟨by omega, by omega⟩, Nat.add_sub_cancel_left, hx]
  · rw [if_neg h1]
    by_cases h2 : 10 * i ≤ j ∧ j < 10 * i + n
    · rw [if_pos h2, if_pos ⟨h2.1, by omega⟩]
    · rw [if_neg h2, if_neg (by omega)]
theorem blkN_skip {i n : Nat} {g f : Nat → Int32} (hx : f (10 * i + n) = g n) : blkN i n g f = blkN i (n + 1) g f := by
  rw [← blkN_s (i := i) (n := n) (g := g) (f := f) rfl]
  funext j
  unfold upd
  by_cases h1 : j = 10 * i + n
  · subst h1
    rw [if_pos rfl, blkN_out (by omega), hx]
  · rw [if_neg h1]
/-- all as it is -/
theorem blkN_self {i : Nat} {g f : Nat → Int32} : ∀ n, (∀ c, c < n → f (10 * i + c) = g c) → blkN i n g f = f
  | 0, _ => blkN_0
  | n + 1, h => by rw [← blkN_skip (h n (by omega)), blkN_self n fun c hc => h c (by omega)]
theorem max_z (x : Int32) : (if nI 0 < x then x else nI 0) = if x < nI 0 then nI 0 else x := by
  by_cases h1 : nI 0 < x
  · rw [if_pos h1, if_neg (Int32.lt_asymm h1)]
  · rw [if_neg h1]
    by_cases h2 : x < nI 0
    · rw [if_pos h2]
    · rw [if_neg h2]
      exact Int32.le_antisymm (Int32.not_lt.mp h2) (Int32.not_lt.mp h1)
/-- the own time of a car, by the class's rows -/
abbrev ownC (σ : Nat → Nat → Int32) (i c : Nat) : Int32 := ownF (σ 11) (σ 18) (σ 19) c i
/-- what a stage needs to be reckoned -/
def SG (σ : Nat → Nat → Int32) (N i : Nat) : Prop := i < N ∧ 1 ≤ i ∧ ¬ σ 36 (i - 1) = nI 2 ∧ (∀ j, j < 10 → finM (σ 18 (10 * i + j)) ∧ finM (σ 19 (10 * i + j))) ∧ (∀ c, c < 10 → ¬ σ 18 (10 * i + c) = -1 ∨ ¬ σ 19 (10 * i + c) = -1 → ¬ σ 11 (10 * (i - 1) + c) = -1) ∧ ∀ c, c < 10 → σ 18 (10 * i + c) = -1 → σ 19 (10 * i + c) = -1 → σ 22 (10 * i + c) = -1
theorem l_ownTimes {i : Nat} (hA : IA σ N) (hS : SG σ N i) {Q : Option rR} (hQ : ansV (WW (sA σ 22 (blkN i 10 (ownC σ i) (σ 22))) t) = Q) : ∀ n j, j + n = 10 → ∀ o4 o5, exM X 69 8 [some (.ref 17), some (.int (nI i)), some (.int (meanF (σ 18) (σ 19) i)), some (.int (nI j)), o4, o5] [] (WW (sA σ 22 (blkN i j (ownC σ i) (σ 22))) t) 0 0 = Q := by
  have hN := hA.1
  obtain ⟨s1, s2, s3, s4, s5, s6⟩ := hS
  intro n
  induction n with
  | zero =>
    intro j hj o4 o5
    have e : j = 10 := by omega
    subst e
    simp (disch := omega) only [s69_8, s69_9, s69_11, s69_105, c10, c100, c6, eq_self, bnd_l, bnd_r, Option.toList_some, Option.toList_none, List.cons_append, List.nil_append, Nat.add_zero, Nat.zero_add, ↓reduceIte, nI_add, nI_mul, nI_subI, lt_t, lt_f, eq_f, lt_m1, m1_lt, eq_m1, m1_eq]
    exact hQ
  | succ n ih =>
    intro j hj o4 o5
    rw [s69_8]
    have i1 := ih (j + 1) (by omega)
    have hst : ¬ σ 11 (10 * (i - 1) + j) = -1 → exC X 8 [.ref 10, .int (nI j), .int (nI i)] (WW (sA σ 22 (blkN i j (ownC σ i) (σ 22))) t) = ans (startF (σ 11) j i) (WW (sA σ 22 (blkN i j (ownC σ i) (σ 22))) t) := fun q => k_startTenths (σ := sA σ 22 (blkN i j (ownC σ i) (σ 22))) (N := N) hA s1 s2 (by omega) s3 q
    by_cases hb : σ 18 (10 * i + j) = -1
    · by_cases hd : σ 19 (10 * i + j) = -1
      · rw [← blkN_skip (by rw [s6 j (by omega) hb hd]; simp only [ownF, hb, hd, if_true])] at i1
        simp (disch := omega) only [s69_9, s69_11, s69_14, s69_15, s69_17, s69_18, s69_19, s69_20, s69_22, s69_23, s69_26, s69_28, s69_29, s69_30, s69_33, s69_34, s69_37, s69_39, s69_40, s69_41, s69_44, s69_45, s69_48, s69_50, s69_51, s69_52, s69_55, s69_56, s69_59, s69_61, s69_62, s69_65, s69_66, s69_69, s69_71, s69_72, s69_73, s69_74, s69_76, s69_77, s69_80, s69_82, s69_83, s69_85, s69_86, s69_89, s69_90, s69_91, s69_94, s69_95, s69_98, s69_99, s69_102, c10, c100, c6, eq_self, bnd_l, bnd_r, Option.toList_some, Option.toList_none, List.cons_append, List.nil_append, Nat.add_zero, Nat.zero_add, ↓reduceIte, nI_add, nI_mul, nI_subI, lt_t, lt_f, eq_f, lt_m1, m1_lt, eq_m1, m1_eq, sA_ne, hb, hd]
        exact i1 _ _
      · have hst1 := hst (s5 j (by omega) (Or.inr hd))
        simp (disch := omega) only [s69_9, s69_11, s69_14, s69_15, s69_17, s69_18, s69_19, s69_20, s69_22, s69_23, s69_26, s69_28, s69_29, s69_30, s69_33, s69_34, s69_37, s69_39, s69_40, s69_41, s69_44, s69_45, s69_48, s69_50, s69_51, s69_52, s69_55, s69_56, s69_59, s69_61, s69_62, s69_65, s69_66, s69_69, s69_71, s69_72, s69_73, s69_74, s69_76, s69_77, s69_80, s69_82, s69_83, s69_85, s69_86, s69_89, s69_90, s69_91, s69_94, s69_95, s69_98, s69_99, s69_102, c10, c100, c6, eq_self, bnd_l, bnd_r, Option.toList_some, Option.toList_none, List.cons_append, List.nil_append, Nat.add_zero, Nat.zero_add, ↓reduceIte, nI_add, nI_mul, nI_subI, lt_t, lt_f, eq_f, lt_m1, m1_lt, eq_m1, m1_eq, sA_ne, hb, hd, hst1, c_max, u2_sA, sA_eq]
        rw [blkN_s (by rw [max_z]; simp only [ownF, hb, hd, if_true, if_false])]
        exact i1 _ _
    · have hst1 := hst (s5 j (by omega) (Or.inl hb))
      simp (disch := omega) only [s69_9, s69_11, s69_14, s69_15, s69_17, s69_18, s69_19, s69_20, s69_22, s69_23, s69_26, s69_28, s69_29, s69_30, s69_33, s69_34, s69_37, s69_39, s69_40, s69_41, s69_44, s69_45, s69_48, s69_50, s69_51, s69_52, s69_55, s69_56, s69_59, s69_61, s69_62, s69_65, s69_66, s69_69, s69_71, s69_72, s69_73, s69_74, s69_76, s69_77, s69_80, s69_82, s69_83, s69_85, s69_86, s69_89, s69_90, s69_91, s69_94, s69_95, s69_98, s69_99, s69_102, c10, c100, c6, eq_self, bnd_l, bnd_r, Option.toList_some, Option.toList_none, List.cons_append, List.nil_append, Nat.add_zero, Nat.zero_add, ↓reduceIte, nI_add, nI_mul, nI_subI, lt_t, lt_f, eq_f, lt_m1, m1_lt, eq_m1, m1_eq, sA_ne, hb, hst1, c_max, u2_sA, sA_eq]
      rw [blkN_s (by rw [max_z]; simp only [ownF, hb, if_false])]
      exact i1 _ _
theorem k_ownTimes {i : Nat} (hA : IA σ N) (hS : SG σ N i) : exC X 69 [.ref 17, .int (nI i)] (WW σ t) = ansV (WW (sA σ 22 (blkN i 10 (ownC σ i) (σ 22))) t) := by
  have hN := hA.1
  have i1 := k_beamLead (X := X) (t := t) (by have := hS.1; omega) hS.2.2.2.1
  rw [ent_69]
  have hL := l_ownTimes (X := X) (t := t) hA hS rfl 10 0 (by omega) none none
  rw [blkN_0, sA_self] at hL
  simp (disch := omega) only [s69_0, s69_1, s69_2, s69_5, s69_6, s69_7, c10, c100, c6, eq_self, bnd_l, bnd_r, Option.toList_some, Option.toList_none, List.cons_append, List.nil_append, Nat.add_zero, Nat.zero_add, ↓reduceIte, nI_add, nI_mul, nI_subI, lt_t, lt_f, eq_f, lt_m1, m1_lt, eq_m1, m1_eq, i1]
  exact hL
end CMP3
