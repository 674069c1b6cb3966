/-! CONSTRUCTORS: a heap h0, behind it what is being made -/
section INI
variable {X : rX} {M pc : Nat} {cc : ByteArray} {ls : rL} {st : List Value} {h h0 l : rH} {k s : Nat}
theorem bnd_of {q : Option rR} {v : Option Value} {h : rH} {k s : Nat} {f : Option Value → rH → Nat → Nat → Option rR} {g : Nat → rH → Nat → Nat → Option rR} (e : q = some (.inl v, h, k, s)) : bnd q f g = f v h k s := by rw [e]; rfl
theorem lk_app {j : Nat} {e : rE} (hj : l[j]? = some e) (hb : h0.length + l.length ≤ 99999) : lk (h0 ++ l) (h0.length + j) = some e := by
  have h1 := (List.getElem?_eq_some_iff.mp hj).1
  unfold lk
  rw [if_pos (by omega), List.getElem?_append_right (by omega), show h0.length + j - h0.length = j by omega, hj]
theorem set_app {j : Nat} {e : rE} : (h0 ++ l).set (h0.length + j) e = h0 ++ l.set j e := by
  rw [List.set_append_right (by omega), show h0.length + j - h0.length = j by omega]
theorem x_newoA {ix ci : Nat} (hm : mb M = cc) (hd : decode cc pc = .ok (.new ix, 3)) (hc : asc clsT (ow M) ix = some ci) (hl : h0.length + l.length < 99999) : exM X M pc ls st (h0 ++ l) k s = exM X M (pc + 3) ls (.ref (h0.length + l.length) :: st) (h0 ++ (l ++ [.inr (ci, dfl ci)])) (k + 1) (s + (clC ci).2.2) := by
  rw [x_newo hm hd hc (by rw [List.length_append]; exact hl), List.length_append, List.append_assoc]
theorem x_newaA0 {n : Nat} (hm : mb M = cc) (hd : decode cc pc = .ok (.newarray .int, 2)) (hn : n < 1000000) (hl : h0.length + l.length < 99999) : exM X M pc ls (.int (nI n) :: st) (h0 ++ l) k s = exM X M (pc + 2) ls (.ref (h0.length + l.length) :: st) (h0 ++ (l ++ [.inl (0, n, .inl fun _ => 0)])) (k + 1) (s + n) := by
  rw [x_newa0 hm hd hn (by rw [List.length_append]; exact hl), List.length_append, List.append_assoc]
theorem x_newaA1 {n : Nat} (hm : mb M = cc) (hd : decode cc pc = .ok (.newarray .boolean, 2)) (hn : n < 1000000) (hl : h0.length + l.length < 99999) : exM X M pc ls (.int (nI n) :: st) (h0 ++ l) k s = exM X M (pc + 2) ls (.ref (h0.length + l.length) :: st) (h0 ++ (l ++ [.inl (1, n, .inl fun _ => 0)])) (k + 1) (s + n) := by
  rw [x_newa1 hm hd hn (by rw [List.length_append]; exact hl), List.length_append, List.append_assoc]
theorem x_putA {ix ci kf j : Nat} {fs : List Value} {v : Value} (hm : mb M = cc) (hd : decode cc pc = .ok (.putfield ix, 3)) (hf : asc fldT (ow M) ix = some (ci, kf, false)) (hj : l[j]? = some (.inr (ci, fs))) (hb : h0.length + l.length ≤ 99999) (hl : kf < fs.length) (ht : fits (tyC ci kf) v = true ∧ narrow (tyC ci kf) v = v) (hfin : ((clC ci).2.1 kf).2.2.2 = true → (my M).name = "<init>" ∧ ((clC ci).2.1 kf).1 = rn (ow M)) : exM X M pc ls (v :: .ref (h0.length + j) :: st) (h0 ++ l) k s = exM X M (pc + 3) ls st (h0 ++ l.set j (.inr (ci, fs.set kf v))) k s :=
  x_putf hm hd hf (lk_app hj hb) hl ht hfin set_app
theorem x_getA {ix ci kf j : Nat} {ne : Bool} {fs : List Value} {v : Value} (hm : mb M = cc) (hd : decode cc pc = .ok (.getfield ix, 3)) (hf : asc fldT (ow M) ix = some (ci, kf, ne)) (hj : l[j]? = some (.inr (ci, fs))) (hb : h0.length + l.length ≤ 99999) (hv : fs[kf]? = some v) : exM X M pc ls (.ref (h0.length + j) :: st) (h0 ++ l) k s = exM X M (pc + 3) ls (v :: st) (h0 ++ l) k s :=
  x_getf hm hd hf (lk_app hj hb) hv
/-- a row filled -/
theorem lk_set {p : Nat} {e e' : rE} (hp : lk h p = some e) : lk (h.set p e') p = some e' := by
  unfold lk at hp ⊢
  split at hp
  · rename_i h1
    rw [if_pos h1, List.getElem?_set_self (List.getElem?_eq_some_iff.mp hp).1]
  · cases hp
theorem c_fill {p n : Nat} {v : Int32} {f : Nat → Int32} (hp : lk h p = some (.inl (0, n, .inl f))) (hn : n < 2 ^ 31) : exC X 176 [.ref p, .int v] h = ansV (h.set p (.inl (0, n, .inl (ltF n (fun _ => v) f)))) := by
  have L : ∀ m j, j + m = n → exM X 176 5 [some (.ref p), some (.int v), some (.int (nI j)), some (.int (nI n))] [] (h.set p (.inl (0, n, .inl (ltF j (fun _ => v) f)))) 0 0 = ansV (h.set p (.inl (0, n, .inl (ltF n (fun _ => v) f)))) := by
    intro m
    induction m with
    | zero =>
      intro j hj
      obtain rfl : j = n := by omega
      simp (disch := omega) only [s176_0, s176_1, s176_2, s176_3, s176_4, s176_5, s176_6, s176_7, s176_10, s176_11, s176_12, s176_13, s176_14, s176_17, s176_20, c10, c100, c6, eq_self, bnd_l, bnd_r, Option.toList_some, Option.toList_none, List.cons_append, List.nil_append, Nat.add_zero, Nat.zero_add, ↓reduceIte, nI_add, nI_mul, nI_subI, lt_t, lt_f, eq_f, lt_m1, m1_lt, eq_m1, m1_eq]
    | succ m ih =>
      intro j hj
      have e1 := s176_13 (X := X) (k := 0) (s := 0) (ls := [some (.ref p), some (.int v), some (.int (nI j)), some (.int (nI n))]) (st := []) (x := v) (lk_set (e' := .inl (0, n, .inl (ltF j (fun _ => v) f))) hp) (show j < n by omega) hn
      rw [List.set_set, show upd (ltF j (fun _ => v) f) j v = ltF (j + 1) (fun _ => v) f from upd_ltF' rfl] at e1
      have e2 := ih (j + 1) (by omega)
      simp (disch := omega) only [s176_0, s176_1, s176_2, s176_3, s176_4, s176_5, s176_6, s176_7, s176_10, s176_11, s176_12, s176_14, s176_17, s176_20, c10, c100, c6, eq_self, bnd_l, bnd_r, Option.toList_some, Option.toList_none, List.cons_append, List.nil_append, Nat.add_zero, Nat.zero_add, ↓reduceIte, nI_add, nI_mul, nI_subI, lt_t, lt_f, eq_f, lt_m1, m1_lt, eq_m1, m1_eq, e1, e2]
  rw [ent_176]
  have e0 := L n 0 (by omega)
  have e1 : h.set p (.inl (0, n, .inl (ltF 0 (fun _ => v) f))) = h := by
    rw [ltF_0]
    unfold lk at hp
    split at hp
    · apply List.ext_getElem?
      intro i
      by_cases hi : p = i
      · subst hi
        rw [List.getElem?_set_self (List.getElem?_eq_some_iff.mp hp).1, hp]
      · rw [List.getElem?_set_ne hi]
    · cases hp
  rw [e1] at e0
  have e3 := fun ls st k s => s176_3 (X := X) (ls := ls) (st := st) (k := k) (s := s) hp
  simp (disch := omega) only [s176_0, s176_1, s176_2, s176_4, s176_5, s176_6, s176_7, s176_10, s176_11, s176_12, s176_13, s176_14, s176_17, s176_20, c10, c100, c6, eq_self, bnd_l, bnd_r, Option.toList_some, Option.toList_none, List.cons_append, List.nil_append, Nat.add_zero, Nat.zero_add, ↓reduceIte, nI_add, nI_mul, nI_subI, lt_t, lt_f, eq_f, lt_m1, m1_lt, eq_m1, m1_eq, e3, e0]
theorem c_fillA {n j : Nat} {v : Int32} {f : Nat → Int32} (hj : l[j]? = some (.inl (0, n, .inl f))) (hb : h0.length + l.length ≤ 99999) (hn : n < 2 ^ 31) : exC X 176 [.ref (h0.length + j), .int v] (h0 ++ l) = ansV (h0 ++ l.set j (.inl (0, n, .inl (ltF n (fun _ => v) f)))) := by
  rw [c_fill (lk_app hj hb) hn, set_app]
end INI
set_option maxRecDepth 100000 in
set_option maxHeartbeats 4000000 in
theorem ci_18 {X : rX} {h0 : rH} (hb : h0.length + 40 ≤ 99999) : exC X 18 [.ref (h0.length + 0)] (h0 ++ [.inr (1, [.null, .null, .null, .int 0])]) = some (.inl (none), h0 ++ [.inr (1, [.ref (h0.length + 1), .ref (h0.length + 2), .ref (h0.length + 3), .int 0]), .inl (0, 20, .inl fun _ => 0), .inl (0, 20, .inl fun _ => 0), .inl (0, 20, .inl fun _ => 0)], 3, 60) := by
  rw [ent_18]
  refine (s18_0).trans ?_
  refine (s18_1).trans ?_
  refine (s18_4).trans ?_
  refine (s18_5).trans ?_
  refine (x_newaA0 (n := 20) mb_18 dX1_init_7 (Nat.le_of_ble_eq_true rfl) (show h0.length + 1 < 99999 by omega)).trans ?_
  refine (x_putA (j := 0) mb_18 dX1_init_9 rfl rfl (show h0.length + 2 ≤ 99999 by omega) (Nat.le_of_ble_eq_true rfl) ⟨rfl, rfl⟩ (by decide +kernel)).trans ?_
  refine (s18_12).trans ?_
  refine (s18_13).trans ?_
  refine (x_newaA0 (n := 20) mb_18 dX1_init_15 (Nat.le_of_ble_eq_true rfl) (show h0.length + 2 < 99999 by omega)).trans ?_
  refine (x_putA (j := 0) mb_18 dX1_init_17 rfl rfl (show h0.length + 3 ≤ 99999 by omega) (Nat.le_of_ble_eq_true rfl) ⟨rfl, rfl⟩ (by decide +kernel)).trans ?_
  refine (s18_20).trans ?_
  refine (s18_21).trans ?_
  refine (x_newaA0 (n := 20) mb_18 dX1_init_23 (Nat.le_of_ble_eq_true rfl) (show h0.length + 3 < 99999 by omega)).trans ?_
  refine (x_putA (j := 0) mb_18 dX1_init_25 rfl rfl (show h0.length + 4 ≤ 99999 by omega) (Nat.le_of_ble_eq_true rfl) ⟨rfl, rfl⟩ (by decide +kernel)).trans ?_
  exact s18_28
set_option maxRecDepth 100000 in
set_option maxHeartbeats 4000000 in
theorem ci_28 {X : rX} {h0 : rH} (hb : h0.length + 40 ≤ 99999) : exC X 28 [.ref (h0.length + 4)] (h0 ++ [.inr (1, [.ref (h0.length + 1), .ref (h0.length + 2), .ref (h0.length + 3), .int 0]), .inl (0, 20, .inl fun _ => 0), .inl (0, 20, .inl fun _ => 0), .inl (0, 20, .inl fun _ => 0), .inr (2, [.null, .null])]) = some (.inl (none), h0 ++ [.inr (1, [.ref (h0.length + 1), .ref (h0.length + 2), .ref (h0.length + 3), .int 0]), .inl (0, 20, .inl fun _ => 0), .inl (0, 20, .inl fun _ => 0), .inl (0, 20, .inl fun _ => 0), .inr (2, [.ref (h0.length + 5), .ref (h0.length + 6)]), .inl (0, 200, .inl fun _ => 0), .inl (0, 20, .inl (ltF 20 (fun _ => -1) fun _ => 0))], 2, 220) := by
  rw [ent_28]
  refine (s28_0).trans ?_
  refine (s28_1).trans ?_
  refine (s28_4).trans ?_
  refine (s28_5).trans ?_
  refine (x_newaA0 (n := 200) mb_28 dX2_init_8 (Nat.le_of_ble_eq_true rfl) (show h0.length + 5 < 99999 by omega)).trans ?_
  refine (x_putA (j := 4) mb_28 dX2_init_10 rfl rfl (show h0.length + 6 ≤ 99999 by omega) (Nat.le_of_ble_eq_true rfl) ⟨rfl, rfl⟩ (by decide +kernel)).trans ?_
  refine (s28_13).trans ?_
  refine (s28_14).trans ?_
  refine (x_newaA0 (n := 20) mb_28 dX2_init_16 (Nat.le_of_ble_eq_true rfl) (show h0.length + 6 < 99999 by omega)).trans ?_
  refine (x_putA (j := 4) mb_28 dX2_init_18 rfl rfl (show h0.length + 7 ≤ 99999 by omega) (Nat.le_of_ble_eq_true rfl) ⟨rfl, rfl⟩ (by decide +kernel)).trans ?_
  refine (s28_21).trans ?_
  refine (x_getA (j := 4) mb_28 dX2_init_22 rfl rfl (show h0.length + 7 ≤ 99999 by omega) rfl).trans ?_
  refine (s28_25).trans ?_
  refine (s28_26).trans ?_
  refine (bnd_of (c_fillA (j := 6) (v := -1) rfl (show h0.length + 7 ≤ 99999 by omega) (Nat.le_of_ble_eq_true rfl))).trans ?_
  exact s28_29
set_option maxRecDepth 100000 in
set_option maxHeartbeats 4000000 in
theorem ci_0 {X : rX} {h0 : rH} (hb : h0.length + 40 ≤ 99999) : exC X 0 [.ref (h0.length + 7), .ref (h0.length + 0), .ref (h0.length + 4)] (h0 ++ [.inr (1, [.ref (h0.length + 1), .ref (h0.length + 2), .ref (h0.length + 3), .int 0]), .inl (0, 20, .inl fun _ => 0), .inl (0, 20, .inl fun _ => 0), .inl (0, 20, .inl fun _ => 0), .inr (2, [.ref (h0.length + 5), .ref (h0.length + 6)]), .inl (0, 200, .inl fun _ => 0), .inl (0, 20, .inl (ltF 20 (fun _ => -1) fun _ => 0)), .inr (0, [.null, .null, .null, .null, .null, .null, .null, .null])]) = some (.inl (none), h0 ++ [.inr (1, [.ref (h0.length + 1), .ref (h0.length + 2), .ref (h0.length + 3), .int 0]), .inl (0, 20, .inl fun _ => 0), .inl (0, 20, .inl fun _ => 0), .inl (0, 20, .inl fun _ => 0), .inr (2, [.ref (h0.length + 5), .ref (h0.length + 6)]), .inl (0, 200, .inl fun _ => 0), .inl (0, 20, .inl (ltF 20 (fun _ => -1) fun _ => 0)), .inr (0, [.ref (h0.length + 0), .ref (h0.length + 4), .ref (h0.length + 8), .ref (h0.length + 9), .ref (h0.length + 10), .ref (h0.length + 11), .ref (h0.length + 12), .ref (h0.length + 13)]), .inl (0, 200, .inl (ltF 200 (fun _ => -1) fun _ => 0)), .inl (0, 200, .inl fun _ => 0), .inl (0, 10, .inl fun _ => 0), .inl (0, 10, .inl fun _ => 0), .inl (1, 10, .inl fun _ => 0), .inl (1, 10, .inl fun _ => 0)], 6, 440) := by
  rw [ent_0]
  refine (s0_0).trans ?_
  refine (s0_1).trans ?_
  refine (s0_4).trans ?_
  refine (s0_5).trans ?_
  refine (x_newaA0 (n := 200) mb_0 dX0_init_8 (Nat.le_of_ble_eq_true rfl) (show h0.length + 8 < 99999 by omega)).trans ?_
  refine (x_putA (j := 7) mb_0 dX0_init_10 rfl rfl (show h0.length + 9 ≤ 99999 by omega) (Nat.le_of_ble_eq_true rfl) ⟨rfl, rfl⟩ (by decide +kernel)).trans ?_
  refine (s0_13).trans ?_
  refine (s0_14).trans ?_
  refine (x_newaA0 (n := 200) mb_0 dX0_init_17 (Nat.le_of_ble_eq_true rfl) (show h0.length + 9 < 99999 by omega)).trans ?_
  refine (x_putA (j := 7) mb_0 dX0_init_19 rfl rfl (show h0.length + 10 ≤ 99999 by omega) (Nat.le_of_ble_eq_true rfl) ⟨rfl, rfl⟩ (by decide +kernel)).trans ?_
  refine (s0_22).trans ?_
  refine (s0_23).trans ?_
  refine (x_newaA0 (n := 10) mb_0 dX0_init_25 (Nat.le_of_ble_eq_true rfl) (show h0.length + 10 < 99999 by omega)).trans ?_
  refine (x_putA (j := 7) mb_0 dX0_init_27 rfl rfl (show h0.length + 11 ≤ 99999 by omega) (Nat.le_of_ble_eq_true rfl) ⟨rfl, rfl⟩ (by decide +kernel)).trans ?_
  refine (s0_30).trans ?_
  refine (s0_31).trans ?_
  refine (x_newaA0 (n := 10) mb_0 dX0_init_33 (Nat.le_of_ble_eq_true rfl) (show h0.length + 11 < 99999 by omega)).trans ?_
  refine (x_putA (j := 7) mb_0 dX0_init_35 rfl rfl (show h0.length + 12 ≤ 99999 by omega) (Nat.le_of_ble_eq_true rfl) ⟨rfl, rfl⟩ (by decide +kernel)).trans ?_
  refine (s0_38).trans ?_
  refine (s0_39).trans ?_
  refine (x_newaA1 (n := 10) mb_0 dX0_init_41 (Nat.le_of_ble_eq_true rfl) (show h0.length + 12 < 99999 by omega)).trans ?_
  refine (x_putA (j := 7) mb_0 dX0_init_43 rfl rfl (show h0.length + 13 ≤ 99999 by omega) (Nat.le_of_ble_eq_true rfl) ⟨rfl, rfl⟩ (by decide +kernel)).trans ?_
  refine (s0_46).trans ?_
  refine (s0_47).trans ?_
  refine (x_newaA1 (n := 10) mb_0 dX0_init_49 (Nat.le_of_ble_eq_true rfl) (show h0.length + 13 < 99999 by omega)).trans ?_
  refine (x_putA (j := 7) mb_0 dX0_init_51 rfl rfl (show h0.length + 14 ≤ 99999 by omega) (Nat.le_of_ble_eq_true rfl) ⟨rfl, rfl⟩ (by decide +kernel)).trans ?_
  refine (s0_54).trans ?_
  refine (s0_55).trans ?_
  refine (x_putA (j := 7) mb_0 dX0_init_56 rfl rfl (show h0.length + 14 ≤ 99999 by omega) (Nat.le_of_ble_eq_true rfl) ⟨rfl, rfl⟩ (by decide +kernel)).trans ?_
  refine (s0_59).trans ?_
  refine (s0_60).trans ?_
  refine (x_putA (j := 7) mb_0 dX0_init_61 rfl rfl (show h0.length + 14 ≤ 99999 by omega) (Nat.le_of_ble_eq_true rfl) ⟨rfl, rfl⟩ (by decide +kernel)).trans ?_
  refine (s0_64).trans ?_
  refine (x_getA (j := 7) mb_0 dX0_init_65 rfl rfl (show h0.length + 14 ≤ 99999 by omega) rfl).trans ?_
  refine (s0_68).trans ?_
  refine (s0_69).trans ?_
  refine (bnd_of (c_fillA (j := 8) (v := -1) rfl (show h0.length + 14 ≤ 99999 by omega) (Nat.le_of_ble_eq_true rfl))).trans ?_
  exact s0_72
set_option maxRecDepth 100000 in
set_option maxHeartbeats 4000000 in
theorem ci_59 {X : rX} {h0 : rH} (hb : h0.length + 40 ≤ 99999) : exC X 59 [.ref (h0.length + 14), .ref (h0.length + 0), .ref (h0.length + 4), .ref (h0.length + 7)] (h0 ++ [.inr (1, [.ref (h0.length + 1), .ref (h0.length + 2), .ref (h0.length + 3), .int 0]), .inl (0, 20, .inl fun _ => 0), .inl (0, 20, .inl fun _ => 0), .inl (0, 20, .inl fun _ => 0), .inr (2, [.ref (h0.length + 5), .ref (h0.length + 6)]), .inl (0, 200, .inl fun _ => 0), .inl (0, 20, .inl (ltF 20 (fun _ => -1) fun _ => 0)), .inr (0, [.ref (h0.length + 0), .ref (h0.length + 4), .ref (h0.length + 8), .ref (h0.length + 9), .ref (h0.length + 10), .ref (h0.length + 11), .ref (h0.length + 12), .ref (h0.length + 13)]), .inl (0, 200, .inl (ltF 200 (fun _ => -1) fun _ => 0)), .inl (0, 200, .inl fun _ => 0), .inl (0, 10, .inl fun _ => 0), .inl (0, 10, .inl fun _ => 0), .inl (1, 10, .inl fun _ => 0), .inl (1, 10, .inl fun _ => 0), .inr (6, [.null, .null, .null, .null, .null, .null, .null, .null, .null, .null])]) = some (.inl (none), h0 ++ [.inr (1, [.ref (h0.length + 1), .ref (h0.length + 2), .ref (h0.length + 3), .int 0]), .inl (0, 20, .inl fun _ => 0), .inl (0, 20, .inl fun _ => 0), .inl (0, 20, .inl fun _ => 0), .inr (2, [.ref (h0.length + 5), .ref (h0.length + 6)]), .inl (0, 200, .inl fun _ => 0), .inl (0, 20, .inl (ltF 20 (fun _ => -1) fun _ => 0)), .inr (0, [.ref (h0.length + 0), .ref (h0.length + 4), .ref (h0.length + 8), .ref (h0.length + 9), .ref (h0.length + 10), .ref (h0.length + 11), .ref (h0.length + 12), .ref (h0.length + 13)]), .inl (0, 200, .inl (ltF 200 (fun _ => -1) fun _ => 0)), .inl (0, 200, .inl fun _ => 0), .inl (0, 10, .inl fun _ => 0), .inl (0, 10, .inl fun _ => 0), .inl (1, 10, .inl fun _ => 0), .inl (1, 10, .inl fun _ => 0), .inr (6, [.ref (h0.length + 0), .ref (h0.length + 4), .ref (h0.length + 7), .ref (h0.length + 15), .ref (h0.length + 16), .ref (h0.length + 17), .ref (h0.length + 18), .ref (h0.length + 19), .ref (h0.length + 20), .ref (h0.length + 21)]), .inl (0, 200, .inl (ltF 200 (fun _ => -1) fun _ => 0)), .inl (0, 200, .inl (ltF 200 (fun _ => -1) fun _ => 0)), .inl (0, 200, .inl (ltF 200 (fun _ => -1) fun _ => 0)), .inl (1, 200, .inl fun _ => 0), .inl (0, 200, .inl (ltF 200 (fun _ => -1) fun _ => 0)), .inl (0, 200, .inl (ltF 200 (fun _ => -1) fun _ => 0)), .inl (0, 20, .inl (ltF 20 (fun _ => -1) fun _ => 0))], 7, 1220) := by
  rw [ent_59]
  refine (s59_0).trans ?_
  refine (s59_1).trans ?_
  refine (s59_4).trans ?_
  refine (s59_5).trans ?_
  refine (x_newaA0 (n := 200) mb_59 dX6_init_8 (Nat.le_of_ble_eq_true rfl) (show h0.length + 15 < 99999 by omega)).trans ?_
  refine (x_putA (j := 14) mb_59 dX6_init_10 rfl rfl (show h0.length + 16 ≤ 99999 by omega) (Nat.le_of_ble_eq_true rfl) ⟨rfl, rfl⟩ (by decide +kernel)).trans ?_
  refine (s59_13).trans ?_
  refine (s59_14).trans ?_
  refine (x_newaA0 (n := 200) mb_59 dX6_init_17 (Nat.le_of_ble_eq_true rfl) (show h0.length + 16 < 99999 by omega)).trans ?_
  refine (x_putA (j := 14) mb_59 dX6_init_19 rfl rfl (show h0.length + 17 ≤ 99999 by omega) (Nat.le_of_ble_eq_true rfl) ⟨rfl, rfl⟩ (by decide +kernel)).trans ?_
  refine (s59_22).trans ?_
  refine (s59_23).trans ?_
  refine (x_newaA0 (n := 200) mb_59 dX6_init_26 (Nat.le_of_ble_eq_true rfl) (show h0.length + 17 < 99999 by omega)).trans ?_
  refine (x_putA (j := 14) mb_59 dX6_init_28 rfl rfl (show h0.length + 18 ≤ 99999 by omega) (Nat.le_of_ble_eq_true rfl) ⟨rfl, rfl⟩ (by decide +kernel)).trans ?_
  refine (s59_31).trans ?_
  refine (s59_32).trans ?_
  refine (x_newaA1 (n := 200) mb_59 dX6_init_35 (Nat.le_of_ble_eq_true rfl) (show h0.length + 18 < 99999 by omega)).trans ?_
  refine (x_putA (j := 14) mb_59 dX6_init_37 rfl rfl (show h0.length + 19 ≤ 99999 by omega) (Nat.le_of_ble_eq_true rfl) ⟨rfl, rfl⟩ (by decide +kernel)).trans ?_
  refine (s59_40).trans ?_
  refine (s59_41).trans ?_
  refine (x_newaA0 (n := 200) mb_59 dX6_init_44 (Nat.le_of_ble_eq_true rfl) (show h0.length + 19 < 99999 by omega)).trans ?_
  refine (x_putA (j := 14) mb_59 dX6_init_46 rfl rfl (show h0.length + 20 ≤ 99999 by omega) (Nat.le_of_ble_eq_true rfl) ⟨rfl, rfl⟩ (by decide +kernel)).trans ?_
  refine (s59_49).trans ?_
  refine (s59_50).trans ?_
  refine (x_newaA0 (n := 200) mb_59 dX6_init_53 (Nat.le_of_ble_eq_true rfl) (show h0.length + 20 < 99999 by omega)).trans ?_
  refine (x_putA (j := 14) mb_59 dX6_init_55 rfl rfl (show h0.length + 21 ≤ 99999 by omega) (Nat.le_of_ble_eq_true rfl) ⟨rfl, rfl⟩ (by decide +kernel)).trans ?_
  refine (s59_58).trans ?_
  refine (s59_59).trans ?_
  refine (x_newaA0 (n := 20) mb_59 dX6_init_61 (Nat.le_of_ble_eq_true rfl) (show h0.length + 21 < 99999 by omega)).trans ?_
  refine (x_putA (j := 14) mb_59 dX6_init_63 rfl rfl (show h0.length + 22 ≤ 99999 by omega) (Nat.le_of_ble_eq_true rfl) ⟨rfl, rfl⟩ (by decide +kernel)).trans ?_
  refine (s59_66).trans ?_
  refine (s59_67).trans ?_
  refine (x_putA (j := 14) mb_59 dX6_init_68 rfl rfl (show h0.length + 22 ≤ 99999 by omega) (Nat.le_of_ble_eq_true rfl) ⟨rfl, rfl⟩ (by decide +kernel)).trans ?_
  refine (s59_71).trans ?_
  refine (s59_72).trans ?_
  refine (x_putA (j := 14) mb_59 dX6_init_73 rfl rfl (show h0.length + 22 ≤ 99999 by omega) (Nat.le_of_ble_eq_true rfl) ⟨rfl, rfl⟩ (by decide +kernel)).trans ?_
  refine (s59_76).trans ?_
  refine (s59_77).trans ?_
  refine (x_putA (j := 14) mb_59 dX6_init_78 rfl rfl (show h0.length + 22 ≤ 99999 by omega) (Nat.le_of_ble_eq_true rfl) ⟨rfl, rfl⟩ (by decide +kernel)).trans ?_
  refine (s59_81).trans ?_
  refine (x_getA (j := 14) mb_59 dX6_init_82 rfl rfl (show h0.length + 22 ≤ 99999 by omega) rfl).trans ?_
  refine (s59_85).trans ?_
  refine (s59_86).trans ?_
  refine (bnd_of (c_fillA (j := 15) (v := -1) rfl (show h0.length + 22 ≤ 99999 by omega) (Nat.le_of_ble_eq_true rfl))).trans ?_
  refine (s59_89).trans ?_
  refine (x_getA (j := 14) mb_59 dX6_init_90 rfl rfl (show h0.length + 22 ≤ 99999 by omega) rfl).trans ?_
  refine (s59_93).trans ?_
  refine (s59_94).trans ?_
  refine (bnd_of (c_fillA (j := 16) (v := -1) rfl (show h0.length + 22 ≤ 99999 by omega) (Nat.le_of_ble_eq_true rfl))).trans ?_
  refine (s59_97).trans ?_
  refine (x_getA (j := 14) mb_59 dX6_init_98 rfl rfl (show h0.length + 22 ≤ 99999 by omega) rfl).trans ?_
  refine (s59_101).trans ?_
  refine (s59_102).trans ?_
  refine (bnd_of (c_fillA (j := 17) (v := -1) rfl (show h0.length + 22 ≤ 99999 by omega) (Nat.le_of_ble_eq_true rfl))).trans ?_
  refine (s59_105).trans ?_
  refine (x_getA (j := 14) mb_59 dX6_init_106 rfl rfl (show h0.length + 22 ≤ 99999 by omega) rfl).trans ?_
  refine (s59_109).trans ?_
  refine (s59_110).trans ?_
  refine (bnd_of (c_fillA (j := 19) (v := -1) rfl (show h0.length + 22 ≤ 99999 by omega) (Nat.le_of_ble_eq_true rfl))).trans ?_
  refine (s59_113).trans ?_
  refine (x_getA (j := 14) mb_59 dX6_init_114 rfl rfl (show h0.length + 22 ≤ 99999 by omega) rfl).trans ?_
  refine (s59_117).trans ?_
  refine (s59_118).trans ?_
  refine (bnd_of (c_fillA (j := 20) (v := -1) rfl (show h0.length + 22 ≤ 99999 by omega) (Nat.le_of_ble_eq_true rfl))).trans ?_
  refine (s59_121).trans ?_
  refine (x_getA (j := 14) mb_59 dX6_init_122 rfl rfl (show h0.length + 22 ≤ 99999 by omega) rfl).trans ?_
  refine (s59_125).trans ?_
  refine (s59_126).trans ?_
  refine (bnd_of (c_fillA (j := 21) (v := -1) rfl (show h0.length + 22 ≤ 99999 by omega) (Nat.le_of_ble_eq_true rfl))).trans ?_
  exact s59_129
set_option maxRecDepth 100000 in
set_option maxHeartbeats 4000000 in
theorem ci_73 {X : rX} {h0 : rH} (hb : h0.length + 40 ≤ 99999) : exC X 73 [.ref (h0.length + 22)] (h0 ++ [.inr (1, [.ref (h0.length + 1), .ref (h0.length + 2), .ref (h0.length + 3), .int 0]), .inl (0, 20, .inl fun _ => 0), .inl (0, 20, .inl fun _ => 0), .inl (0, 20, .inl fun _ => 0), .inr (2, [.ref (h0.length + 5), .ref (h0.length + 6)]), .inl (0, 200, .inl fun _ => 0), .inl (0, 20, .inl (ltF 20 (fun _ => -1) fun _ => 0)), .inr (0, [.ref (h0.length + 0), .ref (h0.length + 4), .ref (h0.length + 8), .ref (h0.length + 9), .ref (h0.length + 10), .ref (h0.length + 11), .ref (h0.length + 12), .ref (h0.length + 13)]), .inl (0, 200, .inl (ltF 200 (fun _ => -1) fun _ => 0)), .inl (0, 200, .inl fun _ => 0), .inl (0, 10, .inl fun _ => 0), .inl (0, 10, .inl fun _ => 0), .inl (1, 10, .inl fun _ => 0), .inl (1, 10, .inl fun _ => 0), .inr (6, [.ref (h0.length + 0), .ref (h0.length + 4), .ref (h0.length + 7), .ref (h0.length + 15), .ref (h0.length + 16), .ref (h0.length + 17), .ref (h0.length + 18), .ref (h0.length + 19), .ref (h0.length + 20), .ref (h0.length + 21)]), .inl (0, 200, .inl (ltF 200 (fun _ => -1) fun _ => 0)), .inl (0, 200, .inl (ltF 200 (fun _ => -1) fun _ => 0)), .inl (0, 200, .inl (ltF 200 (fun _ => -1) fun _ => 0)), .inl (1, 200, .inl fun _ => 0), .inl (0, 200, .inl (ltF 200 (fun _ => -1) fun _ => 0)), .inl (0, 200, .inl (ltF 200 (fun _ => -1) fun _ => 0)), .inl (0, 20, .inl (ltF 20 (fun _ => -1) fun _ => 0)), .inr (7, [.null, .null, .null, .null])]) = some (.inl (none), h0 ++ [.inr (1, [.ref (h0.length + 1), .ref (h0.length + 2), .ref (h0.length + 3), .int 0]), .inl (0, 20, .inl fun _ => 0), .inl (0, 20, .inl fun _ => 0), .inl (0, 20, .inl fun _ => 0), .inr (2, [.ref (h0.length + 5), .ref (h0.length + 6)]), .inl (0, 200, .inl fun _ => 0), .inl (0, 20, .inl (ltF 20 (fun _ => -1) fun _ => 0)), .inr (0, [.ref (h0.length + 0), .ref (h0.length + 4), .ref (h0.length + 8), .ref (h0.length + 9), .ref (h0.length + 10), .ref (h0.length + 11), .ref (h0.length + 12), .ref (h0.length + 13)]), .inl (0, 200, .inl (ltF 200 (fun _ => -1) fun _ => 0)), .inl (0, 200, .inl fun _ => 0), .inl (0, 10, .inl fun _ => 0), .inl (0, 10, .inl fun _ => 0), .inl (1, 10, .inl fun _ => 0), .inl (1, 10, .inl fun _ => 0), .inr (6, [.ref (h0.length + 0), .ref (h0.length + 4), .ref (h0.length + 7), .ref (h0.length + 15), .ref (h0.length + 16), .ref (h0.length + 17), .ref (h0.length + 18), .ref (h0.length + 19), .ref (h0.length + 20), .ref (h0.length + 21)]), .inl (0, 200, .inl (ltF 200 (fun _ => -1) fun _ => 0)), .inl (0, 200, .inl (ltF 200 (fun _ => -1) fun _ => 0)), .inl (0, 200, .inl (ltF 200 (fun _ => -1) fun _ => 0)), .inl (1, 200, .inl fun _ => 0), .inl (0, 200, .inl (ltF 200 (fun _ => -1) fun _ => 0)), .inl (0, 200, .inl (ltF 200 (fun _ => -1) fun _ => 0)), .inl (0, 20, .inl (ltF 20 (fun _ => -1) fun _ => 0)), .inr (7, [.ref (h0.length + 23), .ref (h0.length + 24), .ref (h0.length + 25), .ref (h0.length + 26)]), .inl (1, 1000, .inl fun _ => 0), .inl (1, 1000, .inl fun _ => 0), .inl (0, 10, .inl fun _ => 0), .inl (0, 10, .inl fun _ => 0)], 4, 2020) := by
  rw [ent_73]
  refine (s73_0).trans ?_
  refine (s73_1).trans ?_
  refine (s73_4).trans ?_
  refine (s73_5).trans ?_
  refine (x_newaA1 (n := 1000) mb_73 dX7_init_8 (Nat.le_of_ble_eq_true rfl) (show h0.length + 23 < 99999 by omega)).trans ?_
  refine (x_putA (j := 22) mb_73 dX7_init_10 rfl rfl (show h0.length + 24 ≤ 99999 by omega) (Nat.le_of_ble_eq_true rfl) ⟨rfl, rfl⟩ (by decide +kernel)).trans ?_
  refine (s73_13).trans ?_
  refine (s73_14).trans ?_
  refine (x_newaA1 (n := 1000) mb_73 dX7_init_17 (Nat.le_of_ble_eq_true rfl) (show h0.length + 24 < 99999 by omega)).trans ?_
  refine (x_putA (j := 22) mb_73 dX7_init_19 rfl rfl (show h0.length + 25 ≤ 99999 by omega) (Nat.le_of_ble_eq_true rfl) ⟨rfl, rfl⟩ (by decide +kernel)).trans ?_
  refine (s73_22).trans ?_
  refine (s73_23).trans ?_
  refine (x_newaA0 (n := 10) mb_73 dX7_init_25 (Nat.le_of_ble_eq_true rfl) (show h0.length + 25 < 99999 by omega)).trans ?_
  refine (x_putA (j := 22) mb_73 dX7_init_27 rfl rfl (show h0.length + 26 ≤ 99999 by omega) (Nat.le_of_ble_eq_true rfl) ⟨rfl, rfl⟩ (by decide +kernel)).trans ?_
  refine (s73_30).trans ?_
  refine (s73_31).trans ?_
  refine (x_newaA0 (n := 10) mb_73 dX7_init_33 (Nat.le_of_ble_eq_true rfl) (show h0.length + 26 < 99999 by omega)).trans ?_
  refine (x_putA (j := 22) mb_73 dX7_init_35 rfl rfl (show h0.length + 27 ≤ 99999 by omega) (Nat.le_of_ble_eq_true rfl) ⟨rfl, rfl⟩ (by decide +kernel)).trans ?_
  exact s73_38
set_option maxRecDepth 100000 in
set_option maxHeartbeats 4000000 in
theorem ci_43 {X : rX} {h0 : rH} (hb : h0.length + 40 ≤ 99999) : exC X 43 [.ref (h0.length + 28), .ref (h0.length + 7), .ref (h0.length + 14), .ref (h0.length + 22)] (h0 ++ [.inr (1, [.ref (h0.length + 1), .ref (h0.length + 2), .ref (h0.length + 3), .int 0]), .inl (0, 20, .inl fun _ => 0), .inl (0, 20, .inl fun _ => 0), .inl (0, 20, .inl fun _ => 0), .inr (2, [.ref (h0.length + 5), .ref (h0.length + 6)]), .inl (0, 200, .inl fun _ => 0), .inl (0, 20, .inl (ltF 20 (fun _ => -1) fun _ => 0)), .inr (0, [.ref (h0.length + 0), .ref (h0.length + 4), .ref (h0.length + 8), .ref (h0.length + 9), .ref (h0.length + 10), .ref (h0.length + 11), .ref (h0.length + 12), .ref (h0.length + 13)]), .inl (0, 200, .inl (ltF 200 (fun _ => -1) fun _ => 0)), .inl (0, 200, .inl fun _ => 0), .inl (0, 10, .inl fun _ => 0), .inl (0, 10, .inl fun _ => 0), .inl (1, 10, .inl fun _ => 0), .inl (1, 10, .inl fun _ => 0), .inr (6, [.ref (h0.length + 0), .ref (h0.length + 4), .ref (h0.length + 7), .ref (h0.length + 15), .ref (h0.length + 16), .ref (h0.length + 17), .ref (h0.length + 18), .ref (h0.length + 19), .ref (h0.length + 20), .ref (h0.length + 21)]), .inl (0, 200, .inl (ltF 200 (fun _ => -1) fun _ => 0)), .inl (0, 200, .inl (ltF 200 (fun _ => -1) fun _ => 0)), .inl (0, 200, .inl (ltF 200 (fun _ => -1) fun _ => 0)), .inl (1, 200, .inl fun _ => 0), .inl (0, 200, .inl (ltF 200 (fun _ => -1) fun _ => 0)), .inl (0, 200, .inl (ltF 200 (fun _ => -1) fun _ => 0)), .inl (0, 20, .inl (ltF 20 (fun _ => -1) fun _ => 0)), .inr (7, [.ref (h0.length + 23), .ref (h0.length + 24), .ref (h0.length + 25), .ref (h0.length + 26)]), .inl (1, 1000, .inl fun _ => 0), .inl (1, 1000, .inl fun _ => 0), .inl (0, 10, .inl fun _ => 0), .inl (0, 10, .inl fun _ => 0), .inr (3, [.null, .null, .null, .null, .null, .null]), .inr (4, [.null, .null, .null, .null, .null, .null])]) = some (.inl (none), h0 ++ [.inr (1, [.ref (h0.length + 1), .ref (h0.length + 2), .ref (h0.length + 3), .int 0]), .inl (0, 20, .inl fun _ => 0), .inl (0, 20, .inl fun _ => 0), .inl (0, 20, .inl fun _ => 0), .inr (2, [.ref (h0.length + 5), .ref (h0.length + 6)]), .inl (0, 200, .inl fun _ => 0), .inl (0, 20, .inl (ltF 20 (fun _ => -1) fun _ => 0)), .inr (0, [.ref (h0.length + 0), .ref (h0.length + 4), .ref (h0.length + 8), .ref (h0.length + 9), .ref (h0.length + 10), .ref (h0.length + 11), .ref (h0.length + 12), .ref (h0.length + 13)]), .inl (0, 200, .inl (ltF 200 (fun _ => -1) fun _ => 0)), .inl (0, 200, .inl fun _ => 0), .inl (0, 10, .inl fun _ => 0), .inl (0, 10, .inl fun _ => 0), .inl (1, 10, .inl fun _ => 0), .inl (1, 10, .inl fun _ => 0), .inr (6, [.ref (h0.length + 0), .ref (h0.length + 4), .ref (h0.length + 7), .ref (h0.length + 15), .ref (h0.length + 16), .ref (h0.length + 17), .ref (h0.length + 18), .ref (h0.length + 19), .ref (h0.length + 20), .ref (h0.length + 21)]), .inl (0, 200, .inl (ltF 200 (fun _ => -1) fun _ => 0)), .inl (0, 200, .inl (ltF 200 (fun _ => -1) fun _ => 0)), .inl (0, 200, .inl (ltF 200 (fun _ => -1) fun _ => 0)), .inl (1, 200, .inl fun _ => 0), .inl (0, 200, .inl (ltF 200 (fun _ => -1) fun _ => 0)), .inl (0, 200, .inl (ltF 200 (fun _ => -1) fun _ => 0)), .inl (0, 20, .inl (ltF 20 (fun _ => -1) fun _ => 0)), .inr (7, [.ref (h0.length + 23), .ref (h0.length + 24), .ref (h0.length + 25), .ref (h0.length + 26)]), .inl (1, 1000, .inl fun _ => 0), .inl (1, 1000, .inl fun _ => 0), .inl (0, 10, .inl fun _ => 0), .inl (0, 10, .inl fun _ => 0), .inr (3, [.null, .null, .null, .null, .null, .null]), .inr (4, [.ref (h0.length + 7), .ref (h0.length + 14), .ref (h0.length + 22), .ref (h0.length + 29), .ref (h0.length + 30), .ref (h0.length + 31)]), .inl (0, 10, .inl fun _ => 0), .inl (1, 10, .inl fun _ => 0), .inl (0, 10, .inl fun _ => 0)], 3, 30) := by
  rw [ent_43]
  refine (s43_0).trans ?_
  refine (s43_1).trans ?_
  refine (s43_4).trans ?_
  refine (s43_5).trans ?_
  refine (x_newaA0 (n := 10) mb_43 dX4_init_7 (Nat.le_of_ble_eq_true rfl) (show h0.length + 29 < 99999 by omega)).trans ?_
  refine (x_putA (j := 28) mb_43 dX4_init_9 rfl rfl (show h0.length + 30 ≤ 99999 by omega) (Nat.le_of_ble_eq_true rfl) ⟨rfl, rfl⟩ (by decide +kernel)).trans ?_
  refine (s43_12).trans ?_
  refine (s43_13).trans ?_
  refine (x_newaA1 (n := 10) mb_43 dX4_init_15 (Nat.le_of_ble_eq_true rfl) (show h0.length + 30 < 99999 by omega)).trans ?_
  refine (x_putA (j := 28) mb_43 dX4_init_17 rfl rfl (show h0.length + 31 ≤ 99999 by omega) (Nat.le_of_ble_eq_true rfl) ⟨rfl, rfl⟩ (by decide +kernel)).trans ?_
  refine (s43_20).trans ?_
  refine (s43_21).trans ?_
  refine (x_newaA0 (n := 10) mb_43 dX4_init_23 (Nat.le_of_ble_eq_true rfl) (show h0.length + 31 < 99999 by omega)).trans ?_
  refine (x_putA (j := 28) mb_43 dX4_init_25 rfl rfl (show h0.length + 32 ≤ 99999 by omega) (Nat.le_of_ble_eq_true rfl) ⟨rfl, rfl⟩ (by decide +kernel)).trans ?_
  refine (s43_28).trans ?_
  refine (s43_29).trans ?_
  refine (x_putA (j := 28) mb_43 dX4_init_30 rfl rfl (show h0.length + 32 ≤ 99999 by omega) (Nat.le_of_ble_eq_true rfl) ⟨rfl, rfl⟩ (by decide +kernel)).trans ?_
  refine (s43_33).trans ?_
  refine (s43_34).trans ?_
  refine (x_putA (j := 28) mb_43 dX4_init_35 rfl rfl (show h0.length + 32 ≤ 99999 by omega) (Nat.le_of_ble_eq_true rfl) ⟨rfl, rfl⟩ (by decide +kernel)).trans ?_
  refine (s43_38).trans ?_
  refine (s43_39).trans ?_
  refine (x_putA (j := 28) mb_43 dX4_init_40 rfl rfl (show h0.length + 32 ≤ 99999 by omega) (Nat.le_of_ble_eq_true rfl) ⟨rfl, rfl⟩ (by decide +kernel)).trans ?_
  exact s43_43
set_option maxRecDepth 100000 in
set_option maxHeartbeats 4000000 in
theorem ci_35 {X : rX} {h0 : rH} (hb : h0.length + 40 ≤ 99999) : exC X 35 [.ref (h0.length + 27), .ref (h0.length + 0), .ref (h0.length + 4), .ref (h0.length + 7), .ref (h0.length + 14), .ref (h0.length + 22), .ref (h0.length + 28)] (h0 ++ [.inr (1, [.ref (h0.length + 1), .ref (h0.length + 2), .ref (h0.length + 3), .int 0]), .inl (0, 20, .inl fun _ => 0), .inl (0, 20, .inl fun _ => 0), .inl (0, 20, .inl fun _ => 0), .inr (2, [.ref (h0.length + 5), .ref (h0.length + 6)]), .inl (0, 200, .inl fun _ => 0), .inl (0, 20, .inl (ltF 20 (fun _ => -1) fun _ => 0)), .inr (0, [.ref (h0.length + 0), .ref (h0.length + 4), .ref (h0.length + 8), .ref (h0.length + 9), .ref (h0.length + 10), .ref (h0.length + 11), .ref (h0.length + 12), .ref (h0.length + 13)]), .inl (0, 200, .inl (ltF 200 (fun _ => -1) fun _ => 0)), .inl (0, 200, .inl fun _ => 0), .inl (0, 10, .inl fun _ => 0), .inl (0, 10, .inl fun _ => 0), .inl (1, 10, .inl fun _ => 0), .inl (1, 10, .inl fun _ => 0), .inr (6, [.ref (h0.length + 0), .ref (h0.length + 4), .ref (h0.length + 7), .ref (h0.length + 15), .ref (h0.length + 16), .ref (h0.length + 17), .ref (h0.length + 18), .ref (h0.length + 19), .ref (h0.length + 20), .ref (h0.length + 21)]), .inl (0, 200, .inl (ltF 200 (fun _ => -1) fun _ => 0)), .inl (0, 200, .inl (ltF 200 (fun _ => -1) fun _ => 0)), .inl (0, 200, .inl (ltF 200 (fun _ => -1) fun _ => 0)), .inl (1, 200, .inl fun _ => 0), .inl (0, 200, .inl (ltF 200 (fun _ => -1) fun _ => 0)), .inl (0, 200, .inl (ltF 200 (fun _ => -1) fun _ => 0)), .inl (0, 20, .inl (ltF 20 (fun _ => -1) fun _ => 0)), .inr (7, [.ref (h0.length + 23), .ref (h0.length + 24), .ref (h0.length + 25), .ref (h0.length + 26)]), .inl (1, 1000, .inl fun _ => 0), .inl (1, 1000, .inl fun _ => 0), .inl (0, 10, .inl fun _ => 0), .inl (0, 10, .inl fun _ => 0), .inr (3, [.null, .null, .null, .null, .null, .null]), .inr (4, [.ref (h0.length + 7), .ref (h0.length + 14), .ref (h0.length + 22), .ref (h0.length + 29), .ref (h0.length + 30), .ref (h0.length + 31)]), .inl (0, 10, .inl fun _ => 0), .inl (1, 10, .inl fun _ => 0), .inl (0, 10, .inl fun _ => 0)]) = some (.inl (none), h0 ++ [.inr (1, [.ref (h0.length + 1), .ref (h0.length + 2), .ref (h0.length + 3), .int 0]), .inl (0, 20, .inl fun _ => 0), .inl (0, 20, .inl fun _ => 0), .inl (0, 20, .inl fun _ => 0), .inr (2, [.ref (h0.length + 5), .ref (h0.length + 6)]), .inl (0, 200, .inl fun _ => 0), .inl (0, 20, .inl (ltF 20 (fun _ => -1) fun _ => 0)), .inr (0, [.ref (h0.length + 0), .ref (h0.length + 4), .ref (h0.length + 8), .ref (h0.length + 9), .ref (h0.length + 10), .ref (h0.length + 11), .ref (h0.length + 12), .ref (h0.length + 13)]), .inl (0, 200, .inl (ltF 200 (fun _ => -1) fun _ => 0)), .inl (0, 200, .inl fun _ => 0), .inl (0, 10, .inl fun _ => 0), .inl (0, 10, .inl fun _ => 0), .inl (1, 10, .inl fun _ => 0), .inl (1, 10, .inl fun _ => 0), .inr (6, [.ref (h0.length + 0), .ref (h0.length + 4), .ref (h0.length + 7), .ref (h0.length + 15), .ref (h0.length + 16), .ref (h0.length + 17), .ref (h0.length + 18), .ref (h0.length + 19), .ref (h0.length + 20), .ref (h0.length + 21)]), .inl (0, 200, .inl (ltF 200 (fun _ => -1) fun _ => 0)), .inl (0, 200, .inl (ltF 200 (fun _ => -1) fun _ => 0)), .inl (0, 200, .inl (ltF 200 (fun _ => -1) fun _ => 0)), .inl (1, 200, .inl fun _ => 0), .inl (0, 200, .inl (ltF 200 (fun _ => -1) fun _ => 0)), .inl (0, 200, .inl (ltF 200 (fun _ => -1) fun _ => 0)), .inl (0, 20, .inl (ltF 20 (fun _ => -1) fun _ => 0)), .inr (7, [.ref (h0.length + 23), .ref (h0.length + 24), .ref (h0.length + 25), .ref (h0.length + 26)]), .inl (1, 1000, .inl fun _ => 0), .inl (1, 1000, .inl fun _ => 0), .inl (0, 10, .inl fun _ => 0), .inl (0, 10, .inl fun _ => 0), .inr (3, [.ref (h0.length + 0), .ref (h0.length + 4), .ref (h0.length + 7), .ref (h0.length + 14), .ref (h0.length + 22), .ref (h0.length + 28)]), .inr (4, [.ref (h0.length + 7), .ref (h0.length + 14), .ref (h0.length + 22), .ref (h0.length + 29), .ref (h0.length + 30), .ref (h0.length + 31)]), .inl (0, 10, .inl fun _ => 0), .inl (1, 10, .inl fun _ => 0), .inl (0, 10, .inl fun _ => 0)], 0, 0) := by
  rw [ent_35]
  refine (s35_0).trans ?_
  refine (s35_1).trans ?_
  refine (s35_4).trans ?_
  refine (s35_5).trans ?_
  refine (x_putA (j := 27) mb_35 dX3_init_6 rfl rfl (show h0.length + 32 ≤ 99999 by omega) (Nat.le_of_ble_eq_true rfl) ⟨rfl, rfl⟩ (by decide +kernel)).trans ?_
  refine (s35_9).trans ?_
  refine (s35_10).trans ?_
  refine (x_putA (j := 27) mb_35 dX3_init_11 rfl rfl (show h0.length + 32 ≤ 99999 by omega) (Nat.le_of_ble_eq_true rfl) ⟨rfl, rfl⟩ (by decide +kernel)).trans ?_
  refine (s35_14).trans ?_
  refine (s35_15).trans ?_
  refine (x_putA (j := 27) mb_35 dX3_init_16 rfl rfl (show h0.length + 32 ≤ 99999 by omega) (Nat.le_of_ble_eq_true rfl) ⟨rfl, rfl⟩ (by decide +kernel)).trans ?_
  refine (s35_19).trans ?_
  refine (s35_20).trans ?_
  refine (x_putA (j := 27) mb_35 dX3_init_22 rfl rfl (show h0.length + 32 ≤ 99999 by omega) (Nat.le_of_ble_eq_true rfl) ⟨rfl, rfl⟩ (by decide +kernel)).trans ?_
  refine (s35_25).trans ?_
  refine (s35_26).trans ?_
  refine (x_putA (j := 27) mb_35 dX3_init_28 rfl rfl (show h0.length + 32 ≤ 99999 by omega) (Nat.le_of_ble_eq_true rfl) ⟨rfl, rfl⟩ (by decide +kernel)).trans ?_
  refine (s35_31).trans ?_
  refine (s35_32).trans ?_
  refine (x_putA (j := 27) mb_35 dX3_init_34 rfl rfl (show h0.length + 32 ≤ 99999 by omega) (Nat.le_of_ble_eq_true rfl) ⟨rfl, rfl⟩ (by decide +kernel)).trans ?_
  exact s35_37
/-- what Rally.begin makes, from the place b on -/
def NR (b : Nat) : rH := [.inr (1, [.ref (b + 1), .ref (b + 2), .ref (b + 3), .int 0]), .inl (0, 20, .inl fun _ => 0), .inl (0, 20, .inl fun _ => 0), .inl (0, 20, .inl fun _ => 0), .inr (2, [.ref (b + 5), .ref (b + 6)]), .inl (0, 200, .inl fun _ => 0), .inl (0, 20, .inl (ltF 20 (fun _ => -1) fun _ => 0)), .inr (0, [.ref (b + 0), .ref (b + 4), .ref (b + 8), .ref (b + 9), .ref (b + 10), .ref (b + 11), .ref (b + 12), .ref (b + 13)]), .inl (0, 200, .inl (ltF 200 (fun _ => -1) fun _ => 0)), .inl (0, 200, .inl fun _ => 0), .inl (0, 10, .inl fun _ => 0), .inl (0, 10, .inl fun _ => 0), .inl (1, 10, .inl fun _ => 0), .inl (1, 10, .inl fun _ => 0), .inr (6, [.ref (b + 0), .ref (b + 4), .ref (b + 7), .ref (b + 15), .ref (b + 16), .ref (b + 17), .ref (b + 18), .ref (b + 19), .ref (b + 20), .ref (b + 21)]), .inl (0, 200, .inl (ltF 200 (fun _ => -1) fun _ => 0)), .inl (0, 200, .inl (ltF 200 (fun _ => -1) fun _ => 0)), .inl (0, 200, .inl (ltF 200 (fun _ => -1) fun _ => 0)), .inl (1, 200, .inl fun _ => 0), .inl (0, 200, .inl (ltF 200 (fun _ => -1) fun _ => 0)), .inl (0, 200, .inl (ltF 200 (fun _ => -1) fun _ => 0)), .inl (0, 20, .inl (ltF 20 (fun _ => -1) fun _ => 0)), .inr (7, [.ref (b + 23), .ref (b + 24), .ref (b + 25), .ref (b + 26)]), .inl (1, 1000, .inl fun _ => 0), .inl (1, 1000, .inl fun _ => 0), .inl (0, 10, .inl fun _ => 0), .inl (0, 10, .inl fun _ => 0), .inr (3, [.ref (b + 0), .ref (b + 4), .ref (b + 7), .ref (b + 14), .ref (b + 22), .ref (b + 28)]), .inr (4, [.ref (b + 7), .ref (b + 14), .ref (b + 22), .ref (b + 29), .ref (b + 30), .ref (b + 31)]), .inl (0, 10, .inl fun _ => 0), .inl (1, 10, .inl fun _ => 0), .inl (0, 10, .inl fun _ => 0)]
theorem NR_len {b : Nat} : (NR b).length = 32 := rfl
set_option maxRecDepth 100000 in
set_option maxHeartbeats 4000000 in
theorem k_begin {X : rX} {h0 : rH} (hb : h0.length + 40 ≤ 99999) : exC X 36 [] h0 = some (.inl (some (.ref (h0.length + 27))), h0 ++ NR h0.length, 32, 4030) := by
  rw [ent_36]
  refine (show exM X 36 0 [none, none, none, none, none] [] h0 0 0 = exM X 36 0 [none, none, none, none, none] [] (h0 ++ []) 0 0 by rw [List.append_nil]).trans ?_
  refine (x_newoA mb_36 dX3_begin_0 rfl (show h0.length + 0 < 99999 by omega)).trans ?_
  refine (s36_3).trans ?_
  refine (s36_4).trans ?_
  refine (bnd_of (ci_18 hb)).trans ?_
  refine (s36_7).trans ?_
  refine (x_newoA mb_36 dX3_begin_8 rfl (show h0.length + 4 < 99999 by omega)).trans ?_
  refine (s36_11).trans ?_
  refine (s36_12).trans ?_
  refine (bnd_of (ci_28 hb)).trans ?_
  refine (s36_15).trans ?_
  refine (x_newoA mb_36 dX3_begin_16 rfl (show h0.length + 7 < 99999 by omega)).trans ?_
  refine (s36_19).trans ?_
  refine (s36_20).trans ?_
  refine (s36_21).trans ?_
  refine (s36_22).trans ?_
  refine (bnd_of (ci_0 hb)).trans ?_
  refine (s36_25).trans ?_
  refine (x_newoA mb_36 dX3_begin_26 rfl (show h0.length + 14 < 99999 by omega)).trans ?_
  refine (s36_29).trans ?_
  refine (s36_30).trans ?_
  refine (s36_31).trans ?_
  refine (s36_32).trans ?_
  refine (s36_33).trans ?_
  refine (bnd_of (ci_59 hb)).trans ?_
  refine (s36_36).trans ?_
  refine (x_newoA mb_36 dX3_begin_37 rfl (show h0.length + 22 < 99999 by omega)).trans ?_
  refine (s36_40).trans ?_
  refine (s36_41).trans ?_
  refine (bnd_of (ci_73 hb)).trans ?_
  refine (s36_44).trans ?_
  refine (x_newoA mb_36 dX3_begin_46 rfl (show h0.length + 27 < 99999 by omega)).trans ?_
  refine (s36_49).trans ?_
  refine (s36_50).trans ?_
  refine (s36_51).trans ?_
  refine (s36_52).trans ?_
  refine (s36_53).trans ?_
  refine (s36_54).trans ?_
  refine (x_newoA mb_36 dX3_begin_56 rfl (show h0.length + 28 < 99999 by omega)).trans ?_
  refine (s36_59).trans ?_
  refine (s36_60).trans ?_
  refine (s36_61).trans ?_
  refine (s36_62).trans ?_
  refine (s36_64).trans ?_
  refine (bnd_of (ci_43 hb)).trans ?_
  refine (s36_67).trans ?_
  refine (bnd_of (ci_35 hb)).trans ?_
  exact s36_70
set_option maxRecDepth 100000 in
set_option maxHeartbeats 4000000 in
theorem k_modelA {X : rX} {h0 : rH} (hb : h0.length + 40 ≤ 99999) : exC X 105 [.ref (h0.length + 0)] (h0 ++ [.inr (9, dfl 9)]) = exM X 105 182 [some (.ref (h0.length + 0))] [.ref (h0.length + 0)] (h0 ++ [.inr (9, [.int 0, .int 0, .ref (h0.length + 1), .ref (h0.length + 2), .ref (h0.length + 3), .ref (h0.length + 4), .ref (h0.length + 5), .ref (h0.length + 6), .ref (h0.length + 7), .ref (h0.length + 8), .ref (h0.length + 9), .ref (h0.length + 10), .ref (h0.length + 11), .ref (h0.length + 12), .ref (h0.length + 13), .ref (h0.length + 14), .ref (h0.length + 15), .ref (h0.length + 16), .ref (h0.length + 17), .ref (h0.length + 18), .int 0, .ref (h0.length + 19), .ref (h0.length + 20), .ref (h0.length + 21)]), .inl (0, 20, .inl fun _ => 0), .inl (0, 20, .inl fun _ => 0), .inl (0, 200, .inl fun _ => 0), .inl (0, 20, .inl fun _ => 0), .inl (0, 200, .inl fun _ => 0), .inl (0, 200, .inl fun _ => 0), .inl (0, 200, .inl fun _ => 0), .inl (0, 200, .inl fun _ => 0), .inl (1, 200, .inl fun _ => 0), .inl (0, 200, .inl fun _ => 0), .inl (0, 10, .inl fun _ => 0), .inl (0, 10, .inl fun _ => 0), .inl (1, 10, .inl fun _ => 0), .inl (1, 10, .inl fun _ => 0), .inl (1, 10, .inl fun _ => 0), .inl (1, 1000, .inl fun _ => 0), .inl (1, 1000, .inl fun _ => 0), .inl (0, 10, .inl fun _ => 0), .inl (0, 60, .inl fun _ => 0), .inl (0, 10, .inl fun _ => 0), .inl (0, 10, .inl fun _ => 0)]) 21 3600 := by
  rw [ent_105]
  refine (s105_0).trans ?_
  refine (s105_1).trans ?_
  refine (s105_4).trans ?_
  refine (s105_5).trans ?_
  refine (x_newaA0 (n := 20) mb_105 dX9_init_7 (Nat.le_of_ble_eq_true rfl) (show h0.length + 1 < 99999 by omega)).trans ?_
  refine (x_putA (j := 0) mb_105 dX9_init_9 rfl rfl (show h0.length + 2 ≤ 99999 by omega) (Nat.le_of_ble_eq_true rfl) ⟨rfl, rfl⟩ (by decide +kernel)).trans ?_
  refine (s105_12).trans ?_
  refine (s105_13).trans ?_
  refine (x_newaA0 (n := 20) mb_105 dX9_init_15 (Nat.le_of_ble_eq_true rfl) (show h0.length + 2 < 99999 by omega)).trans ?_
  refine (x_putA (j := 0) mb_105 dX9_init_17 rfl rfl (show h0.length + 3 ≤ 99999 by omega) (Nat.le_of_ble_eq_true rfl) ⟨rfl, rfl⟩ (by decide +kernel)).trans ?_
  refine (s105_20).trans ?_
  refine (s105_21).trans ?_
  refine (x_newaA0 (n := 200) mb_105 dX9_init_24 (Nat.le_of_ble_eq_true rfl) (show h0.length + 3 < 99999 by omega)).trans ?_
  refine (x_putA (j := 0) mb_105 dX9_init_26 rfl rfl (show h0.length + 4 ≤ 99999 by omega) (Nat.le_of_ble_eq_true rfl) ⟨rfl, rfl⟩ (by decide +kernel)).trans ?_
  refine (s105_29).trans ?_
  refine (s105_30).trans ?_
  refine (x_newaA0 (n := 20) mb_105 dX9_init_32 (Nat.le_of_ble_eq_true rfl) (show h0.length + 4 < 99999 by omega)).trans ?_
  refine (x_putA (j := 0) mb_105 dX9_init_34 rfl rfl (show h0.length + 5 ≤ 99999 by omega) (Nat.le_of_ble_eq_true rfl) ⟨rfl, rfl⟩ (by decide +kernel)).trans ?_
  refine (s105_37).trans ?_
  refine (s105_38).trans ?_
  refine (x_newaA0 (n := 200) mb_105 dX9_init_41 (Nat.le_of_ble_eq_true rfl) (show h0.length + 5 < 99999 by omega)).trans ?_
  refine (x_putA (j := 0) mb_105 dX9_init_43 rfl rfl (show h0.length + 6 ≤ 99999 by omega) (Nat.le_of_ble_eq_true rfl) ⟨rfl, rfl⟩ (by decide +kernel)).trans ?_
  refine (s105_46).trans ?_
  refine (s105_47).trans ?_
  refine (x_newaA0 (n := 200) mb_105 dX9_init_50 (Nat.le_of_ble_eq_true rfl) (show h0.length + 6 < 99999 by omega)).trans ?_
  refine (x_putA (j := 0) mb_105 dX9_init_52 rfl rfl (show h0.length + 7 ≤ 99999 by omega) (Nat.le_of_ble_eq_true rfl) ⟨rfl, rfl⟩ (by decide +kernel)).trans ?_
  refine (s105_55).trans ?_
  refine (s105_56).trans ?_
  refine (x_newaA0 (n := 200) mb_105 dX9_init_59 (Nat.le_of_ble_eq_true rfl) (show h0.length + 7 < 99999 by omega)).trans ?_
  refine (x_putA (j := 0) mb_105 dX9_init_61 rfl rfl (show h0.length + 8 ≤ 99999 by omega) (Nat.le_of_ble_eq_true rfl) ⟨rfl, rfl⟩ (by decide +kernel)).trans ?_
  refine (s105_64).trans ?_
  refine (s105_65).trans ?_
  refine (x_newaA0 (n := 200) mb_105 dX9_init_68 (Nat.le_of_ble_eq_true rfl) (show h0.length + 8 < 99999 by omega)).trans ?_
  refine (x_putA (j := 0) mb_105 dX9_init_70 rfl rfl (show h0.length + 9 ≤ 99999 by omega) (Nat.le_of_ble_eq_true rfl) ⟨rfl, rfl⟩ (by decide +kernel)).trans ?_
  refine (s105_73).trans ?_
  refine (s105_74).trans ?_
  refine (x_newaA1 (n := 200) mb_105 dX9_init_77 (Nat.le_of_ble_eq_true rfl) (show h0.length + 9 < 99999 by omega)).trans ?_
  refine (x_putA (j := 0) mb_105 dX9_init_79 rfl rfl (show h0.length + 10 ≤ 99999 by omega) (Nat.le_of_ble_eq_true rfl) ⟨rfl, rfl⟩ (by decide +kernel)).trans ?_
  refine (s105_82).trans ?_
  refine (s105_83).trans ?_
  refine (x_newaA0 (n := 200) mb_105 dX9_init_86 (Nat.le_of_ble_eq_true rfl) (show h0.length + 10 < 99999 by omega)).trans ?_
  refine (x_putA (j := 0) mb_105 dX9_init_88 rfl rfl (show h0.length + 11 ≤ 99999 by omega) (Nat.le_of_ble_eq_true rfl) ⟨rfl, rfl⟩ (by decide +kernel)).trans ?_
  refine (s105_91).trans ?_
  refine (s105_92).trans ?_
  refine (x_newaA0 (n := 10) mb_105 dX9_init_94 (Nat.le_of_ble_eq_true rfl) (show h0.length + 11 < 99999 by omega)).trans ?_
  refine (x_putA (j := 0) mb_105 dX9_init_96 rfl rfl (show h0.length + 12 ≤ 99999 by omega) (Nat.le_of_ble_eq_true rfl) ⟨rfl, rfl⟩ (by decide +kernel)).trans ?_
  refine (s105_99).trans ?_
  refine (s105_100).trans ?_
  refine (x_newaA0 (n := 10) mb_105 dX9_init_102 (Nat.le_of_ble_eq_true rfl) (show h0.length + 12 < 99999 by omega)).trans ?_
  refine (x_putA (j := 0) mb_105 dX9_init_104 rfl rfl (show h0.length + 13 ≤ 99999 by omega) (Nat.le_of_ble_eq_true rfl) ⟨rfl, rfl⟩ (by decide +kernel)).trans ?_
  refine (s105_107).trans ?_
  refine (s105_108).trans ?_
  refine (x_newaA1 (n := 10) mb_105 dX9_init_110 (Nat.le_of_ble_eq_true rfl) (show h0.length + 13 < 99999 by omega)).trans ?_
  refine (x_putA (j := 0) mb_105 dX9_init_112 rfl rfl (show h0.length + 14 ≤ 99999 by omega) (Nat.le_of_ble_eq_true rfl) ⟨rfl, rfl⟩ (by decide +kernel)).trans ?_
  refine (s105_115).trans ?_
  refine (s105_116).trans ?_
  refine (x_newaA1 (n := 10) mb_105 dX9_init_118 (Nat.le_of_ble_eq_true rfl) (show h0.length + 14 < 99999 by omega)).trans ?_
  refine (x_putA (j := 0) mb_105 dX9_init_120 rfl rfl (show h0.length + 15 ≤ 99999 by omega) (Nat.le_of_ble_eq_true rfl) ⟨rfl, rfl⟩ (by decide +kernel)).trans ?_
  refine (s105_123).trans ?_
  refine (s105_124).trans ?_
  refine (x_newaA1 (n := 10) mb_105 dX9_init_126 (Nat.le_of_ble_eq_true rfl) (show h0.length + 15 < 99999 by omega)).trans ?_
  refine (x_putA (j := 0) mb_105 dX9_init_128 rfl rfl (show h0.length + 16 ≤ 99999 by omega) (Nat.le_of_ble_eq_true rfl) ⟨rfl, rfl⟩ (by decide +kernel)).trans ?_
  refine (s105_131).trans ?_
  refine (s105_132).trans ?_
  refine (x_newaA1 (n := 1000) mb_105 dX9_init_135 (Nat.le_of_ble_eq_true rfl) (show h0.length + 16 < 99999 by omega)).trans ?_
  refine (x_putA (j := 0) mb_105 dX9_init_137 rfl rfl (show h0.length + 17 ≤ 99999 by omega) (Nat.le_of_ble_eq_true rfl) ⟨rfl, rfl⟩ (by decide +kernel)).trans ?_
  refine (s105_140).trans ?_
  refine (s105_141).trans ?_
  refine (x_newaA1 (n := 1000) mb_105 dX9_init_144 (Nat.le_of_ble_eq_true rfl) (show h0.length + 17 < 99999 by omega)).trans ?_
  refine (x_putA (j := 0) mb_105 dX9_init_146 rfl rfl (show h0.length + 18 ≤ 99999 by omega) (Nat.le_of_ble_eq_true rfl) ⟨rfl, rfl⟩ (by decide +kernel)).trans ?_
  refine (s105_149).trans ?_
  refine (s105_150).trans ?_
  refine (x_newaA0 (n := 10) mb_105 dX9_init_152 (Nat.le_of_ble_eq_true rfl) (show h0.length + 18 < 99999 by omega)).trans ?_
  refine (x_putA (j := 0) mb_105 dX9_init_154 rfl rfl (show h0.length + 19 ≤ 99999 by omega) (Nat.le_of_ble_eq_true rfl) ⟨rfl, rfl⟩ (by decide +kernel)).trans ?_
  refine (s105_157).trans ?_
  refine (s105_158).trans ?_
  refine (x_newaA0 (n := 60) mb_105 dX9_init_160 (Nat.le_of_ble_eq_true rfl) (show h0.length + 19 < 99999 by omega)).trans ?_
  refine (x_putA (j := 0) mb_105 dX9_init_162 rfl rfl (show h0.length + 20 ≤ 99999 by omega) (Nat.le_of_ble_eq_true rfl) ⟨rfl, rfl⟩ (by decide +kernel)).trans ?_
  refine (s105_165).trans ?_
  refine (s105_166).trans ?_
  refine (x_newaA0 (n := 10) mb_105 dX9_init_168 (Nat.le_of_ble_eq_true rfl) (show h0.length + 20 < 99999 by omega)).trans ?_
  refine (x_putA (j := 0) mb_105 dX9_init_170 rfl rfl (show h0.length + 21 ≤ 99999 by omega) (Nat.le_of_ble_eq_true rfl) ⟨rfl, rfl⟩ (by decide +kernel)).trans ?_
  refine (s105_173).trans ?_
  refine (s105_174).trans ?_
  refine (x_newaA0 (n := 10) mb_105 dX9_init_176 (Nat.le_of_ble_eq_true rfl) (show h0.length + 21 < 99999 by omega)).trans ?_
  refine (x_putA (j := 0) mb_105 dX9_init_178 rfl rfl (show h0.length + 22 ≤ 99999 by omega) (Nat.le_of_ble_eq_true rfl) ⟨rfl, rfl⟩ (by decide +kernel)).trans ?_
  refine (s105_181).trans ?_
  rfl
set_option maxRecDepth 100000 in
set_option maxHeartbeats 4000000 in
theorem ci_51 {X : rX} {h0 : rH} (hb : h0.length + 40 ≤ 99999) : exC X 51 [.ref (h0.length + 0)] (h0 ++ [.inr (5, [.null, .int 0])]) = some (.inl (none), h0 ++ [.inr (5, [.ref (h0.length + 1), .int 0]), .inl (0, 60, .inl fun _ => 0)], 1, 60) := by
  rw [ent_51]
  refine (s51_0).trans ?_
  refine (s51_1).trans ?_
  refine (s51_4).trans ?_
  refine (s51_5).trans ?_
  refine (x_newaA0 (n := 60) mb_51 dX5_init_7 (Nat.le_of_ble_eq_true rfl) (show h0.length + 1 < 99999 by omega)).trans ?_
  refine (x_putA (j := 0) mb_51 dX5_init_9 rfl rfl (show h0.length + 2 ≤ 99999 by omega) (Nat.le_of_ble_eq_true rfl) ⟨rfl, rfl⟩ (by decide +kernel)).trans ?_
  exact s51_12
