/-! THE LAW: its beginning -/
def ZZ : Nat → Nat → Int32 := fun _ _ => 0
/-- the class at its beginning -/
def bgZ : Nat → Nat → Int32 := fun p => if p = 39 then ltF 20 (fun _ => -1) (fun _ => 0) else nwC ZZ p
section INIT
variable {X : rX}
/-- the class, made -/
def CW : rH := WAp ZZ 30 ++ WO (nwC ZZ)
theorem CW_len : CW.length = 35 := rfl
set_option maxRecDepth 100000 in
theorem k_card : exC X 79 [.ref 0] [.inr (8, dfl 8)] = some (.inl none, CW, 34, 4092) := by
  rw [ent_79]
  refine (s79_0).trans ?_
  refine (s79_1).trans ?_
  refine (s79_4).trans ?_
  refine (s79_5 (h := [.inr (8, dfl 8)]) (show 1 < 99999 by omega)).trans ?_
  refine (s79_8).trans ?_
  refine (show exM X 79 9 [some (.ref 0)] [.ref 1, .ref 1, .ref 0] ([.inr (8, dfl 8)] ++ [.inr (5, [.null, .int 0])]) 1 2 = _ from s79_9).trans ?_
  refine (bnd_of (show exC X 51 [.ref 1] ([.inr (8, dfl 8)] ++ [.inr (5, [.null, .int 0])]) = some (.inl none, [.inr (8, [.null, .null]), .inr (5, [.ref 2, .int 0]), .inl (0, 60, .inl fun _ => 0)], 1, 60) from ci_51 (h0 := [.inr (8, dfl 8)]) (show 1 + 40 ≤ 99999 by omega))).trans ?_
  refine (show exM X 79 12 [some (.ref 0)] [.ref 1, .ref 0] [.inr (8, [.null, .null]), .inr (5, [.ref 2, .int 0]), .inl (0, 60, .inl fun _ => 0)] 2 62 = _ from s79_12 (p := 0) (fs := [.null, .null]) (v := .ref 1) rfl (Nat.le_of_ble_eq_true rfl) ⟨rfl, rfl⟩).trans ?_
  refine (s79_15).trans ?_
  refine (s79_16).trans ?_
  refine (bnd_of (k_begin (h0 := [.inr (8, [.ref 1, .null]), .inr (5, [.ref 2, .int 0]), .inl (0, 60, .inl fun _ => 0)]) (show 3 + 40 ≤ 99999 by omega))).trans ?_
  refine (show exM X 79 19 [some (.ref 0)] [.ref 30, .ref 0] ([.inr (8, [.ref 1, .null]), .inr (5, [.ref 2, .int 0]), .inl (0, 60, .inl fun _ => 0)] ++ NR 3) 34 4092 = _ from s79_19 (p := 0) (fs := [.ref 1, .null]) (v := .ref 30) rfl (Nat.le_of_ble_eq_true rfl) ⟨rfl, rfl⟩).trans ?_
  exact s79_22
theorem RES_0 : RES bgZ 0 := ⟨by omega, rfl, fun k hk => by omega, fun c hc => ⟨⟨fun m k h1 h2 => by omega, fun m hm => by omega, fun hh => rfl⟩, fun m hm => by omega⟩⟩
theorem INV_0 : INV bgZ 0 0 0 := INV_new (fun p h1 h2 => by
  unfold bgZ
  rw [if_neg (by omega)]
  exact nwC_ind h1 h2) rfl RES_0
theorem LI_0 : LI bgZ 0 0 (fun _ => 0) (fun _ => 0) (fun _ => 0) := ⟨rfl, fun _ => rfl, fun z => absurd rfl z, rfl, fun i hi => by omega, fun c hc => rfl⟩
theorem bt_0 {pl : Nat → Int32} {o : Nat} : ¬ btR pl 0 o 0 := by
  have h : ∀ j, prF pl 0 o 0 j = (0, 0) := by
    intro j
    induction j with
    | zero => rfl
    | succ j ih =>
      rw [prF, ih]
      rfl
  rintro (q | ⟨-, q⟩)
  · rw [h 10] at q
    dsimp only at q
    omega
  · omega
theorem gT_0 {σ : Nat → Nat → Int32} : gT σ 0 0 = 0 := by
  obtain ⟨h1, h2, -⟩ := gT_at (σ := σ) (r := 0) (by omega : 0 < 10)
  refine rnk_inj (btR_ord (σ 54) 0) h1 (by omega) trivial trivial ?_
  rw [h2]
  exact (cnF_none 10 fun o _ q => bt_0 q.2.2).symm
set_option maxRecDepth 100000 in
theorem law_begin {S : Nat} (hX : X.1 ≤ 260) (hS : S = if 50 < X.1 / 3 then 50 else X.1 / 3) : exC X 122 [.ref 100000] [] = exM X 122 79 [some (.ref 100000), some (.ref 0), some (.ref 35), some (.ref 36), some (.ref 37), some (.int (nI 1)), some (.int (nI S)), some (.int (nI 0))] [] (WW (rkC (nI 0) bgZ 0) [dA fun _ => 0, kA fun _ => 0, tA fun _ => 0]) 38 4127 := by
  rw [ent_122]
  refine (s122_0 (h := []) (show 0 < 99999 by omega)).trans ?_
  refine (s122_3).trans ?_
  refine (show exM X 122 4 [some (.ref 100000), none, none, none, none, none, none, none] [.ref 0, .ref 0] [.inr (8, dfl 8)] 1 2 = _ from s122_4).trans ?_
  refine (bnd_of k_card).trans ?_
  refine (show exM X 122 7 [some (.ref 100000), none, none, none, none, none, none, none] [.ref 0] CW 35 4094 = _ from s122_7).trans ?_
  refine (s122_8).trans ?_
  refine (s122_9 (n := 3) (h := CW) (by omega) (show 35 < 99999 by omega)).trans ?_
  refine (show exM X 122 11 [some (.ref 100000), some (.ref 0), none, none, none, none, none, none] [.ref 35] (WW bgZ [dA fun _ => 0]) 36 4097 = _ from s122_11).trans ?_
  refine (s122_12).trans ?_
  refine (s122_14 (n := 20) (h := WW bgZ [dA fun _ => 0]) (by omega) (by rw [WW_len]; show 35 + 1 < 99999; omega)).trans ?_
  refine (show exM X 122 16 [some (.ref 100000), some (.ref 0), some (.ref 35), none, none, none, none, none] [.ref 36] (WW bgZ [dA fun _ => 0, kA fun _ => 0]) 37 4117 = _ from s122_16).trans ?_
  refine (s122_17).trans ?_
  refine (s122_19 (n := 10) (h := WW bgZ [dA fun _ => 0, kA fun _ => 0]) (by omega) (by rw [WW_len]; show 35 + 2 < 99999; omega)).trans ?_
  refine (show exM X 122 21 [some (.ref 100000), some (.ref 0), some (.ref 35), some (.ref 36), none, none, none, none] [.ref 37] (WW bgZ [dA fun _ => 0, kA fun _ => 0, tA fun _ => 0]) 38 4127 = exM X 122 23 [some (.ref 100000), some (.ref 0), some (.ref 35), some (.ref 36), some (.ref 37), none, none, none] [] (WW bgZ [dA fun _ => 0, kA fun _ => 0, tA fun _ => 0]) 38 4127 from s122_21).trans ?_
  have i1 := p_ranked0 (X := X) (σ := bgZ) (t := [dA fun _ => 0, kA fun _ => 0, tA fun _ => 0]) INV_0.1.1.1 (hz_of INV_0) (by omega : 0 < 10) (rk_uni (nI 0) (by omega))
  have hin : ∀ c, c < 10 → ¬ inC (nI 0) bgZ c := fun c hc z => by
    rcases z with y | y
    · exact n1_0 y.symm
    · exact y.1 ((INV_0.1.2.2.2.2.2 rfl).1 c (by omega)).1
  rw [gP_no (σ := bgZ) (N := 0) (p := 0) (by unfold mP; rw [cnF_none 10 hin]; omega) (by omega)] at i1
  have i2 := q_table (X := X) (t := [dA fun _ => 0, kA fun _ => 0, tA fun _ => 0]) INV_0 (by omega : 0 < 10)
  rw [gT_0] at i2
  have i3 := q_points (X := X) (t := [dA fun _ => 0, kA fun _ => 0, tA fun _ => 0]) INV_0 (by omega : 9 < 10)
  rw [show sumV (bgZ 54) 0 9 = 0 from rfl] at i3
  have hd := Nat.div_le_self X.1 3
  by_cases w : 50 < X.1 / 3
  · rw [if_pos w] at hS
    subst hS
    simp (disch := omega) only [s122_23, s122_24, s122_25, s122_28, s122_29, s122_32, s122_33, s122_34, s122_37, s122_40, s122_41, s122_43, s122_46, s122_49, s122_50, s122_53, s122_54, s122_56, s122_57, s122_58, s122_59, s122_60, s122_62, s122_65, s122_67, s122_70, s122_71, s122_72, s122_73, s122_74, s122_76, s122_77, c10, c100, c6, eq_self, bnd_l, bnd_r, Option.toList_some, Option.toList_none, List.cons_append, List.nil_append, Nat.add_zero, Nat.zero_add, ↓reduceIte, nI_add, nI_mul, nI_subI, lt_t, lt_f, eq_f, lt_m1, m1_lt, eq_m1, m1_eq, i1, i2, i3]
  · rw [if_neg w] at hS
    subst hS
    simp (disch := omega) only [s122_23, s122_24, s122_25, s122_28, s122_29, s122_32, s122_33, s122_34, s122_37, s122_40, s122_41, s122_43, s122_46, s122_49, s122_50, s122_53, s122_54, s122_56, s122_57, s122_58, s122_59, s122_60, s122_62, s122_65, s122_67, s122_70, s122_71, s122_72, s122_73, s122_74, s122_76, s122_77, c10, c100, c6, eq_self, bnd_l, bnd_r, Option.toList_some, Option.toList_none, List.cons_append, List.nil_append, Nat.add_zero, Nat.zero_add, ↓reduceIte, nI_add, nI_mul, nI_subI, lt_t, lt_f, eq_f, lt_m1, m1_lt, eq_m1, m1_eq, i1, i2, i3]
/-- the law answers 1, in its room -/
theorem law_fin (hX : X.1 ≤ 260) : FIN (exC X 122 [.ref 100000] []) 600104 7301314 := by
  obtain ⟨S, hS⟩ : ∃ S, S = if 50 < X.1 / 3 then 50 else X.1 / 3 := ⟨_, rfl⟩
  have hS2 : S ≤ 50 ∧ 3 * S ≤ X.1 := by
    rw [hS]
    split <;> omega
  rw [law_begin hX hS]
  have := law_loop hX hS2.1 hS2.2 S 0 (rkC (nI 0) bgZ 0) 0 0 (fun _ => 0) (fun _ => 0) (fun _ => 0) [] 38 4127 (INV_rkC INV_0) (LI_congr LI_0 rfl rfl rfl) (by omega) (by show 0 + 32 * S + 100 ≤ 99999; omega)
  exact FIN_mono this (by omega) (by omega)
end INIT
