/-! THE LAW: its beginning -/
def ZZ : Nat → Nat → Int32 := fun _ _ => 0
section INIT
variable {X : rX}
/-- the class, made -/
def CW : rH := WAp ZZ 30 ++ WO (nwC ZZ)
theorem CW_len : CW.length = 35 := rfl
set_option maxRecDepth 100000 in
theorem k_card : exC X 79 [.ref 0] [.inr (8, dfl 8)] = some (.inl none, CW, 34, 4092) := by
  rw [ent_79]
  refine (s79_0).trans ?_
  refine (s79_1).trans ?_
  refine (s79_4).trans ?_
  refine (s79_5 (h := [.inr (8, dfl 8)]) (show 1 < 99999 by omega)).trans ?_
  refine (s79_8).trans ?_
  refine (show exM X 79 9 [some (.ref 0)] [.ref 1, .ref 1, .ref 0] ([.inr (8, dfl 8)] ++ [.inr (5, [.null, .int 0])]) 1 2 = _ from s79_9).trans ?_
  refine (bnd_of (show exC X 51 [.ref 1] ([.inr (8, dfl 8)] ++ [.inr (5, [.null, .int 0])]) = some (.inl none, [.inr (8, [.null, .null]), .inr (5, [.ref 2, .int 0]), .inl (0, 60, .inl fun _ => 0)], 1, 60) from ci_51 (h0 := [.inr (8, dfl 8)]) (show 1 + 40 ≤ 99999 by omega))).trans ?_
  refine (show exM X 79 12 [some (.ref 0)] [.ref 1, .ref 0] [.inr (8, [.null, .null]), .inr (5, [.ref 2, .int 0]), .inl (0, 60, .inl fun _ => 0)] 2 62 = _ from s79_12 (p := 0) (fs := [.null, .null]) (v := .ref 1) rfl (Nat.le_of_ble_eq_true rfl) ⟨rfl, rfl⟩).trans ?_
  refine (s79_15).trans ?_
  refine (s79_16).trans ?_
  refine (bnd_of (k_begin (h0 := [.inr (8, [.ref 1, .null]), .inr (5, [.ref 2, .int 0]), .inl (0, 60, .inl fun _ => 0)]) (show 3 + 40 ≤ 99999 by omega))).trans ?_
  refine (show exM X 79 19 [some (.ref 0)] [.ref 30, .ref 0] ([.inr (8, [.ref 1, .null]), .inr (5, [.ref 2, .int 0]), .inl (0, 60, .inl fun _ => 0)] ++ NR 3) 34 4092 = _ from s79_19 (p := 0) (fs := [.ref 1, .null]) (v := .ref 30) rfl (Nat.le_of_ble_eq_true rfl) ⟨rfl, rfl⟩).trans ?_
  exact s79_22
set_option maxRecDepth 100000 in
theorem k_model : exC X 105 [.ref 35] (CW ++ [.inr (9, dfl 9)]) = some (.inl none, WW (bgR (nwC ZZ)) [], 21, 3600) := by
  refine (show exC X 105 [.ref 35] (CW ++ [.inr (9, dfl 9)]) = _ from k_modelA (h0 := CW) (show 35 + 40 ≤ 99999 by omega)).trans ?_
  refine (show _ = exM X 105 182 [some (.ref 35)] [.ref 35] (WW (nwC ZZ) []) 21 3600 from rfl).trans ?_
  refine (s105_182).trans ?_
  refine (bnd_of (r_begins (σ := nwC ZZ) (t := []))).trans ?_
  exact s105_185
theorem RES_0 : RES (bgR (nwC ZZ)) 0 := ⟨by omega, rfl, fun k hk => by omega, fun c hc => ⟨⟨fun m k h1 h2 => by omega, fun m hm => by omega, fun hh => rfl⟩, fun m hm => by omega⟩⟩
theorem INV_0 : INV (bgR (nwC ZZ)) 0 0 0 := by
  have e39 : bgR (nwC ZZ) 39 = fun g => if 10 * g < 200 then -1 else 0 := rfl
  have g39 : ∀ g, g < 20 → bgR (nwC ZZ) 39 g = -1 := fun g hg => by
    rw [e39]
    exact if_pos (by omega)
  have c39 : ∀ g, g < 20 → cnt (bgR (nwC ZZ) 39 g) = 0 := fun g hg => by rw [g39 g hg, cnt_m1]
  have R40 : ∀ j, bgR (nwC ZZ) 40 j = ltF 200 (fun _ => (-1 : Int32)) (fun _ => 0) j := fun _ => rfl
  have R41 : ∀ j, bgR (nwC ZZ) 41 j = ltF 200 (fun _ => nI 0) (fun _ => 0) j := fun _ => rfl
  have R42 : ∀ j, bgR (nwC ZZ) 42 j = ltF 200 (fun _ => (-1 : Int32)) (fun _ => 0) j := fun _ => rfl
  have R43 : ∀ j, bgR (nwC ZZ) 43 j = ltF 200 (fun _ => (-1 : Int32)) (fun _ => 0) j := fun _ => rfl
  have R44 : ∀ j, bgR (nwC ZZ) 44 j = ltF 200 (fun _ => nI 0) (fun _ => 0) j := fun _ => rfl
  have R45 : ∀ j, bgR (nwC ZZ) 45 j = ltF 200 (fun _ => (-1 : Int32)) (fun _ => 0) j := fun _ => rfl
  have R46 : ∀ j, bgR (nwC ZZ) 46 j = ltF 10 (fun _ => nI 0) (fun _ => 0) j := fun _ => rfl
  have R47 : ∀ j, bgR (nwC ZZ) 47 j = ltF 10 (fun _ => nI 0) (fun _ => 0) j := fun _ => rfl
  have R48 : ∀ j, bgR (nwC ZZ) 48 j = ltF 10 (fun _ => nI 0) (fun _ => 0) j := fun _ => rfl
  have R49 : ∀ j, bgR (nwC ZZ) 49 j = ltF 10 (fun _ => nI 0) (fun _ => 0) j := fun _ => rfl
  have R50 : ∀ j, bgR (nwC ZZ) 50 j = ltF 10 (fun _ => nI 0) (fun _ => 0) j := fun _ => rfl
  have R53 : ∀ j, bgR (nwC ZZ) 53 j = ltF 10 (fun _ => nI 0) (fun _ => 0) j := fun _ => rfl
  have R51 : ∀ j, bgR (nwC ZZ) 51 j = ltF 1000 (fun _ => nI 0) (fun _ => 0) j := fun _ => rfl
  have R52 : ∀ j, bgR (nwC ZZ) 52 j = ltF 1000 (fun _ => nI 0) (fun _ => 0) j := fun _ => rfl
  have m1 : ∀ j, j < 200 → ltF 200 (fun _ => (-1 : Int32)) (fun _ => 0) j = -1 := fun j hj => ltF_lt hj
  have m2 : ∀ j, j < 20 → ltF 20 (fun _ => (-1 : Int32)) (fun _ => 0) j = -1 := fun j hj => ltF_lt hj
  refine ⟨⟨⟨⟨by omega, rfl, fun i hi => by omega, fun z => by omega, fun i hi => by omega⟩, ⟨fun g hg => ⟨Or.inl (g39 g hg), fun p hp => ?_⟩, fun g hg p hp => ?_, ?_, fun g hg p q hp => ?_⟩, fun i hi => by omega, fun _ => g39 0 (by omega)⟩, ⟨fun j hj => Or.inl (m1 j hj), fun i hi => by omega⟩, fun j hj => ⟨0, by omega, rfl⟩, fun c hc => rfl, ⟨fun j hj => ⟨Or.inl (m1 j hj), Or.inl (m1 j hj), Or.inl (m1 j hj)⟩, fun i hi => by omega, fun j hj => by omega⟩, fun _ => ⟨fun j hj => ⟨m1 j hj, m1 j hj, m1 j hj, m1 j hj, rfl, m1 j hj, m1 j hj⟩, fun g hg => ⟨m2 g hg, g39 g hg⟩⟩⟩,
    ⟨rfl, (ltF_zero fun j hj => rfl).symm, rfl, rfl, (ltF_zero fun j hj => rfl).symm, rfl, (ltF_zero fun j hj => rfl).symm, (ltF_zero fun j hj => rfl).symm, (ltF_zero fun j hj => rfl).symm, (ltF_zero fun j hj => rfl).symm, (ltF_zero fun j hj => rfl).symm, (ltF_zero fun j hj => rfl).symm⟩,
    fun c hc => ⟨⟨fun z => absurd z (nI_nlt (a := 30) (b := 0) (by omega) (by omega)), fun _ => (R48 c).trans (ltF_lt hc)⟩, Or.inl rfl⟩, ⟨fun c hc => ⟨?_, ?_⟩, fun j hj => Or.inl rfl⟩, ⟨fun j hj => ?_, fun j hj => ?_, fun j hj => ?_, fun j hj => ?_⟩, RES_0, rfl, rfl⟩
  · rw [c39 g hg] at hp
    omega
  · rw [c39 g hg] at hp
    omega
  · rw [e39]
    funext g
    show ltF 20 (fun _ => (-1 : Int32)) (fun _ => 0) g = _
    unfold ltF
    by_cases q : g < 20
    · rw [if_pos q, if_pos (by omega)]
    · rw [if_neg q, if_neg (by omega)]
  · rw [c39 g hg] at hp
    omega
  · rw [R46, ltF_lt hc]
    rfl
  · exact (ty_zero 100).symm
  · exact ⟨(R40 j).trans (ltF_ge (by omega)), (R41 j).trans (ltF_ge (by omega)), (R42 j).trans (ltF_ge (by omega)), (R43 j).trans (ltF_ge (by omega)), (R44 j).trans (ltF_ge (by omega)), (R45 j).trans (ltF_ge (by omega))⟩
  · rw [e39]
    exact if_neg (by omega)
  · exact ⟨(R47 j).trans (ltF_ge (by omega)), (R49 j).trans (ltF_ge (by omega)), (R50 j).trans (ltF_ge (by omega)), (R53 j).trans (ltF_ge (by omega))⟩
  · exact ⟨(R51 j).trans (ltF_ge (by omega)), (R52 j).trans (ltF_ge (by omega))⟩
set_option maxRecDepth 100000 in
theorem law_begin : exC X 175 [.ref 100000] [] = exM X 175 23 [some (.ref 100000), some (.ref 0), some (.ref 35), some (.ref 57), some (.int (nI 0)), none, none] [] (WW (bgR (nwC ZZ)) [outc fun _ => 0]) 58 7719 := by
  rw [ent_175]
  refine (s175_0 (h := []) (show 0 < 99999 by omega)).trans ?_
  refine (s175_3).trans ?_
  refine (show exM X 175 4 [some (.ref 100000), none, none, none, none, none, none] [.ref 0, .ref 0] [.inr (8, dfl 8)] 1 2 = _ from s175_4).trans ?_
  refine (bnd_of k_card).trans ?_
  refine (show exM X 175 7 [some (.ref 100000), none, none, none, none, none, none] [.ref 0] CW 35 4094 = _ from s175_7).trans ?_
  refine (s175_8 (h := CW) (show 35 < 99999 by omega)).trans ?_
  refine (s175_11).trans ?_
  refine (show exM X 175 12 [some (.ref 100000), some (.ref 0), none, none, none, none, none] [.ref 35, .ref 35] (CW ++ [.inr (9, dfl 9)]) 36 4118 = _ from s175_12).trans ?_
  refine (bnd_of k_model).trans ?_
  refine (show exM X 175 15 [some (.ref 100000), some (.ref 0), none, none, none, none, none] [.ref 35] (WW (bgR (nwC ZZ)) []) 57 7718 = _ from s175_15).trans ?_
  refine (s175_16).trans ?_
  refine (s175_17 (n := 1) (h := WW (bgR (nwC ZZ)) []) (by omega) (by rw [WW_len]; show 57 + 0 < 99999; omega)).trans ?_
  refine (show exM X 175 19 [some (.ref 100000), some (.ref 0), some (.ref 35), none, none, none, none] [.ref 57] (WW (bgR (nwC ZZ)) [outc fun _ => 0]) 58 7719 = _ from s175_19).trans ?_
  refine (s175_20).trans ?_
  exact s175_21
/-- the law answers 1, in its room -/
theorem law_fin (hX : X.1 ≤ 2560) : FIN (exC X 175 [.ref 100000] []) 601024 7293034 := by
  rw [law_begin]
  have := law_loop hX 512 0 (bgR (nwC ZZ)) (fun _ => 0) [] 0 0 0 58 7719 none none INV_0 rfl (by omega) (by omega) (by show 58 + 0 + 32 * 512 + 100 ≤ 99999; omega)
  exact FIN_mono this (by omega) (by omega)
end INIT
