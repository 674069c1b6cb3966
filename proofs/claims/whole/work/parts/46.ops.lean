/-! CALLS: tyres, retirements, ranks, the season -/
section OPS3
variable {X : rX} {σ σ' : Nat → Nat → Int32} {t : rH} {N r n : Nat}
theorem a_alloc (h : INV σ N r n) (a b : Int32) : AGR X t [2, 1, 0] 90 [.ref 0, .int a, .int b] 137 [.ref 35, .int a, .int b] σ r n := by
  by_cases ha : inR a 10
  · obtain ⟨c, hc, rfl⟩ := ha
    by_cases hb : inR b 100
    · obtain ⟨k, hk, rfl⟩ := hb
      obtain ⟨e1, e2, e3, e4, e5, e6, e7, e8, e9, e10, e12, e13⟩ := h.2.1
      by_cases hn : σ 26 (100 * c + k) = nI 0 ∧ σ 28 c < nI 6
      · have p0 := p_alloc0 (X := X) (σ := σ) (t := t) hc hk hn
        have q0 := fun (t : rH) => q_alloc0 (X := X) (σ := u2 (u2 σ 26 (100 * c + k) (nI 1)) 28 c (σ 28 c + nI 1)) (t := t) hc hk (by show σ 51 _ = nI 0; rw [← e10]; exact hn.1) (by show σ 53 c < nI 6; rw [← e13]; exact hn.2)
        have ev : u2 (u2 σ 26 (100 * c + k) (nI 1)) 28 c (σ 28 c + nI 1) 53 c = σ 28 c := by
          show σ 53 c = σ 28 c
          rw [e13]
        rw [ev] at q0
        refine Or.inr ⟨_, _, _, N, p0, q0, rfl, ?_⟩
        refine ⟨GA_next (GA_congr h.1 rfl ⟨⟨rfl, rfl, rfl, rfl, rfl⟩, ⟨rfl, rfl, rfl⟩, ⟨rfl, rfl, rfl, rfl, rfl, rfl, rfl⟩, rfl, rfl, rfl, rfl⟩), ⟨e1, e2, e3, e4, e5, e6, e7, e8, e9, ?_, e12, ?_⟩, GL_congr h.2.2.1 rfl rfl rfl, GY_congr h.2.2.2.1 rfl rfl rfl rfl, ⟨h.2.2.2.2.1.1, h.2.2.2.2.1.2.1, fun j hj => ?_, fun j hj => ?_⟩, RES_congr h.2.2.2.2.2.1 rfl rfl rfl, h.2.2.2.2.2.2.1, h.2.2.2.2.2.2.2⟩
        · show upd (σ 26) (100 * c + k) (nI 1) = upd (σ 51) (100 * c + k) (nI 1)
          rw [e10]
        · show upd (σ 28) c (σ 28 c + nI 1) = upd (σ 53) c (σ 28 c + nI 1)
          rw [e13]
        · obtain ⟨w1, w2, w3, w4⟩ := h.2.2.2.2.1.2.2.1 j hj
          exact ⟨w1, w2, w3, (upd_ne (by omega)).trans w4⟩
        · obtain ⟨w1, w2⟩ := h.2.2.2.2.1.2.2.2 j hj
          exact ⟨(upd_ne (by omega)).trans w1, w2⟩
      · exact Or.inl ⟨2, 0, rfl, p_alloc3 hc hk hn, q_alloc3 hc hk (by rw [← e10, ← e13]; exact hn)⟩
    · exact Or.inl ⟨1, 1, rfl, p_alloc2 hc hb, q_alloc2 hc hb⟩
  · exact Or.inl ⟨0, 2, rfl, p_alloc1 ha, q_alloc1 ha⟩
theorem ty_upd {fn : Nat → Int32} {c k : Nat} (h0 : fn (100 * c + k) = nI 0) : ∀ m, tyF (upd fn (100 * c + k) (nI 1)) c m = if k < m then tyF fn c m + nI 600 else tyF fn c m
  | 0 => rfl
  | m + 1 => by
    have ih := ty_upd h0 m
    by_cases q : m = k
    · subst q
      rw [if_neg (by omega)] at ih
      rw [if_pos (by omega)]
      unfold tyF
      rw [upd_eq, if_neg n1_0, if_pos h0, ih]
    · by_cases q2 : k < m
      · rw [if_pos q2] at ih
        rw [if_pos (by omega)]
        unfold tyF
        rw [upd_ne (by omega), ih]
        split
        · rfl
        · ac_rfl
      · rw [if_neg q2] at ih
        rw [if_neg (by omega)]
        unfold tyF
        rw [upd_ne (by omega), ih]
theorem ty_congr {fn fn' : Nat → Int32} {c : Nat} : ∀ m, (∀ j, j < m → fn' (100 * c + j) = fn (100 * c + j)) → tyF fn' c m = tyF fn c m
  | 0, _ => rfl
  | m + 1, h => by
    unfold tyF
    rw [h m (by omega), ty_congr m fun j hj => h j (by omega)]
theorem a_seen (h : INV σ N r n) (a b : Int32) : AGR X t [2, 1] 91 [.ref 0, .int a, .int b] 138 [.ref 35, .int a, .int b] σ r n := by
  by_cases ha : inR a 10
  · obtain ⟨c, hc, rfl⟩ := ha
    by_cases hb : inR b 100
    · obtain ⟨k, hk, rfl⟩ := hb
      obtain ⟨e1, e2, e3, e4, e5, e6, e7, e8, e9, e10, e12, e13⟩ := h.2.1
      by_cases hn : σ 26 (100 * c + k) = nI 0 ∧ σ 27 (100 * c + k) = nI 0
      · have p0 := p_seen0 (X := X) (σ := σ) (t := t) hc hk hn
        have q0 := fun (t : rH) => q_seen0 (X := X) (σ := u2 (u2 σ 27 (100 * c + k) (nI 1)) 29 c (σ 29 c + nI 600)) (t := t) hc hk (by show σ 51 _ = nI 0; rw [← e10]; exact hn.1) (by show σ 52 _ = nI 0; rw [← e12]; exact hn.2)
        refine Or.inr ⟨_, _, _, N, p0, q0, rfl, ?_⟩
        refine ⟨GA_next (GA_congr h.1 rfl ⟨⟨rfl, rfl, rfl, rfl, rfl⟩, ⟨rfl, rfl, rfl⟩, ⟨rfl, rfl, rfl, rfl, rfl, rfl, rfl⟩, rfl, rfl, rfl, rfl⟩), ⟨e1, e2, e3, e4, e5, e6, e7, e8, e9, e10, ?_, e13⟩, GL_congr h.2.2.1 rfl rfl rfl, ⟨fun q hq => ?_, fun j hj => ?_⟩, ⟨h.2.2.2.2.1.1, h.2.2.2.2.1.2.1, h.2.2.2.2.1.2.2.1, fun j hj => ?_⟩, RES_congr h.2.2.2.2.2.1 rfl rfl rfl, h.2.2.2.2.2.2.1, h.2.2.2.2.2.2.2⟩
        · show upd (σ 27) (100 * c + k) (nI 1) = upd (σ 52) (100 * c + k) (nI 1)
          rw [e12]
        · obtain ⟨y1, y2⟩ := h.2.2.2.1.1 q hq
          show upd (σ 46) c (σ 46 c + nI 600) q = σ 13 q + upd (σ 29) c (σ 29 c + nI 600) q ∧ upd (σ 29) c (σ 29 c + nI 600) q = tyF (upd (σ 27) (100 * c + k) (nI 1)) q 100
          by_cases w : q = c
          · subst w
            rw [upd_eq, upd_eq, ty_upd hn.2, if_pos hk, ← y2, y1]
            exact ⟨by ac_rfl, rfl⟩
          · rw [upd_ne w, upd_ne w, ty_congr (fn := σ 27) 100 fun j hj => upd_ne (by omega)]
            exact ⟨y1, y2⟩
        · show upd (σ 27) (100 * c + k) (nI 1) j = nI 0 ∨ upd (σ 27) (100 * c + k) (nI 1) j = nI 1
          by_cases w : j = 100 * c + k
          · subst w
            rw [upd_eq]
            exact Or.inr rfl
          · rw [upd_ne w]
            exact h.2.2.2.1.2 j hj
        · obtain ⟨w1, w2⟩ := h.2.2.2.2.1.2.2.2 j hj
          exact ⟨w1, (upd_ne (by omega)).trans w2⟩
      · have p0 := p_seen0n (X := X) (σ := σ) (t := t) hc hk hn
        have q0 := fun (t : rH) => q_seen0n (X := X) (σ := σ) (t := t) hc hk (by rw [← e12]; exact h.2.2.2.1.2 (100 * c + k) (by omega)) (by rw [← e10, ← e12]; exact hn)
        exact Or.inr ⟨_, _, _, N, p0, q0, rfl, INV_next h⟩
    · exact Or.inl ⟨1, 1, rfl, p_seen2 hc hb, q_seen2 hc hb⟩
  · exact Or.inl ⟨0, 2, rfl, p_seen1 ha, q_seen1 ha⟩
theorem a_retire (h : INV σ N r n) (a : Int32) {z : Int32} (hz : z = nI 0 ∨ z = nI 1) : AGV X t [2, 0] 92 [.ref 0, .int a, .int z] 139 [.ref 35, .int a, .int z] σ r n := by
  by_cases ha : inR a 10
  · obtain ⟨c, hc, rfl⟩ := ha
    obtain ⟨e1, e2, e3, e4, e5, e6, e7, e8, e9, e10, e12, e13⟩ := h.2.1
    by_cases hr : runP σ c
    · obtain ⟨g1, g2⟩ := (run_iff h hc).mp hr
      have p0 := p_retire0 (X := X) (t := t) hc hr hz
      have q0 := q_retire0 (X := X) (σ := u2 (u2 σ 15 c (nI 1)) 16 c z) (t := t) hc g2 g1 hz
      refine Or.inr ⟨_, _, N, p0, q0, rfl, ?_⟩
      refine ⟨GA_next (GA_congr h.1 rfl ⟨⟨rfl, rfl, rfl, rfl, rfl⟩, ⟨rfl, rfl, rfl⟩, ⟨rfl, rfl, rfl, rfl, rfl, rfl, rfl⟩, rfl, rfl, rfl, rfl⟩), ⟨e1, e2, e3, e4, e5, e6, e7, ?_, ?_, e10, e12, e13⟩, fun q hq => ?_, GY_congr h.2.2.2.1 rfl rfl rfl rfl, ⟨h.2.2.2.2.1.1, h.2.2.2.2.1.2.1, fun j hj => ?_, h.2.2.2.2.1.2.2.2⟩, RES_congr h.2.2.2.2.2.1 rfl rfl rfl, h.2.2.2.2.2.2.1, h.2.2.2.2.2.2.2⟩
      · show upd (σ 15) c (nI 1) = upd (σ 49) c (nI 1)
        rw [e8]
      · show upd (σ 16) c z = upd (σ 50) c z
        rw [e9]
      · obtain ⟨l1, l2⟩ := h.2.2.1 q hq
        refine ⟨l1, ?_⟩
        show upd (σ 15) c (nI 1) q = nI 0 ∨ upd (σ 15) c (nI 1) q = nI 1
        by_cases w : q = c
        · subst w
          rw [upd_eq]
          exact Or.inr rfl
        · rw [upd_ne w]
          exact l2
      · obtain ⟨w1, w2, w3, w4⟩ := h.2.2.2.2.1.2.2.1 j hj
        exact ⟨w1, (upd_ne (by omega)).trans w2, (upd_ne (by omega)).trans w3, w4⟩
    · refine Or.inl ⟨1, 0, rfl, p_retire2 hc hr, q_retire2 hc fun z => hr ((run_iff h hc).mpr ⟨z.2, z.1⟩)⟩
  · exact Or.inl ⟨0, 2, rfl, p_retire1 ha, q_retire1 ha⟩
theorem INV_rank (h : INV σ N r n) {z : Int32} : INV (layR (nI 0) (u2 (rkC z σ N) 35 0 (nI 0)) N) N r (n + 1) := INV_layR (INV_next (INV_rkC h))
theorem RK_rkC (h : INV σ N r n) {z : Int32} : RK (rkC z σ N) N := RK_of (INV_rkC (z := z) h)
theorem rnk_rkC {z w : Int32} {c : Nat} : rnkR w (rkC z σ N) N c = rnkR w σ N c := rfl
theorem ttR_rkC {z : Int32} {c : Nat} : ttR (rkC z σ N) N c = ttR σ N c := rfl
theorem a_car (h : INV σ N r n) (hn : n ≤ 512) (a b : Int32) : AGR X t [2, 1] 93 [.ref 0, .int a, .int b] 146 [.ref 35, .int a, .int b] σ r n := by
  have hA := h.1.1.1
  by_cases ha : inR a 10
  · obtain ⟨c, hc, rfl⟩ := ha
    by_cases hb : inR b 6
    · obtain ⟨k, hk, rfl⟩ := hb
      obtain ⟨e1, e2, e3, e4, e5, e6, e7, e8, e9, e10, e12, e13⟩ := h.2.1
      rcases (by omega : k = 0 ∨ k = 1 ∨ k = 2 ∨ k = 3 ∨ k = 4 ∨ k = 5) with rfl | rfl | rfl | rfl | rfl | rfl
      · have p0 := p_carA (X := X) (σ := σ) (t := t) hc
        rw [← (h.2.2.2.1.1 c hc).1] at p0
        exact Or.inr ⟨_, _, _, N, p0, fun _ => q_carA hc, rfl, INV_next h⟩
      · have p0 := p_carB (X := X) (σ := σ) (t := t) hc
        rw [e7] at p0
        exact Or.inr ⟨_, _, _, N, p0, fun _ => q_carB hc, rfl, INV_next h⟩
      · have p0 := p_carC (X := X) (σ := σ) (t := t) hc
        have q0 := fun (t : rH) => q_carC (X := X) (σ := σ) (t := t) hc
        have e : (if σ 48 c = nI 0 then nI 0 else nI 1) = if nI 30 < σ 14 c then nI 1 else nI 0 := by
          by_cases w : nI 30 < σ 14 c
          · rw [if_pos w, if_neg (fun z => (out_iff h.2.2.1 hc).mp z w)]
          · rw [if_neg w, if_pos ((out_iff h.2.2.1 hc).mpr w)]
        rw [e] at q0
        exact Or.inr ⟨_, _, _, N, p0, q0, rfl, INV_next h⟩
      · have hb := (h.2.2.1 c hc).2
        have p0 := p_carD (X := X) (σ := σ) (t := t) hc hb
        have q0 := fun (t : rH) => q_carD (X := X) (σ := σ) (t := t) hc
        have e : (if σ 49 c = nI 0 then nI 0 else nI 1) = σ 15 c := by
          rw [e8] at hb ⊢
          rcases hb with w | w
          · rw [w, if_pos rfl]
          · rw [w, if_neg n1_0]
        rw [e] at q0
        exact Or.inr ⟨_, _, _, N, p0, q0, rfl, INV_next h⟩
      · have p0 := p_carE (X := X) (t := t) hA hc
        have q0 := fun (t : rH) => q_carE (X := X) (t := t) (RK_of h) hc
        rw [tt_eq h hc] at q0
        exact Or.inr ⟨_, _, _, N, p0, q0, rfl, INV_layR (INV_next h)⟩
      · have p0 := p_carF (X := X) (t := t) hA (hz_of h) hc
        have q0 := fun (t : rH) => q_carF (X := X) (t := t) (RK_rkC (z := nI 0) h) hc
        rw [rnk_rkC, ← rk_eq h hn hc] at q0
        exact Or.inr ⟨_, _, _, N, p0, q0, rfl, INV_rank h⟩
    · exact Or.inl ⟨1, 1, rfl, p_car2 hc hb, q_car2 hc hb⟩
  · exact Or.inl ⟨0, 2, rfl, p_car1 ha, q_car1 ha⟩
theorem a_anew (h : INV σ N r n) (a : Int32) : AGR X t [2] 94 [.ref 0, .int a] 147 [.ref 35, .int a] σ r n := by
  by_cases ha : inR a 10
  · obtain ⟨c, hc, rfl⟩ := ha
    have p0 := p_anew0 (X := X) (t := t) h.1.1.1 h.1.1.2.1 (fun j hj hk => SG_of h hj hk) (CH_of h) hc
    have q0 := fun (t : rH) => q_anew0 (X := X) (t := t) (RK_of h) hc
    have e : ttR σ N c = smF (σ 23) (σ 24) c N + pfF (σ 36) (σ 37) (σ 38) (σ 39) (σ 11) (σ 12) c N + tyF (σ 27) c 100 := by
      rw [tt_eq h hc]
      show smF (σ 23) (σ 24) c N + (σ 13 c + σ 29 c) = _
      rw [h.1.2.2.2.1 c hc, (h.2.2.2.1.1 c hc).2, Int32.add_assoc]
    rw [e] at q0
    exact Or.inr ⟨_, _, _, N, p0, q0, rfl, INV_next h⟩
  · exact Or.inl ⟨0, 2, rfl, p_anew1 ha, q_anew1 ha⟩
theorem a_ranked (h : INV σ N r n) (hn : n ≤ 512) (a : Int32) : AGR X t [1] 95 [.ref 0, .int a] 148 [.ref 35, .int a] σ r n := by
  by_cases ha : inR a 10
  · obtain ⟨p, hp, rfl⟩ := ha
    have p0 := p_ranked0 (X := X) (t := t) h.1.1.1 (hz_of h) hp (rk_uni (nI 0) (by omega))
    have q0 := fun (t : rH) => q_ranked0 (X := X) (t := t) (RK_rkC (z := nI 0) h) hp
    have e : plcF (rnkR (nI 0) (rkC (nI 0) σ N) N) (nI p) 10 = plcF (rkC (nI 0) σ N 34) (nI p) 10 := plcF_eq 10 fun k hk => (rk_eq h hn hk).symm
    rw [e] at q0
    exact Or.inr ⟨_, _, _, N, p0, q0, rfl, INV_rank h⟩
  · exact Or.inl ⟨0, 1, rfl, p_ranked1 ha, q_ranked1 ha⟩
theorem a_points (h : INV σ N r n) (a : Int32) : AGR X t [2] 97 [.ref 0, .int a] 152 [.ref 35, .int a] σ r n := by
  by_cases ha : inR a 10
  · obtain ⟨c, hc, rfl⟩ := ha
    exact Or.inr ⟨_, _, _, N, p_points0 h.2.2.2.2.2.1 hc, fun _ => q_points0 (RP_of h) hc, rfl, INV_next h⟩
  · exact Or.inl ⟨0, 2, rfl, p_points1 ha, q_points1 ha⟩
theorem a_table (h : INV σ N r n) (a : Int32) : AGR X t [1] 98 [.ref 0, .int a] 155 [.ref 35, .int a] σ r n := by
  by_cases ha : inR a 10
  · obtain ⟨p, hp, rfl⟩ := ha
    exact Or.inr ⟨_, _, _, N, p_table0 h.2.2.2.2.2.1 hp, fun _ => q_table0 (RP_of h) hp, rfl, INV_next h⟩
  · exact Or.inl ⟨0, 1, rfl, p_table1 ha, q_table1 ha⟩
end OPS3
