/-! CALLS: the rally closed -/
section CLO2
variable {X : rX} {σ σ' : Nat → Nat → Int32} {t : rH} {N r n : Nat}
theorem ty_zero {c : Nat} : ∀ m, tyF (fun _ => 0) c m = nI 0
  | 0 => rfl
  | m + 1 => by
    unfold tyF
    rw [if_pos nIz, ty_zero m]
theorem ltF_j {m : Nat} {a f : Nat → Int32} (h : ∀ j, m ≤ j → f j = 0) : ltF m a f = ltF m a fun _ => 0 := by
  funext j
  unfold ltF
  by_cases q : j < m
  · rw [if_pos q, if_pos q]
  · rw [if_neg q, if_neg q, h j (by omega)]
theorem ltF_zero {m : Nat} {f : Nat → Int32} (h : ∀ j, m ≤ j → f j = 0) : ltF m (fun _ => nI 0) f = fun _ => 0 := by
  funext j
  unfold ltF
  by_cases q : j < m
  · rw [if_pos q]; exact nIz.symm
  · rw [if_neg q, h j (by omega)]
theorem RES_close (h : RES σ r) (hr : r < 6) {x : Nat → Int32} (hx : ∀ c, c < 10 → okP (x c)) (e1 : σ' 1 1 = nI (r + 1)) (e2 : σ' 2 = ntJ (σ 2) x r 10) (e54 : ∀ c, c < 10 → σ' 54 (10 * r + c) = x c) (o54 : ∀ k, k < r → ∀ c, c < 10 → σ' 54 (10 * k + c) = σ 54 (10 * k + c)) : RES σ' (r + 1) := by
  obtain ⟨r6, h1, hP, hS⟩ := h
  refine ⟨by omega, e1, fun k hk c hc => ?_, fun c hc => ?_⟩
  · by_cases q : k = r
    · subst q
      rw [e54 c hc]
      exact hx c hc
    · rw [o54 k (by omega) c hc]
      exact hP k (by omega) c hc
  · obtain ⟨⟨s1, s2, s3⟩, s4⟩ := hS c hc
    have hv := vl_le (hx c hc)
    have row : ∀ i, i < 6 → σ' 2 (6 * c + i) = ntF (σ 2) c r (vl (x c)) (6 * c + i) := fun i hi => by
      rw [e2, ntJ_row hr 10 i hi, if_pos hc]
    generalize hvv : vl (x c) = v at hv row
    have hq := qF_le (v := v) (f := fC σ c) r
    have val : ∀ i, i < r + 1 → σ' 2 (6 * c + i) = nI (insF (fC σ c) (qF v (fC σ c) r) v i) := fun i hi => by
      rw [row i (by omega)]
      show upd (shF (σ 2) c r (qF v (fC σ c) r)) (6 * c + qF v (fC σ c) r) (nI v) (6 * c + i) = _
      generalize qF v (fC σ c) r = q at hq
      unfold insF
      by_cases w1 : i < q
      · rw [if_pos w1, upd_ne (by omega)]
        unfold shF
        rw [if_neg (by omega), s4 i (by omega)]
      · rw [if_neg w1]
        by_cases w2 : i = q
        · subst w2
          rw [if_pos rfl, upd_eq]
        · rw [if_neg w2, upd_ne (by omega)]
          unfold shF
          rw [if_pos (by omega), show 6 * c + i - 1 = 6 * c + (i - 1) by omega, s4 (i - 1) (by omega)]
    have bd : ∀ i, i < r + 1 → insF (fC σ c) (qF v (fC σ c) r) v i ≤ 10 := fun i hi => by
      unfold insF
      split
      · exact s2 i (by omega)
      · split
        · exact hv
        · exact s2 (i - 1) (by omega)
    have fc : ∀ i, i < r + 1 → fC σ' c i = insF (fC σ c) (qF v (fC σ c) r) v i := fun i hi => by
      have := bd i hi
      unfold fC
      rw [val i hi, cnt_nI (by omega)]
      rfl
    refine ⟨⟨fun m k hmk hk => ?_, fun i hi => by rw [fc i hi]; exact bd i hi, fun hh => ?_⟩, fun i hi => by rw [fc i hi]; exact val i hi⟩
    · rw [fc m (by omega), fc k hk]
      exact SRT_ins s1 m k hmk hk
    · rw [sg_congr (r + 1) fc, sg_ins r hq]
      show _ = sg hh (gR (σ' 54) c) r + hh (vl (σ' 54 (10 * r + c)))
      rw [e54 c hc, hvv, s3 hh, sg_congr (f := gR (σ' 54) c) (g := gR (σ 54) c) r fun m hm => by
        show vl _ = vl _
        rw [o54 m hm c hc]]
theorem INV_close (h : INV σ N r n) (hr : r ≠ 6) (hn : n ≤ 512) : INV (bgR (ovR (u2 (nwC (clC9 σ N r)) 1 1 (nI (r + 1))) N r)) 0 (r + 1) (n + 1) := by
  obtain ⟨j1, j2, j3, j4⟩ := h.2.2.2.2.1
  have hR := h.2.2.2.2.2.1
  have e39 : bgR (ovR (u2 (nwC (clC9 σ N r)) 1 1 (nI (r + 1))) N r) 39 = fun g => if 10 * g < 200 then -1 else σ 39 g := rfl
  have g39 : ∀ g, g < 20 → bgR (ovR (u2 (nwC (clC9 σ N r)) 1 1 (nI (r + 1))) N r) 39 g = -1 := fun g hg => by
    rw [e39]
    exact if_pos (by omega)
  have c39 : ∀ g, g < 20 → cnt (bgR (ovR (u2 (nwC (clC9 σ N r)) 1 1 (nI (r + 1))) N r) 39 g) = 0 := fun g hg => by rw [g39 g hg, cnt_m1]
  have R40 : ∀ j, bgR (ovR (u2 (nwC (clC9 σ N r)) 1 1 (nI (r + 1))) N r) 40 j = ltF 200 (fun _ => (-1 : Int32)) (σ 40) j := fun _ => rfl
  have R41 : ∀ j, bgR (ovR (u2 (nwC (clC9 σ N r)) 1 1 (nI (r + 1))) N r) 41 j = ltF 200 (fun _ => nI 0) (σ 41) j := fun _ => rfl
  have R42 : ∀ j, bgR (ovR (u2 (nwC (clC9 σ N r)) 1 1 (nI (r + 1))) N r) 42 j = ltF 200 (fun _ => (-1 : Int32)) (σ 42) j := fun _ => rfl
  have R43 : ∀ j, bgR (ovR (u2 (nwC (clC9 σ N r)) 1 1 (nI (r + 1))) N r) 43 j = ltF 200 (fun _ => (-1 : Int32)) (σ 43) j := fun _ => rfl
  have R44 : ∀ j, bgR (ovR (u2 (nwC (clC9 σ N r)) 1 1 (nI (r + 1))) N r) 44 j = ltF 200 (fun _ => nI 0) (σ 44) j := fun _ => rfl
  have R45 : ∀ j, bgR (ovR (u2 (nwC (clC9 σ N r)) 1 1 (nI (r + 1))) N r) 45 j = ltF 200 (fun _ => (-1 : Int32)) (σ 45) j := fun _ => rfl
  have R46 : ∀ j, bgR (ovR (u2 (nwC (clC9 σ N r)) 1 1 (nI (r + 1))) N r) 46 j = ltF 10 (fun _ => nI 0) (σ 46) j := fun _ => rfl
  have R47 : ∀ j, bgR (ovR (u2 (nwC (clC9 σ N r)) 1 1 (nI (r + 1))) N r) 47 j = ltF 10 (fun _ => nI 0) (σ 47) j := fun _ => rfl
  have R48 : ∀ j, bgR (ovR (u2 (nwC (clC9 σ N r)) 1 1 (nI (r + 1))) N r) 48 j = ltF 10 (fun _ => nI 0) (σ 48) j := fun _ => rfl
  have R49 : ∀ j, bgR (ovR (u2 (nwC (clC9 σ N r)) 1 1 (nI (r + 1))) N r) 49 j = ltF 10 (fun _ => nI 0) (σ 49) j := fun _ => rfl
  have R50 : ∀ j, bgR (ovR (u2 (nwC (clC9 σ N r)) 1 1 (nI (r + 1))) N r) 50 j = ltF 10 (fun _ => nI 0) (σ 50) j := fun _ => rfl
  have R53 : ∀ j, bgR (ovR (u2 (nwC (clC9 σ N r)) 1 1 (nI (r + 1))) N r) 53 j = ltF 10 (fun _ => nI 0) (σ 53) j := fun _ => rfl
  have R51 : ∀ j, bgR (ovR (u2 (nwC (clC9 σ N r)) 1 1 (nI (r + 1))) N r) 51 j = ltF 1000 (fun _ => nI 0) (σ 51) j := fun _ => rfl
  have R52 : ∀ j, bgR (ovR (u2 (nwC (clC9 σ N r)) 1 1 (nI (r + 1))) N r) 52 j = ltF 1000 (fun _ => nI 0) (σ 52) j := fun _ => rfl
  have m1 : ∀ j, j < 200 → ltF 200 (fun _ => (-1 : Int32)) (fun _ => 0) j = -1 := fun j hj => ltF_lt hj
  have m2 : ∀ j, j < 20 → ltF 20 (fun _ => (-1 : Int32)) (fun _ => 0) j = -1 := fun j hj => ltF_lt hj
  refine ⟨⟨⟨⟨by omega, rfl, fun i hi => by omega, fun z => by omega, fun i hi => by omega⟩, ⟨fun g hg => ⟨Or.inl (g39 g hg), fun p hp => ?_⟩, fun g hg p hp => ?_, ?_, fun g hg p q hp => ?_⟩, fun i hi => by omega, fun _ => g39 0 (by omega)⟩, ⟨fun j hj => Or.inl (m1 j hj), fun i hi => by omega⟩, fun j hj => ⟨0, by omega, rfl⟩, fun c hc => rfl, ⟨fun j hj => ⟨Or.inl (m1 j hj), Or.inl (m1 j hj), Or.inl (m1 j hj)⟩, fun i hi => by omega, fun j hj => by omega⟩, fun _ => ⟨fun j hj => ⟨m1 j hj, m1 j hj, m1 j hj, m1 j hj, rfl, m1 j hj, m1 j hj⟩, fun g hg => ⟨m2 g hg, g39 g hg⟩⟩⟩,
    ⟨(ltF_j fun j hj => (j1 j hj).1).symm, (ltF_zero fun j hj => (j1 j hj).2.1).symm, (ltF_j fun j hj => (j1 j hj).2.2.1).symm, (ltF_j fun j hj => (j1 j hj).2.2.2.1).symm, (ltF_zero fun j hj => (j1 j hj).2.2.2.2.1).symm, (ltF_j fun j hj => (j1 j hj).2.2.2.2.2).symm, (ltF_zero fun j hj => (j3 j hj).1).symm, (ltF_zero fun j hj => (j3 j hj).2.1).symm, (ltF_zero fun j hj => (j3 j hj).2.2.1).symm, (ltF_zero fun j hj => (j4 j hj).1).symm, (ltF_zero fun j hj => (j4 j hj).2).symm, (ltF_zero fun j hj => (j3 j hj).2.2.2).symm⟩,
    fun c hc => ⟨⟨fun z => absurd z (nI_nlt (a := 30) (b := 0) (by omega) (by omega)), fun _ => (R48 c).trans (ltF_lt hc)⟩, Or.inl rfl⟩, ⟨fun c hc => ⟨?_, ?_⟩, fun j hj => Or.inl rfl⟩, ⟨fun j hj => ?_, fun j hj => ?_, fun j hj => ?_, fun j hj => ?_⟩, RES_close (x := rkC (nI 0) σ N 34) hR (by have := hR.1; omega) (fun c hc => okP_rk h hc) rfl rfl (fun c hc => ?_) (fun k hk c hc => ?_), rfl, rfl⟩
  · rw [c39 g hg] at hp
    omega
  · rw [c39 g hg] at hp
    omega
  · rw [e39]
    funext g
    show ltF 20 (fun _ => (-1 : Int32)) (fun _ => 0) g = _
    unfold ltF
    by_cases q : g < 20
    · rw [if_pos q, if_pos (by omega)]
    · rw [if_neg q, if_neg (by omega), j2 g (by omega)]
  · rw [c39 g hg] at hp
    omega
  · rw [R46, ltF_lt hc]
    rfl
  · exact (ty_zero 100).symm
  · obtain ⟨w1, w2, w3, w4, w5, w6⟩ := j1 j hj
    exact ⟨(R40 j).trans ((ltF_ge (by omega)).trans w1), (R41 j).trans ((ltF_ge (by omega)).trans w2), (R42 j).trans ((ltF_ge (by omega)).trans w3), (R43 j).trans ((ltF_ge (by omega)).trans w4), (R44 j).trans ((ltF_ge (by omega)).trans w5), (R45 j).trans ((ltF_ge (by omega)).trans w6)⟩
  · rw [e39]
    exact (if_neg (by omega)).trans (j2 j hj)
  · obtain ⟨w1, w2, w3, w4⟩ := j3 j hj
    exact ⟨(R47 j).trans ((ltF_ge (by omega)).trans w1), (R49 j).trans ((ltF_ge (by omega)).trans w2), (R50 j).trans ((ltF_ge (by omega)).trans w3), (R53 j).trans ((ltF_ge (by omega)).trans w4)⟩
  · obtain ⟨w1, w2⟩ := j4 j hj
    exact ⟨(R51 j).trans ((ltF_ge (by omega)).trans w1), (R52 j).trans ((ltF_ge (by omega)).trans w2)⟩
  · show (if 10 * r ≤ 10 * r + c ∧ 10 * r + c < 10 * r + 10 then layR (nI 0) (u2 (u2 (nwC (clC9 σ N r)) 1 1 (nI (r + 1))) 35 0 (nI 0)) N 55 (10 * r + c - 10 * r) else σ 54 (10 * r + c)) = rkC (nI 0) σ N 34 c
    rw [if_pos (by omega), show 10 * r + c - 10 * r = c by omega, layR_55 hc]
    show rnkR (nI 0) σ N c = _
    exact (rk_eq h hn hc).symm
  · show (if 10 * r ≤ 10 * k + c ∧ 10 * k + c < 10 * r + 10 then layR (nI 0) (u2 (u2 (nwC (clC9 σ N r)) 1 1 (nI (r + 1))) 35 0 (nI 0)) N 55 (10 * k + c - 10 * r) else σ 54 (10 * k + c)) = σ 54 (10 * k + c)
    rw [if_neg (by omega)]
theorem a_close (h : INV σ N r n) (hn : n ≤ 512) (hb : 57 + t.length + 40 ≤ 99999) :
    (exC X 96 [.ref 0] (WW σ t) = exT 0 (WW σ t) ∧ exC X 149 [.ref 35] (WW σ t) = ans (nI 0) (WW (u2 σ 35 0 (nI 1)) t)) ∨
    (∃ v σ1 σ2 t1, t1.length = t.length + 32 ∧ PI (swp 3 32 (57 + t.length)) (57 + t.length + 32) ∧ (∃ o, t1 = t.map (re (swp 3 32 (57 + t.length))) ++ o) ∧
      exC X 96 [.ref 0] (WW σ t) = some (.inl (some (.int v)), rh (swp 3 32 (57 + t.length)) (WW σ1 t1), 32, 4030) ∧ (∀ t, exC X 149 [.ref 35] (WW σ1 t) = ans v (WW σ2 t)) ∧ σ2 35 0 = nI 0 ∧ INV σ2 0 (r + 1) (n + 1)) := by
  by_cases hc : r = 6 ∨ σ 39 0 = -1
  · exact Or.inl ⟨p_close1 h hc, q_close1 h.2.2.2.2.2.1.1 h.2.2.2.2.2.2.2 hc⟩
  · have h6 : r ≠ 6 := fun z => hc (Or.inl z)
    have h0 : ¬ σ 39 0 = -1 := fun z => hc (Or.inr z)
    obtain ⟨t1, ht1, hπ, e1, hp⟩ := p_close0 (X := X) h h6 h0 hb
    have hRK : RK (u2 (nwC (clC9 σ N r)) 1 1 (nI (r + 1))) N := by
      have := RK_of h
      exact this
    have hr : r < 6 := by
      have := h.2.2.2.2.2.1.1
      omega
    have hq := fun (t : rH) => q_close0 (X := X) (t := t) hRK hr h.2.2.2.2.2.2.2 h0
    exact Or.inr ⟨_, _, _, t1, ht1, hπ, ⟨_, e1⟩, hp, hq, rfl, INV_close h h6 hn⟩
end CLO2
