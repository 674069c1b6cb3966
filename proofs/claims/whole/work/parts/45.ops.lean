/-! CALLS: delays, stages -/
section OPS2
variable {X : rX} {σ σ' : Nat → Nat → Int32} {t : rH} {N r n : Nat}
theorem dl_no {sp od f : Nat → Int32} {b : Int32} {i g a q : Nat} : ∀ k, (∀ p, p < k → q ≠ 10 * i + carF od g (a + p)) → dlF sp od f b i g a k q = f q
  | 0, _ => rfl
  | k + 1, h => by
    unfold dlF
    split
    · rw [upd_ne (h k (by omega)), dl_no k fun p hp => h p (by omega)]
    · exact dl_no k fun p hp => h p (by omega)
theorem dl_at {sp od f : Nat → Int32} {b : Int32} {i g a q m : Nat} (hu : ∀ p p', p < m → p' < m → carF od g p = carF od g p' → p = p') : ∀ k, a + k ≤ m → dlF sp od f b i g a k q = f q ∨ (sp q = -1 ∧ dlF sp od f b i g a k q = f q + b)
  | 0, _ => Or.inl rfl
  | k + 1, h => by
    have ih := dl_at (sp := sp) (f := f) (b := b) (i := i) (a := a) (q := q) hu k (by omega)
    unfold dlF
    by_cases h1 : sp (10 * i + carF od g (a + k)) = -1
    · rw [if_pos h1]
      by_cases h2 : q = 10 * i + carF od g (a + k)
      · subst h2
        rw [upd_eq, dl_no k fun p hp z => by
          have := hu (a + k) (a + p) (by omega) (by omega) (by omega)
          omega]
        exact Or.inr ⟨h1, rfl⟩
      · rw [upd_ne h2]
        exact ih
    · rw [if_neg h1]
      exact ih
theorem due_dl {kd mi od mn sp dl dl' : Nat → Int32} {c j : Nat} (h : dl' (10 * j + c) = dl (10 * j + c)) : dueF kd mi od mn sp dl' c j = dueF kd mi od mn sp dl c j := by
  unfold dueF
  rw [h]
theorem a_delay (h : INV σ N r n) (a b w : Int32) : AGR X t [2, 1, 0] 85 [.ref 0, .int a, .int b, .int w] 124 [.ref 35, .int a, .int b, .int w] σ r n := by
  have hR := h.2.2.2.2.2.2.1
  have hA := h.1.1.1
  have hN := hA.1
  have hB := h.1.1.2.1
  by_cases ha : inR a N ∧ inR b 10
  · obtain ⟨⟨i, hi, rfl⟩, ⟨c, hc, rfl⟩⟩ := ha
    by_cases hb : σ 36 i = nI 1 ∧ okD w
    · obtain ⟨hk, hw⟩ := hb
      have hg := legF_le (σ 36) i
      have hO := hB.1 (legF (σ 36) i) (by omega)
      rcases plcF_or (fun k => σ 38 (10 * legF (σ 36) i + k)) (nI c) (cnt (σ 39 (legF (σ 36) i))) with e | ⟨p, hp, e⟩
      · exact Or.inl ⟨2, 0, rfl, p_delay3 hA hB hc hi hk hw e, q_delay3 (RK_of h) hc hi hk hw e⟩
      · obtain ⟨e1, e2, e3, e4, e5, e6, e7, e8, e9, e10, e12, e13⟩ := h.2.1
        have hle := okM_le hO.1
        have hRK : RK (sA σ 12 (dlF (σ 11) (σ 38) (σ 12) w i (legF (σ 36) i) p (cnt (σ 39 (legF (σ 36) i)) - p))) N := by
          have := RK_of h
          exact this
        have hq := fun (t : rH) => q_delay0 (X := X) (t := t) (σ := sA σ 12 (dlF (σ 11) (σ 38) (σ 12) w i (legF (σ 36) i) p (cnt (σ 39 (legF (σ 36) i)) - p))) (N := N) (c := c) (i := i) (a := p) (m := w) hRK hc hi hk hw hp e
        have hdn : dnF (σ 11) (σ 38) i (legF (σ 36) i) p (cnt (σ 39 (legF (σ 36) i)) - p) = dnF (σ 40) (σ 38) i (legF (σ 36) i) p (cnt (σ 39 (legF (σ 36) i)) - p) := by rw [e1]
        have hp0 := p_delay0 (X := X) (t := t) hA hB hc hi hk hw hp e
        rw [hdn] at hp0
        refine Or.inr ⟨_, _, _, N, hp0, hq, rfl, ?_⟩
        have hat : ∀ q, _ := fun q => dl_at (sp := σ 11) (f := σ 12) (b := w) (i := i) (a := p) (q := q) (hB.2.2.2 (legF (σ 36) i) (by omega)) (cnt (σ 39 (legF (σ 36) i)) - p) (by omega)
        have hno : ∀ q, 200 ≤ q → dlF (σ 11) (σ 38) (σ 12) w i (legF (σ 36) i) p (cnt (σ 39 (legF (σ 36) i)) - p) q = σ 12 q := fun q hq => dl_no _ fun z hz => by
          have := (hO.2 (p + z) (by omega)).2
          omega
        obtain ⟨u, hu1, hu2, rfl⟩ := hw
        generalize hD : dlF (σ 11) (σ 38) (σ 12) (nI u) i (legF (σ 36) i) p (cnt (σ 39 (legF (σ 36) i)) - p) = D at hat hno
        have hD2 : dlF (σ 40) (σ 38) (σ 41) (nI u) i (legF (σ 36) i) p (cnt (σ 39 (legF (σ 36) i)) - p) = D := by rw [← e1, ← e2]; exact hD
        have hs : sA (u2 (sA σ 12 D) 35 0 (nI 0)) 41 (dlF (sA σ 12 D 40) (sA σ 12 D 38) (sA σ 12 D 41) (nI u) i (legF (sA σ 12 D 36) i) p (cnt (sA σ 12 D 39 (legF (sA σ 12 D 36) i)) - p)) = sA (u2 (sA σ 12 D) 35 0 (nI 0)) 41 D := by
          congr 1
        have goal : INV (sA (u2 (sA σ 12 D) 35 0 (nI 0)) 41 D) N r (n + 1) := by
          refine ⟨⟨GO1_congr h.1.1 rfl rfl rfl rfl rfl rfl rfl rfl rfl rfl, h.1.2.1, fun j hj => ?_, fun q hq => ?_, h.1.2.2.2.2.1, h.1.2.2.2.2.2⟩, ⟨e1, rfl, e3, e4, e5, e6, e7, e8, e9, e10, e12, e13⟩, GL_congr h.2.2.1 rfl rfl rfl, GY_congr h.2.2.2.1 rfl rfl rfl rfl, ⟨fun j hj => ?_, h.2.2.2.2.1.2⟩, RES_congr h.2.2.2.2.2.1 rfl rfl rfl, hR, h.2.2.2.2.2.2.2⟩
          · show ∃ d, d ≤ 60 * (n + 1) ∧ D j = nI d
            obtain ⟨d, d1, d2⟩ := h.1.2.2.1 j hj
            rcases hat j with z | ⟨-, z⟩
            · exact ⟨d, by omega, by rw [z, d2]⟩
            · exact ⟨d + u, by omega, by rw [z, d2, nI_add]⟩
          · show σ 13 q = pfF (σ 36) (σ 37) (σ 38) (σ 39) (σ 11) D q N
            rw [h.1.2.2.2.1 q hq]
            refine (pf_congr N fun j hj => ⟨rfl, fun z => due_dl ?_⟩).symm
            rcases hat (10 * j + q) with w | ⟨w, -⟩
            · exact w
            · exact absurd w z
          · obtain ⟨j1, j2, j3, j4, j5, j6⟩ := h.2.2.2.2.1.1 j hj
            refine ⟨j1, ?_, j3, j4, j5, j6⟩
            show D j = 0
            rw [hno j hj, e2, j2]
        exact hs ▸ goal
    · exact Or.inl ⟨1, 1, rfl, p_delay2 hA hc hi hb, q_delay2 hR hN hc hi hb⟩
  · exact Or.inl ⟨0, 2, rfl, p_delay1 hA ha, q_delay1 hR hN ha⟩
/-! what is told of a stage -/
theorem tell_SG (h : INV σ N r n) {i c : Nat} (hi : i < N) (hk : σ 36 i = nI 2) (hc : c < 10) (ha : ¬ σ 11 (10 * (i - 1) + c) = -1) (q11 : σ' 11 = σ 11) (q22 : σ' 22 = σ 22) (q36 : σ' 36 = σ 36) (hr : ∀ j, j ≠ 10 * i + c → σ' 18 j = σ 18 j ∧ σ' 19 j = σ 19 j) (hx : finM (σ' 18 (10 * i + c)) ∧ finM (σ' 19 (10 * i + c))) (hu : σ' 18 (10 * i + c) = -1 → σ' 19 (10 * i + c) = -1 → σ 18 (10 * i + c) = -1 ∧ σ 19 (10 * i + c) = -1) : SG σ' N i := by
  obtain ⟨s1, s2, s3, s4, s5, s6⟩ := SG_of h hi hk
  refine ⟨s1, s2, by rw [q36]; exact s3, fun j hj => ?_, fun q hq => ?_, fun q hq z1 z2 => ?_⟩
  · by_cases w : j = c
    · subst w; exact hx
    · obtain ⟨a, b⟩ := hr (10 * i + j) (by omega)
      rw [a, b]
      exact s4 j hj
  · rw [q11]
    by_cases w : q = c
    · subst w; exact fun _ => ha
    · obtain ⟨a, b⟩ := hr (10 * i + q) (by omega)
      rw [a, b]
      exact s5 q hq
  · rw [q22]
    by_cases w : q = c
    · subst w
      obtain ⟨a, b⟩ := hu z1 z2
      exact s6 q hq a b
    · obtain ⟨a, b⟩ := hr (10 * i + q) (by omega)
      rw [a] at z1
      rw [b] at z2
      exact s6 q hq z1 z2
theorem GA_tell (h : INV σ N r n) {i c : Nat} (hi : i < N) (hk : σ 36 i = nI 2) (hc : c < 10) (ha : ¬ σ 11 (10 * (i - 1) + c) = -1) (q3 : σ' 3 3 = σ 3 3)
    (e : (σ' 4 = σ 4 ∧ σ' 5 = σ 5 ∧ σ' 6 = σ 6 ∧ σ' 8 = σ 8 ∧ σ' 9 = σ 9) ∧ (σ' 11 = σ 11 ∧ σ' 12 = σ 12 ∧ σ' 13 = σ 13) ∧ (σ' 22 = σ 22 ∧ σ' 23 = σ 23 ∧ σ' 24 = σ 24) ∧ σ' 36 = σ 36 ∧ σ' 37 = σ 37 ∧ σ' 38 = σ 38 ∧ σ' 39 = σ 39)
    (hr : ∀ j, j ≠ 10 * i + c → σ' 18 j = σ 18 j ∧ σ' 19 j = σ 19 j ∧ σ' 20 j = σ 20 j ∧ σ' 21 j = σ 21 j) (hx : finM (σ' 18 (10 * i + c)) ∧ finM (σ' 19 (10 * i + c)) ∧ okW (σ' 20 (10 * i + c))) : GA (rcW σ' i) N n := by
  obtain ⟨⟨e4, e5, e6, e8, e9⟩, ⟨e11, e12, e13⟩, ⟨e22, e23, e24⟩, e36, e37, e38, e39⟩ := e
  have hN := h.1.1.1.1
  have hB := GB_congr (σ' := σ') (GB_of h) q3 ⟨⟨e4, e5, e6, e8, e9⟩, ⟨e11, e12, e13⟩, e36, e37, e38, e39⟩
  have hB2 : GB (rcW σ' i) N n := GB_congr hB rfl ⟨⟨rfl, rfl, rfl, rfl, rfl⟩, ⟨rfl, rfl, rfl⟩, rfl, rfl, rfl, rfl⟩
  refine ⟨hB2.1, hB2.2.1, hB2.2.2.1, hB2.2.2.2, ⟨fun j hj => ?_, fun j hj hkj q hq z => ?_, fun j hj => ?_⟩, fun z => ?_⟩
  · show finM (σ' 18 j) ∧ finM (σ' 19 j) ∧ okW (σ' 20 j)
    by_cases w : j = 10 * i + c
    · subst w; exact hx
    · obtain ⟨a, b, d, -⟩ := hr j w
      rw [a, b, d]
      exact h.1.2.2.2.2.1.1 j hj
  · have hkj : σ' 36 j = nI 2 := hkj
    rw [e36] at hkj
    show ¬ σ' 11 (10 * (j - 1) + q) = -1
    rw [e11]
    have z : ¬ σ' 18 (10 * j + q) = -1 ∨ ¬ σ' 19 (10 * j + q) = -1 ∨ ¬ σ' 20 (10 * j + q) = -1 ∨ ¬ σ' 21 (10 * j + q) = nI 0 := z
    by_cases w : 10 * j + q = 10 * i + c
    · obtain ⟨rfl, rfl⟩ : j = i ∧ q = c := by omega
      exact ha
    · obtain ⟨a, b, d, f⟩ := hr _ w
      rw [a, b, d, f] at z
      exact h.1.2.2.2.2.1.2.1 j hj hkj q hq z
  · by_cases w : j = i
    · subst w
      refine ⟨fun _ => ⟨fun q hq => ?_, fun q hq => ?_, ?_⟩, fun z => ?_⟩
      · show blkN j 10 (ownC σ' j) (σ' 22) (10 * j + q) = ownC σ' j q
        exact blkN_at hq
      · exact rcW_23 hq
      · show upd (σ' 24) j (bstF (tmC σ' j) 10) j = bstF (tmC σ' j) 10
        rw [upd_eq]
      · have z : ¬ σ' 36 j = nI 2 := z
        rw [e36] at z
        exact absurd hk z
    · have out : ∀ q, q < 10 → ¬ (10 * i ≤ 10 * j + q ∧ 10 * j + q < 10 * i + 10) := fun q hq => by omega
      refine CHj_same (h.1.2.2.2.2.1.2.2 j hj) (by show σ' 36 j = _; rw [e36]) (fun hkj q hq => ?_) (fun q hq => ?_) ?_
      · have hw : ∀ q, q < 10 → ownC (rcW σ' i) j q = ownC σ j q := fun q hq => by
          show ownF (σ' 11) (σ' 18) (σ' 19) q j = ownF (σ 11) (σ 18) (σ 19) q j
          rw [e11]
          exact own_congr (fun k hk => ⟨(hr _ (by omega)).1, (hr _ (by omega)).2.1⟩) (fun _ => rfl) hq
        refine ⟨hw q hq, ?_, ?_⟩
        · have hg := legF_le (σ 36) j
          show timeF (σ' 11) (σ' 18) (σ' 19) (σ' 21) (σ' 20) (σ' 38) (σ' 39) (legF (σ' 36) j) q j = timeF (σ 11) (σ 18) (σ 19) (σ 21) (σ 20) (σ 38) (σ 39) (legF (σ 36) j) q j
          rw [e36, e38, e39]
          exact time_congr (h.1.1.2.1.1 _ (by omega)) (fun _ _ => rfl) rfl hw (fun k hk => (hr _ (by omega)).2.2.2) (hr _ (by omega)).2.2.1 hq
        · show blkN i 10 (ownC σ' i) (σ' 22) (10 * j + q) = _
          rw [blkN_out (out q hq), e22]
      · show blkN i 10 (tmC σ' i) (σ' 23) (10 * j + q) = _
        rw [blkN_out (out q hq), e23]
      · show upd (σ' 24) i (bstF (tmC σ' i) 10) j = _
        rw [upd_ne w, e24]
  · have z : σ' 39 0 = -1 := z
    rw [e39] at z
    exact absurd ((h.1.2.2.2.2.2 z).1 (10 * (i - 1) + c) (by omega)).1 ha
theorem a_finish (h : INV σ N r n) (a b w : Int32) {z : Int32} (hz : z = nI 0 ∨ z = nI 1) : AGV X t [2, 1, 0] 86 [.ref 0, .int a, .int b, .int z, .int w] 133 [.ref 35, .int a, .int b, .int z, .int w] σ r n := by
  have hR := h.2.2.2.2.2.2.1
  have hA := h.1.1.1
  have hN := hA.1
  have hB := h.1.1.2.1
  by_cases ha : inR a 10 ∧ inR b N
  · obtain ⟨⟨c, hc, rfl⟩, ⟨i, hi, rfl⟩⟩ := ha
    by_cases hb : σ 36 i = nI 2 ∧ inR w 2000001
    · obtain ⟨hk, hw⟩ := hb
      obtain ⟨hp, hk1⟩ := st_ahead h hi hk
      obtain ⟨e1, e2, e3, e4, e5, e6, e7, e8, e9, e10, e12, e13⟩ := h.2.1
      have hS := h.1.2.1.1 (10 * (i - 1) + c) (by omega)
      by_cases hs : σ 11 (10 * (i - 1) + c) = -1 ∨ w < startF (σ 11) c i
      · refine Or.inl ⟨2, 0, rfl, p_finish3 hA hc hi hk hk1 hw hs, q_finish3 (RK_of h) hc hi hk hw (by rw [← e1]; exact hS) ?_⟩
        rw [← e1]
        exact hs
      · have s1 : ¬ σ 11 (10 * (i - 1) + c) = -1 := fun q => hs (Or.inl q)
        have s2 : ¬ w < startF (σ 11) c i := fun q => hs (Or.inr q)
        have fw : finM w := by
          obtain ⟨k, hk, rfl⟩ := hw
          exact Or.inr ⟨k, by omega, rfl⟩
        have f0 := h.1.2.2.2.2.1.1 (10 * i + c) (by omega)
        have wn : ¬ w = -1 := by
          obtain ⟨k, hk, rfl⟩ := hw
          rw [eq_m1 (by omega)]
          exact id
        rcases hz with rfl | rfl
        · have g := tell_SG (σ' := u2 σ 19 (10 * i + c) w) h hi hk hc s1 rfl rfl rfl (fun j hj => ⟨rfl, upd_ne hj⟩) ⟨f0.1, by show finM (upd (σ 19) (10 * i + c) w (10 * i + c)); rw [upd_eq]; exact fw⟩ (fun _ q => by
            have q : upd (σ 19) (10 * i + c) w (10 * i + c) = -1 := q
            rw [upd_eq] at q
            exact absurd q wn)
          have p0 := p_finish0 (X := X) (t := t) (z := nI 0) hA hB hc hi hk hk1 hw s1 s2 g
          have hRK : RK (rcW (u2 σ 19 (10 * i + c) w) i) N := by
            have := RK_of h
            exact this
          have q0 := q_finish0 (X := X) (t := t) (σ := rcW (u2 σ 19 (10 * i + c) w) i) (N := N) (z := nI 0) hRK hc hi hk hw (by show stM (σ 40 _); rw [← e1]; exact hS) (by show ¬ σ 40 _ = -1; rw [← e1]; exact s1) (by show ¬ w < startF (σ 40) c i; rw [← e1]; exact s2)
          refine Or.inr ⟨_, _, N, p0, q0, rfl, ?_⟩
          have gA := GA_tell (σ' := u2 σ 19 (10 * i + c) w) h hi hk hc s1 rfl ⟨⟨rfl, rfl, rfl, rfl, rfl⟩, ⟨rfl, rfl, rfl⟩, ⟨rfl, rfl, rfl⟩, rfl, rfl, rfl, rfl⟩ (fun j hj => ⟨rfl, upd_ne hj, rfl, rfl⟩) ⟨f0.1, by show finM (upd (σ 19) (10 * i + c) w (10 * i + c)); rw [upd_eq]; exact fw, f0.2.2⟩
          refine ⟨GA_next (GA_congr gA rfl ⟨⟨rfl, rfl, rfl, rfl, rfl⟩, ⟨rfl, rfl, rfl⟩, ⟨rfl, rfl, rfl, rfl, rfl, rfl, rfl⟩, rfl, rfl, rfl, rfl⟩), ⟨e1, e2, e3, ?_, e5, e6, e7, e8, e9, e10, e12, e13⟩, GL_congr h.2.2.1 rfl rfl rfl, GY_congr h.2.2.2.1 rfl rfl rfl rfl, ⟨fun j hj => ?_, h.2.2.2.2.1.2⟩, RES_congr h.2.2.2.2.2.1 rfl rfl rfl, hR, h.2.2.2.2.2.2.2⟩
          · show upd (σ 19) (10 * i + c) w = upd (σ 43) (10 * i + c) w
            rw [e4]
          · obtain ⟨j1, j2, j3, j4, j5, j6⟩ := h.2.2.2.2.1.1 j hj
            exact ⟨j1, j2, j3, (upd_ne (by omega)).trans j4, j5, j6⟩
        · have g := tell_SG (σ' := u2 σ 18 (10 * i + c) w) h hi hk hc s1 rfl rfl rfl (fun j hj => ⟨upd_ne hj, rfl⟩) ⟨by show finM (upd (σ 18) (10 * i + c) w (10 * i + c)); rw [upd_eq]; exact fw, f0.2.1⟩ (fun q _ => by
            have q : upd (σ 18) (10 * i + c) w (10 * i + c) = -1 := q
            rw [upd_eq] at q
            exact absurd q wn)
          have p0 := p_finish0 (X := X) (t := t) (z := nI 1) hA hB hc hi hk hk1 hw s1 s2 g
          have hRK : RK (rcW (u2 σ 18 (10 * i + c) w) i) N := by
            have := RK_of h
            exact this
          have q0 := q_finish0 (X := X) (t := t) (σ := rcW (u2 σ 18 (10 * i + c) w) i) (N := N) (z := nI 1) hRK hc hi hk hw (by show stM (σ 40 _); rw [← e1]; exact hS) (by show ¬ σ 40 _ = -1; rw [← e1]; exact s1) (by show ¬ w < startF (σ 40) c i; rw [← e1]; exact s2)
          refine Or.inr ⟨_, _, N, p0, q0, rfl, ?_⟩
          have gA := GA_tell (σ' := u2 σ 18 (10 * i + c) w) h hi hk hc s1 rfl ⟨⟨rfl, rfl, rfl, rfl, rfl⟩, ⟨rfl, rfl, rfl⟩, ⟨rfl, rfl, rfl⟩, rfl, rfl, rfl, rfl⟩ (fun j hj => ⟨upd_ne hj, rfl, rfl, rfl⟩) ⟨by show finM (upd (σ 18) (10 * i + c) w (10 * i + c)); rw [upd_eq]; exact fw, f0.2.1, f0.2.2⟩
          refine ⟨GA_next (GA_congr gA rfl ⟨⟨rfl, rfl, rfl, rfl, rfl⟩, ⟨rfl, rfl, rfl⟩, ⟨rfl, rfl, rfl, rfl, rfl, rfl, rfl⟩, rfl, rfl, rfl, rfl⟩), ⟨e1, e2, ?_, e4, e5, e6, e7, e8, e9, e10, e12, e13⟩, GL_congr h.2.2.1 rfl rfl rfl, GY_congr h.2.2.2.1 rfl rfl rfl rfl, ⟨fun j hj => ?_, h.2.2.2.2.1.2⟩, RES_congr h.2.2.2.2.2.1 rfl rfl rfl, hR, h.2.2.2.2.2.2.2⟩
          · show upd (σ 18) (10 * i + c) w = upd (σ 42) (10 * i + c) w
            rw [e3]
          · obtain ⟨j1, j2, j3, j4, j5, j6⟩ := h.2.2.2.2.1.1 j hj
            exact ⟨j1, j2, (upd_ne (by omega)).trans j3, j4, j5, j6⟩
    · exact Or.inl ⟨1, 1, rfl, p_finish2 hA hc hi hb, q_finish2 hR hN hc hi hb⟩
  · exact Or.inl ⟨0, 2, rfl, p_finish1 hA ha, q_finish1 hR hN ha⟩
theorem a_held (h : INV σ N r n) (a b : Int32) {z : Int32} (hz : z = nI 0 ∨ z = nI 1) : AGR X t [2, 1, 0] 87 [.ref 0, .int a, .int b, .int z] 134 [.ref 35, .int a, .int b, .int z] σ r n := by
  have hR := h.2.2.2.2.2.2.1
  have hA := h.1.1.1
  have hN := hA.1
  have hB := h.1.1.2.1
  by_cases ha : inR a 10 ∧ inR b N
  · obtain ⟨⟨c, hc, rfl⟩, ⟨i, hi, rfl⟩⟩ := ha
    by_cases hk : σ 36 i = nI 2
    · obtain ⟨hp, hk1⟩ := st_ahead h hi hk
      obtain ⟨e1, e2, e3, e4, e5, e6, e7, e8, e9, e10, e12, e13⟩ := h.2.1
      have hS := h.1.2.1.1 (10 * (i - 1) + c) (by omega)
      by_cases s1 : σ 11 (10 * (i - 1) + c) = -1
      · exact Or.inl ⟨2, 0, rfl, p_held3 hA hc hi hk hk1 s1, q_held3 (RK_of h) hc hi hk (by rw [← e1]; exact s1)⟩
      · have f0 := h.1.2.2.2.2.1.1 (10 * i + c) (by omega)
        have g := tell_SG (σ' := u2 σ 21 (10 * i + c) z) h hi hk hc s1 rfl rfl rfl (fun j hj => ⟨rfl, rfl⟩) ⟨f0.1, f0.2.1⟩ (fun x y => ⟨x, y⟩)
        have p0 := p_held0 (X := X) (t := t) hA hB hc hi hk hk1 s1 hz g
        have hRK : RK (rcW (u2 σ 21 (10 * i + c) z) i) N := by
          have := RK_of h
          exact this
        have q0 := fun (t : rH) => q_held0 (X := X) (t := t) (σ := rcW (u2 σ 21 (10 * i + c) z) i) (N := N) hRK hc hi hk (by show stM (σ 40 _); rw [← e1]; exact hS) (by show ¬ σ 40 _ = -1; rw [← e1]; exact s1) hz
        have gE : GE (u2 (u2 (rcW (u2 σ 21 (10 * i + c) z) i) 35 0 (nI 0)) 44 (10 * i + c) z) := ⟨e1, e2, e3, e4, by show upd (σ 21) (10 * i + c) z = upd (σ 44) (10 * i + c) z; rw [e5], e6, e7, e8, e9, e10, e12, e13⟩
        have ev := congrFun (tm_eq gE i) c
        rw [ev] at q0
        refine Or.inr ⟨_, _, _, N, p0, q0, rfl, ?_⟩
        have gA := GA_tell (σ' := u2 σ 21 (10 * i + c) z) h hi hk hc s1 rfl ⟨⟨rfl, rfl, rfl, rfl, rfl⟩, ⟨rfl, rfl, rfl⟩, ⟨rfl, rfl, rfl⟩, rfl, rfl, rfl, rfl⟩ (fun j hj => ⟨rfl, rfl, rfl, upd_ne hj⟩) f0
        refine ⟨GA_next (GA_congr gA rfl ⟨⟨rfl, rfl, rfl, rfl, rfl⟩, ⟨rfl, rfl, rfl⟩, ⟨rfl, rfl, rfl, rfl, rfl, rfl, rfl⟩, rfl, rfl, rfl, rfl⟩), gE, GL_congr h.2.2.1 rfl rfl rfl, GY_congr h.2.2.2.1 rfl rfl rfl rfl, ⟨fun j hj => ?_, h.2.2.2.2.1.2⟩, RES_congr h.2.2.2.2.2.1 rfl rfl rfl, hR, h.2.2.2.2.2.2.2⟩
        obtain ⟨j1, j2, j3, j4, j5, j6⟩ := h.2.2.2.2.1.1 j hj
        exact ⟨j1, j2, j3, j4, (upd_ne (by omega)).trans j5, j6⟩
    · exact Or.inl ⟨1, 1, rfl, p_held2 hA hc hi hk, q_held2 hR hN hc hi hk⟩
  · exact Or.inl ⟨0, 2, rfl, p_held1 hA ha, q_held1 hR hN ha⟩
theorem a_award (h : INV σ N r n) (a b x : Int32) : AGR X t [2, 1, 0] 88 [.ref 0, .int a, .int b, .int x] 135 [.ref 35, .int a, .int b, .int x] σ r n := by
  have hR := h.2.2.2.2.2.2.1
  have hA := h.1.1.1
  have hN := hA.1
  have hB := h.1.1.2.1
  by_cases ha : inR a 10 ∧ inR b N
  · obtain ⟨⟨c, hc, rfl⟩, ⟨i, hi, rfl⟩⟩ := ha
    by_cases hb : σ 36 i = nI 2 ∧ okW x
    · obtain ⟨hk, hx⟩ := hb
      obtain ⟨hp, hk1⟩ := st_ahead h hi hk
      obtain ⟨e1, e2, e3, e4, e5, e6, e7, e8, e9, e10, e12, e13⟩ := h.2.1
      have hS := h.1.2.1.1 (10 * (i - 1) + c) (by omega)
      by_cases s1 : σ 11 (10 * (i - 1) + c) = -1
      · exact Or.inl ⟨2, 0, rfl, p_award3 hA hc hi hk hk1 hx s1, q_award3 (RK_of h) hc hi hk hx (by rw [← e1]; exact s1)⟩
      · have f0 := h.1.2.2.2.2.1.1 (10 * i + c) (by omega)
        have g := tell_SG (σ' := u2 σ 20 (10 * i + c) x) h hi hk hc s1 rfl rfl rfl (fun j hj => ⟨rfl, rfl⟩) ⟨f0.1, f0.2.1⟩ (fun x y => ⟨x, y⟩)
        have p0 := p_award0 (X := X) (t := t) hA hB hc hi hk hk1 hx s1 g
        have hRK : RK (rcW (u2 σ 20 (10 * i + c) x) i) N := by
          have := RK_of h
          exact this
        have q0 := fun (t : rH) => q_award0 (X := X) (t := t) (σ := rcW (u2 σ 20 (10 * i + c) x) i) (N := N) hRK hc hi hk hx (by show stM (σ 40 _); rw [← e1]; exact hS) (by show ¬ σ 40 _ = -1; rw [← e1]; exact s1)
        have gE : GE (u2 (u2 (rcW (u2 σ 20 (10 * i + c) x) i) 35 0 (nI 0)) 45 (10 * i + c) x) := ⟨e1, e2, e3, e4, e5, by show upd (σ 20) (10 * i + c) x = upd (σ 45) (10 * i + c) x; rw [e6], e7, e8, e9, e10, e12, e13⟩
        have ev := congrFun (tm_eq gE i) c
        rw [ev] at q0
        refine Or.inr ⟨_, _, _, N, p0, q0, rfl, ?_⟩
        have gA := GA_tell (σ' := u2 σ 20 (10 * i + c) x) h hi hk hc s1 rfl ⟨⟨rfl, rfl, rfl, rfl, rfl⟩, ⟨rfl, rfl, rfl⟩, ⟨rfl, rfl, rfl⟩, rfl, rfl, rfl, rfl⟩ (fun j hj => ⟨rfl, rfl, upd_ne hj, rfl⟩) ⟨f0.1, f0.2.1, by show okW (upd (σ 20) (10 * i + c) x (10 * i + c)); rw [upd_eq]; exact hx⟩
        refine ⟨GA_next (GA_congr gA rfl ⟨⟨rfl, rfl, rfl, rfl, rfl⟩, ⟨rfl, rfl, rfl⟩, ⟨rfl, rfl, rfl, rfl, rfl, rfl, rfl⟩, rfl, rfl, rfl, rfl⟩), gE, GL_congr h.2.2.1 rfl rfl rfl, GY_congr h.2.2.2.1 rfl rfl rfl rfl, ⟨fun j hj => ?_, h.2.2.2.2.1.2⟩, RES_congr h.2.2.2.2.2.1 rfl rfl rfl, hR, h.2.2.2.2.2.2.2⟩
        obtain ⟨j1, j2, j3, j4, j5, j6⟩ := h.2.2.2.2.1.1 j hj
        exact ⟨j1, j2, j3, j4, j5, (upd_ne (by omega)).trans j6⟩
    · exact Or.inl ⟨1, 1, rfl, p_award2 hA hc hi hb, q_award2 hR hN hc hi hb⟩
  · exact Or.inl ⟨0, 2, rfl, p_award1 hA ha, q_award1 hR hN ha⟩
theorem a_time (h : INV σ N r n) (a b : Int32) : AGR X t [2, 1] 89 [.ref 0, .int a, .int b] 136 [.ref 35, .int a, .int b] σ r n := by
  have hR := h.2.2.2.2.2.2.1
  have hA := h.1.1.1
  have hN := hA.1
  by_cases ha : inR a 10 ∧ inR b N
  · obtain ⟨⟨c, hc, rfl⟩, ⟨i, hi, rfl⟩⟩ := ha
    by_cases hk : σ 36 i = nI 2
    · have p0 := p_time0 (X := X) (t := t) hA hc hi hk
      have q0 := fun (t : rH) => q_time0 (X := X) (t := t) (RK_of h) hc hi hk
      rw [((CH_of h i hi).1 hk).2.1 c hc] at p0
      rw [tm_eq h.2.1] at q0
      exact Or.inr ⟨_, _, _, N, p0, q0, rfl, INV_next h⟩
    · exact Or.inl ⟨1, 1, rfl, p_time2 hA hc hi hk, q_time2 hR hN hc hi hk⟩
  · exact Or.inl ⟨0, 2, rfl, p_time1 hA ha, q_time1 hR hN ha⟩
end OPS2
