/-! CALLS: the rally closed -/
section CLO2
variable {X : rX} {σ σ' : Nat → Nat → Int32} {t : rH} {N r n : Nat}
theorem ty_zero {c : Nat} : ∀ m, tyF (fun _ => 0) c m = nI 0
  | 0 => rfl
  | m + 1 => by
    unfold tyF
    rw [if_pos nIz, ty_zero m]
theorem ltF_j {m : Nat} {a f : Nat → Int32} (h : ∀ j, m ≤ j → f j = 0) : ltF m a f = ltF m a fun _ => 0 := by
  funext j
  unfold ltF
  by_cases q : j < m
  · rw [if_pos q, if_pos q]
  · rw [if_neg q, if_neg q, h j (by omega)]
theorem ltF_zero {m : Nat} {f : Nat → Int32} (h : ∀ j, m ≤ j → f j = 0) : ltF m (fun _ => nI 0) f = fun _ => 0 := by
  funext j
  unfold ltF
  by_cases q : j < m
  · rw [if_pos q]; exact nIz.symm
  · rw [if_neg q, h j (by omega)]
theorem RES_close (h : RES σ r) (hr : r < 6) {x : Nat → Int32} (hx : ∀ c, c < 10 → okP (x c)) (e1 : σ' 1 1 = nI (r + 1)) (e2 : σ' 2 = ntJ (σ 2) x r 10) (e54 : ∀ c, c < 10 → σ' 54 (10 * r + c) = x c) (o54 : ∀ k, k < r → ∀ c, c < 10 → σ' 54 (10 * k + c) = σ 54 (10 * k + c)) : RES σ' (r + 1) := by
  obtain ⟨r6, h1, hP, hS⟩ := h
  refine ⟨by omega, e1, fun k hk c hc => ?_, fun c hc => ?_⟩
  · by_cases q : k = r
    · subst q
      rw [e54 c hc]
      exact hx c hc
    · rw [o54 k (by omega) c hc]
      exact hP k (by omega) c hc
  · obtain ⟨⟨s1, s2, s3⟩, s4⟩ := hS c hc
    have hv := vl_le (hx c hc)
    have row : ∀ i, i < 6 → σ' 2 (6 * c + i) = ntF (σ 2) c r (vl (x c)) (6 * c + i) := fun i hi => by
      rw [e2, ntJ_row hr 10 i hi, if_pos hc]
    generalize hvv : vl (x c) = v at hv row
    have hq := qF_le (v := v) (f := fC σ c) r
    have val : ∀ i, i < r + 1 → σ' 2 (6 * c + i) = nI (insF (fC σ c) (qF v (fC σ c) r) v i) := fun i hi => by
      rw [row i (by omega)]
      show upd (shF (σ 2) c r (qF v (fC σ c) r)) (6 * c + qF v (fC σ c) r) (nI v) (6 * c + i) = _
      generalize qF v (fC σ c) r = q at hq
      unfold insF
      by_cases w1 : i < q
      · rw [if_pos w1, upd_ne (by omega)]
        unfold shF
        rw [if_neg (by omega), s4 i (by omega)]
      · rw [if_neg w1]
        by_cases w2 : i = q
        · subst w2
          rw [if_pos rfl, upd_eq]
        · rw [if_neg w2, upd_ne (by omega)]
          unfold shF
          rw [if_pos (by omega), show 6 * c + i - 1 = 6 * c + (i - 1) by omega, s4 (i - 1) (by omega)]
    have bd : ∀ i, i < r + 1 → insF (fC σ c) (qF v (fC σ c) r) v i ≤ 10 := fun i hi => by
      unfold insF
      split
      · exact s2 i (by omega)
      · split
        · exact hv
        · exact s2 (i - 1) (by omega)
    have fc : ∀ i, i < r + 1 → fC σ' c i = insF (fC σ c) (qF v (fC σ c) r) v i := fun i hi => by
      have := bd i hi
      unfold fC
      rw [val i hi, cnt_nI (by omega)]
      rfl
    refine ⟨⟨fun m k hmk hk => ?_, fun i hi => by rw [fc i hi]; exact bd i hi, fun hh => ?_⟩, fun i hi => by rw [fc i hi]; exact val i hi⟩
    · rw [fc m (by omega), fc k hk]
      exact SRT_ins s1 m k hmk hk
    · rw [sg_congr (r + 1) fc, sg_ins r hq]
      show _ = sg hh (gR (σ' 54) c) r + hh (vl (σ' 54 (10 * r + c)))
      rw [e54 c hc, hvv, s3 hh, sg_congr (f := gR (σ' 54) c) (g := gR (σ 54) c) r fun m hm => by
        show vl _ = vl _
        rw [o54 m hm c hc]]
theorem nwC_ind {p : Nat} (h1 : 3 ≤ p) (h2 : p < 35) : nwC σ p = nwC (fun _ _ => 0) p := by
  unfold nwC
  split
  · rfl
  · split
    · rfl
    · rw [if_pos ⟨h1, h2⟩, if_pos ⟨h1, h2⟩]
/-- a rally at its beginning -/
theorem INV_new {n : Nat} (e : ∀ p, 3 ≤ p → p < 35 → σ p = nwC (fun _ _ => 0) p) (e39 : σ 39 = ltF 20 (fun _ => -1) fun _ => 0) (hR : RES σ r) : INV σ 0 r n := by
  have m1 : ∀ j, j < 200 → ltF 200 (fun _ => (-1 : Int32)) (fun _ => 0) j = -1 := fun j hj => ltF_lt hj
  have m2 : ∀ j, j < 20 → ltF 20 (fun _ => (-1 : Int32)) (fun _ => 0) j = -1 := fun j hj => ltF_lt hj
  have g39 : ∀ g, g < 20 → σ 39 g = -1 := fun g hg => by rw [e39]; exact m2 g hg
  have c39 : ∀ g, g < 20 → cnt (σ 39 g) = 0 := fun g hg => by rw [g39 g hg, cnt_m1]
  have z : ∀ p, p ≠ 11 → p ≠ 18 → p ≠ 19 → p ≠ 20 → p ≠ 22 → p ≠ 23 → p ≠ 9 → p ≠ 24 → 3 ≤ p → p < 35 → σ p = fun _ => 0 := fun p a1 a2 a3 a4 a5 a6 a7 a8 h1 h2 => by
    rw [e p h1 h2]
    unfold nwC
    rw [if_neg (by omega), if_neg (by omega), if_pos ⟨h1, h2⟩]
  have y : ∀ p, p = 11 ∨ p = 18 ∨ p = 19 ∨ p = 20 ∨ p = 22 ∨ p = 23 → ∀ j, j < 200 → σ p j = -1 := fun p hp j hj => by
    rw [e p (by omega) (by omega)]
    unfold nwC
    rw [if_pos hp]
    exact m1 j hj
  have e9 : σ 9 = ltF 20 (fun _ => -1) fun _ => 0 := by
    rw [e 9 (by omega) (by omega)]
    rfl
  have e24 : σ 24 = ltF 20 (fun _ => -1) fun _ => 0 := by
    rw [e 24 (by omega) (by omega)]
    rfl
  have z3 := z 3 (by omega) (by omega) (by omega) (by omega) (by omega) (by omega) (by omega) (by omega) (by omega) (by omega)
  have z12 := z 12 (by omega) (by omega) (by omega) (by omega) (by omega) (by omega) (by omega) (by omega) (by omega) (by omega)
  have z13 := z 13 (by omega) (by omega) (by omega) (by omega) (by omega) (by omega) (by omega) (by omega) (by omega) (by omega)
  have z14 := z 14 (by omega) (by omega) (by omega) (by omega) (by omega) (by omega) (by omega) (by omega) (by omega) (by omega)
  have z15 := z 15 (by omega) (by omega) (by omega) (by omega) (by omega) (by omega) (by omega) (by omega) (by omega) (by omega)
  have z21 := z 21 (by omega) (by omega) (by omega) (by omega) (by omega) (by omega) (by omega) (by omega) (by omega) (by omega)
  have z27 := z 27 (by omega) (by omega) (by omega) (by omega) (by omega) (by omega) (by omega) (by omega) (by omega) (by omega)
  have z28 := z 28 (by omega) (by omega) (by omega) (by omega) (by omega) (by omega) (by omega) (by omega) (by omega) (by omega)
  have z29 := z 29 (by omega) (by omega) (by omega) (by omega) (by omega) (by omega) (by omega) (by omega) (by omega) (by omega)
  refine ⟨⟨⟨⟨by omega, by rw [z3]; rfl, fun i hi => by omega, fun z => by omega, fun i hi => by omega⟩, ⟨fun g hg => ⟨Or.inl (g39 g hg), fun p hp => ?_⟩, fun g hg p hp => ?_, by rw [e9, e39], fun g hg p q hp => ?_⟩, fun i hi => by omega, fun _ => g39 0 (by omega)⟩, ⟨fun j hj => Or.inl (y 11 (by omega) j hj), fun i hi => by omega⟩, fun j hj => ⟨0, by omega, by rw [z12]; rfl⟩, fun c hc => by rw [z13]; rfl, ⟨fun j hj => ⟨Or.inl (y 18 (by omega) j hj), Or.inl (y 19 (by omega) j hj), Or.inl (y 20 (by omega) j hj)⟩, fun i hi => by omega, fun j hj => by omega⟩, fun _ => ⟨fun j hj => ⟨y 11 (by omega) j hj, y 18 (by omega) j hj, y 19 (by omega) j hj, y 20 (by omega) j hj, by rw [z21]; rfl, y 22 (by omega) j hj, y 23 (by omega) j hj⟩, fun g hg => ⟨by rw [e24]; exact m2 g hg, g39 g hg⟩⟩⟩,
    fun c hc => Or.inl (by rw [z15]; rfl), ⟨fun c hc => by rw [z27, z29]; exact (ty_zero 100).symm, fun j hj => Or.inl (by rw [z27]; rfl)⟩, hR, fun c hc => ⟨0, 0, by omega, by omega, by rw [z14]; rfl, by rw [z13]; rfl⟩, fun c hc => ⟨0, by omega, by rw [z28]; rfl⟩⟩
  · rw [c39 g hg] at hp
    omega
  · rw [c39 g hg] at hp
    omega
  · rw [c39 g hg] at hp
    omega
/-- the class with the rally closed, its season noted -/
noncomputable def clz (σ : Nat → Nat → Int32) (N r : Nat) : Nat → Nat → Int32 := fun p => if p = 39 then ltF 20 (fun _ => -1) (fun _ => 0) else if p = 54 then (fun j => if 10 * r ≤ j ∧ j < 10 * r + 10 then rkC (nI 0) σ N 34 (j - 10 * r) else σ 54 j) else u2 (nwC (clC9 σ N r)) 1 1 (nI (r + 1)) p
theorem INV_close {m : Nat} (h : INV σ N r n) (hr : r ≠ 6) : INV (clz σ N r) 0 (r + 1) m := by
  refine INV_new (fun p h1 h2 => ?_) rfl ?_
  · unfold clz
    rw [if_neg (by omega), if_neg (by omega), u2_ne (by omega), nwC_ind h1 h2]
  · have hR := h.2.2.2.1
    refine RES_close (x := rkC (nI 0) σ N 34) hR (by have := hR.1; omega) (fun c hc => okP_rk h hc) rfl rfl (fun c hc => ?_) (fun k hk c hc => ?_)
    · show (if 10 * r ≤ 10 * r + c ∧ 10 * r + c < 10 * r + 10 then rkC (nI 0) σ N 34 (10 * r + c - 10 * r) else σ 54 (10 * r + c)) = _
      rw [if_pos (by omega), show 10 * r + c - 10 * r = c by omega]
    · show (if 10 * r ≤ 10 * k + c ∧ 10 * k + c < 10 * r + 10 then rkC (nI 0) σ N 34 (10 * k + c - 10 * r) else σ 54 (10 * k + c)) = _
      rw [if_neg (by omega)]
end CLO2
