/-! CALLS: delays, stages -/
section OPS2
variable {X : rX} {σ σ' : Nat → Nat → Int32} {t : rH} {N r n : Nat}
theorem dl_no {sp od f : Nat → Int32} {b : Int32} {i g a q : Nat} : ∀ k, (∀ p, p < k → q ≠ 10 * i + carF od g (a + p)) → dlF sp od f b i g a k q = f q
  | 0, _ => rfl
  | k + 1, h => by
    unfold dlF
    split
    · rw [upd_ne (h k (by omega)), dl_no k fun p hp => h p (by omega)]
    · exact dl_no k fun p hp => h p (by omega)
theorem dl_at {sp od f : Nat → Int32} {b : Int32} {i g a q m : Nat} (hu : ∀ p p', p < m → p' < m → carF od g p = carF od g p' → p = p') : ∀ k, a + k ≤ m → dlF sp od f b i g a k q = f q ∨ (sp q = -1 ∧ dlF sp od f b i g a k q = f q + b)
  | 0, _ => Or.inl rfl
  | k + 1, h => by
    have ih := dl_at (sp := sp) (f := f) (b := b) (i := i) (a := a) (q := q) hu k (by omega)
    unfold dlF
    by_cases h1 : sp (10 * i + carF od g (a + k)) = -1
    · rw [if_pos h1]
      by_cases h2 : q = 10 * i + carF od g (a + k)
      · subst h2
        rw [upd_eq, dl_no k fun p hp z => by
          have := hu (a + k) (a + p) (by omega) (by omega) (by omega)
          omega]
        exact Or.inr ⟨h1, rfl⟩
      · rw [upd_ne h2]
        exact ih
    · rw [if_neg h1]
      exact ih
theorem due_dl {kd mi od mn sp dl dl' : Nat → Int32} {c j : Nat} (h : dl' (10 * j + c) = dl (10 * j + c)) : dueF kd mi od mn sp dl' c j = dueF kd mi od mn sp dl c j := by
  unfold dueF
  rw [h]
/-! what is told of a stage -/
theorem tell_SG (h : INV σ N r n) {i c : Nat} (hi : i < N) (hk : σ 36 i = nI 2) (hc : c < 10) (ha : ¬ σ 11 (10 * (i - 1) + c) = -1) (q11 : σ' 11 = σ 11) (q22 : σ' 22 = σ 22) (q36 : σ' 36 = σ 36) (hr : ∀ j, j ≠ 10 * i + c → σ' 18 j = σ 18 j ∧ σ' 19 j = σ 19 j) (hx : finM (σ' 18 (10 * i + c)) ∧ finM (σ' 19 (10 * i + c))) (hu : σ' 18 (10 * i + c) = -1 → σ' 19 (10 * i + c) = -1 → σ 18 (10 * i + c) = -1 ∧ σ 19 (10 * i + c) = -1) : SG σ' N i := by
  obtain ⟨s1, s2, s3, s4, s5, s6⟩ := SG_of h hi hk
  refine ⟨s1, s2, by rw [q36]; exact s3, fun j hj => ?_, fun q hq => ?_, fun q hq z1 z2 => ?_⟩
  · by_cases w : j = c
    · subst w; exact hx
    · obtain ⟨a, b⟩ := hr (10 * i + j) (by omega)
      rw [a, b]
      exact s4 j hj
  · rw [q11]
    by_cases w : q = c
    · subst w; exact fun _ => ha
    · obtain ⟨a, b⟩ := hr (10 * i + q) (by omega)
      rw [a, b]
      exact s5 q hq
  · rw [q22]
    by_cases w : q = c
    · subst w
      obtain ⟨a, b⟩ := hu z1 z2
      exact s6 q hq a b
    · obtain ⟨a, b⟩ := hr (10 * i + q) (by omega)
      rw [a] at z1
      rw [b] at z2
      exact s6 q hq z1 z2
theorem GA_tell (h : INV σ N r n) {i c : Nat} (hi : i < N) (hk : σ 36 i = nI 2) (hc : c < 10) (ha : ¬ σ 11 (10 * (i - 1) + c) = -1) (q3 : σ' 3 3 = σ 3 3)
    (e : (σ' 4 = σ 4 ∧ σ' 5 = σ 5 ∧ σ' 6 = σ 6 ∧ σ' 8 = σ 8 ∧ σ' 9 = σ 9) ∧ (σ' 11 = σ 11 ∧ σ' 12 = σ 12 ∧ σ' 13 = σ 13) ∧ (σ' 22 = σ 22 ∧ σ' 23 = σ 23 ∧ σ' 24 = σ 24) ∧ σ' 36 = σ 36 ∧ σ' 37 = σ 37 ∧ σ' 38 = σ 38 ∧ σ' 39 = σ 39)
    (hr : ∀ j, j ≠ 10 * i + c → σ' 18 j = σ 18 j ∧ σ' 19 j = σ 19 j ∧ σ' 20 j = σ 20 j ∧ σ' 21 j = σ 21 j) (hx : finM (σ' 18 (10 * i + c)) ∧ finM (σ' 19 (10 * i + c)) ∧ okW (σ' 20 (10 * i + c))) : GA (rcW σ' i) N n := by
  obtain ⟨⟨e4, e5, e6, e8, e9⟩, ⟨e11, e12, e13⟩, ⟨e22, e23, e24⟩, e36, e37, e38, e39⟩ := e
  have hN := h.1.1.1.1
  have hB := GB_congr (σ' := σ') (GB_of h) q3 ⟨⟨e4, e5, e6, e8, e9⟩, ⟨e11, e12, e13⟩, e36, e37, e38, e39⟩
  have hB2 : GB (rcW σ' i) N n := GB_congr hB rfl ⟨⟨rfl, rfl, rfl, rfl, rfl⟩, ⟨rfl, rfl, rfl⟩, rfl, rfl, rfl, rfl⟩
  refine ⟨hB2.1, hB2.2.1, hB2.2.2.1, hB2.2.2.2, ⟨fun j hj => ?_, fun j hj hkj q hq z => ?_, fun j hj => ?_⟩, fun z => ?_⟩
  · show finM (σ' 18 j) ∧ finM (σ' 19 j) ∧ okW (σ' 20 j)
    by_cases w : j = 10 * i + c
    · subst w; exact hx
    · obtain ⟨a, b, d, -⟩ := hr j w
      rw [a, b, d]
      exact h.1.2.2.2.2.1.1 j hj
  · have hkj : σ' 36 j = nI 2 := hkj
    rw [e36] at hkj
    show ¬ σ' 11 (10 * (j - 1) + q) = -1
    rw [e11]
    have z : ¬ σ' 18 (10 * j + q) = -1 ∨ ¬ σ' 19 (10 * j + q) = -1 ∨ ¬ σ' 20 (10 * j + q) = -1 ∨ ¬ σ' 21 (10 * j + q) = nI 0 := z
    by_cases w : 10 * j + q = 10 * i + c
    · obtain ⟨rfl, rfl⟩ : j = i ∧ q = c := by omega
      exact ha
    · obtain ⟨a, b, d, f⟩ := hr _ w
      rw [a, b, d, f] at z
      exact h.1.2.2.2.2.1.2.1 j hj hkj q hq z
  · by_cases w : j = i
    · subst w
      refine ⟨fun _ => ⟨fun q hq => ?_, fun q hq => ?_, ?_⟩, fun z => ?_⟩
      · show blkN j 10 (ownC σ' j) (σ' 22) (10 * j + q) = ownC σ' j q
        exact blkN_at hq
      · exact rcW_23 hq
      · show upd (σ' 24) j (bstF (tmC σ' j) 10) j = bstF (tmC σ' j) 10
        rw [upd_eq]
      · have z : ¬ σ' 36 j = nI 2 := z
        rw [e36] at z
        exact absurd hk z
    · have out : ∀ q, q < 10 → ¬ (10 * i ≤ 10 * j + q ∧ 10 * j + q < 10 * i + 10) := fun q hq => by omega
      refine CHj_same (h.1.2.2.2.2.1.2.2 j hj) (by show σ' 36 j = _; rw [e36]) (fun hkj q hq => ?_) (fun q hq => ?_) ?_
      · have hw : ∀ q, q < 10 → ownC (rcW σ' i) j q = ownC σ j q := fun q hq => by
          show ownF (σ' 11) (σ' 18) (σ' 19) q j = ownF (σ 11) (σ 18) (σ 19) q j
          rw [e11]
          exact own_congr (fun k hk => ⟨(hr _ (by omega)).1, (hr _ (by omega)).2.1⟩) (fun _ => rfl) hq
        refine ⟨hw q hq, ?_, ?_⟩
        · have hg := legF_le (σ 36) j
          show timeF (σ' 11) (σ' 18) (σ' 19) (σ' 21) (σ' 20) (σ' 38) (σ' 39) (legF (σ' 36) j) q j = timeF (σ 11) (σ 18) (σ 19) (σ 21) (σ 20) (σ 38) (σ 39) (legF (σ 36) j) q j
          rw [e36, e38, e39]
          exact time_congr (h.1.1.2.1.1 _ (by omega)) (fun _ _ => rfl) rfl hw (fun k hk => (hr _ (by omega)).2.2.2) (hr _ (by omega)).2.2.1 hq
        · show blkN i 10 (ownC σ' i) (σ' 22) (10 * j + q) = _
          rw [blkN_out (out q hq), e22]
      · show blkN i 10 (tmC σ' i) (σ' 23) (10 * j + q) = _
        rw [blkN_out (out q hq), e23]
      · show upd (σ' 24) i (bstF (tmC σ' i) 10) j = _
        rw [upd_ne w, e24]
  · have z : σ' 39 0 = -1 := z
    rw [e39] at z
    exact absurd ((h.1.2.2.2.2.2 z).1 (10 * (i - 1) + c) (by omega)).1 ha
end OPS2
