/-! CALLS: both answer alike -/
section OPS
variable {X : rX} {σ σ' : Nat → Nat → Int32} {t : rH} {N r n : Nat}
def GB (σ : Nat → Nat → Int32) (N n : Nat) : Prop := GO1 σ N ∧ GS σ N ∧ GD σ n ∧ GP σ N
theorem GB_of (h : INV σ N r n) : GB σ N n := ⟨h.1.1, h.1.2.1, h.1.2.2.1, h.1.2.2.2.1⟩
theorem GA_next (z : GA σ N n) : GA σ N (n + 1) := ⟨z.1, z.2.1, GD_mono z.2.2.1 (Nat.le_succ n), z.2.2.2⟩
theorem GB_congr (h : GB σ N n) (e3 : σ' 3 3 = σ 3 3) (e : (σ' 4 = σ 4 ∧ σ' 5 = σ 5 ∧ σ' 6 = σ 6 ∧ σ' 8 = σ 8 ∧ σ' 9 = σ 9) ∧ (σ' 11 = σ 11 ∧ σ' 12 = σ 12 ∧ σ' 13 = σ 13) ∧ σ' 36 = σ 36 ∧ σ' 37 = σ 37 ∧ σ' 38 = σ 38 ∧ σ' 39 = σ 39) : GB σ' N n := by
  obtain ⟨⟨e4, e5, e6, e8, e9⟩, ⟨e11, e12, e13⟩, e36, e37, e38, e39⟩ := e
  unfold GB GO1 GS GD GP IA IB at h ⊢
  rw [e3, e4, e5, e6, e8, e9, e11, e12, e13, e36, e37, e38, e39]
  exact h
theorem GO1_congr (h : GO1 σ N) (e3 : σ' 3 3 = σ 3 3) (e4 : σ' 4 = σ 4) (e5 : σ' 5 = σ 5) (e6 : σ' 6 = σ 6) (e8 : σ' 8 = σ 8) (e9 : σ' 9 = σ 9) (e36 : σ' 36 = σ 36) (e37 : σ' 37 = σ 37) (e38 : σ' 38 = σ 38) (e39 : σ' 39 = σ 39) : GO1 σ' N := by
  unfold GO1 IA IB at h ⊢
  rw [e3, e4, e5, e6, e8, e9, e36, e37, e38, e39]
  exact h
/-! item -/
theorem legF_upd {kd : Nat → Int32} {m : Nat} {a : Int32} : ∀ i, i < m → legF (upd kd m a) i = legF kd i
  | 0, _ => rfl
  | i + 1, h => by
    unfold legF
    rw [upd_ne (by omega), legF_upd i (by omega)]
theorem pf_none {kd mi od mn sp dl : Nat → Int32} {c : Nat} : ∀ m, (∀ j, j < m → sp (10 * j + c) = -1) → pfF kd mi od mn sp dl c m = nI 0
  | 0, _ => rfl
  | m + 1, h => by
    unfold pfF
    rw [if_pos (h m (by omega)), pf_none m fun j hj => h j (by omega)]
theorem GA_item (h : INV σ N r n) {a b : Int32} (ho : okI a b) (hc : canP σ N a) (h3 : σ' 3 3 = nI (N + 1)) (h4 : σ' 4 = upd (σ 4) N a) (h5 : σ' 5 = upd (σ 5) N b) (h6 : σ' 6 = upd (σ 6) N (nI (if a = nI 0 then N else legF (σ 36) (N - 1)))) (h36 : σ' 36 = upd (σ 36) N a) (h37 : σ' 37 = upd (σ 37) N b)
    (e : (σ' 8 = σ 8 ∧ σ' 9 = σ 9) ∧ (σ' 11 = σ 11 ∧ σ' 12 = σ 12 ∧ σ' 13 = σ 13) ∧ (σ' 18 = σ 18 ∧ σ' 19 = σ 19 ∧ σ' 20 = σ 20 ∧ σ' 21 = σ 21 ∧ σ' 22 = σ 22 ∧ σ' 23 = σ 23 ∧ σ' 24 = σ 24) ∧ σ' 38 = σ 38 ∧ σ' 39 = σ 39) : GA σ' (N + 1) n := by
  obtain ⟨⟨e8, e9⟩, ⟨e11, e12, e13⟩, ⟨e18, e19, e20, e21, e22, e23, e24⟩, e38, e39⟩ := e
  obtain ⟨⟨⟨hA, hB, hG, hN0⟩, hS, hD, hP, hT, hF⟩, -⟩ := h
  obtain ⟨a1, a2, a3, a4, a5⟩ := hA
  obtain ⟨c1, c2, c3, c4⟩ := hc
  obtain ⟨f1, f2⟩ := hF c4
  obtain ⟨o1, o2, o3⟩ := ho
  have hl : legF (upd (σ 36) N a) N = if a = nI 0 then N else legF (σ 36) (N - 1) := by
    cases N with
    | zero =>
      rw [if_pos (c2 rfl)]
      rfl
    | succ M =>
      rw [show legF (upd (σ 36) (M + 1) a) (M + 1) = if upd (σ 36) (M + 1) a (M + 1) = nI 0 then M + 1 else legF (upd (σ 36) (M + 1) a) M from rfl, upd_eq, legF_upd M (by omega)]
      rfl
  refine ⟨⟨⟨by omega, h3, fun i hi => ?_, fun _ => ?_, fun i hi => ?_⟩, ?_, fun i hi => ⟨fun h1 hk => ?_, ?_⟩, fun z => by omega⟩, ⟨?_, fun i hi c hc q => ?_⟩, ?_, fun c hc => ?_, ⟨?_, fun i hi hk c hc q => ?_, fun j hj => ?_⟩, ?_⟩
  · rw [h4, h5, h6, h36, h37]
    by_cases q : i = N
    · subst q
      rw [upd_eq, upd_eq, upd_eq, upd_eq, upd_eq, hl]
      exact ⟨rfl, rfl, rfl⟩
    · obtain ⟨x1, x2, x3⟩ := a3 i (by omega)
      rw [upd_ne q, upd_ne q, upd_ne q, upd_ne q, upd_ne q, legF_upd i (by omega)]
      exact ⟨x1, x2, x3⟩
  · rw [h36]
    by_cases q : 0 = N
    · subst q
      rw [upd_eq, c2 rfl]
    · rw [upd_ne q]
      exact a4 (by omega)
  · rw [h36]
    by_cases q : i = N
    · subst q
      rw [upd_eq]
      obtain ⟨j, hj, rfl⟩ := o1
      rcases (by omega : j = 0 ∨ j = 1 ∨ j = 2) with rfl | rfl | rfl
      · exact Or.inl rfl
      · exact Or.inr (Or.inl rfl)
      · exact Or.inr (Or.inr rfl)
    · rw [upd_ne q]
      exact a5 i (by omega)
  · unfold IB at hB ⊢
    rw [e8, e9, e38, e39]
    exact hB
  · rw [h36] at hk ⊢
    by_cases q : i = N
    · subst q
      rw [upd_eq] at hk
      rw [upd_ne (by omega)]
      intro z
      have := c3 (by omega) z
      rw [hk, eq_f (by omega) (by omega) (by omega)] at this
      exact this
    · rw [upd_ne q] at hk
      rw [upd_ne (by omega)]
      exact (hG i (by omega)).1 h1 hk
  · rw [h37]
    by_cases q : i = N
    · subst q
      rw [upd_eq]
      by_cases q2 : a = nI 2
      · exact ⟨0, by omega, o2 q2⟩
      · obtain ⟨j, hj, e⟩ := o3 q2
        exact ⟨j, by omega, e⟩
    · rw [upd_ne q]
      exact (hG i (by omega)).2
  · rw [e11]
    exact hS.1
  · rw [e11] at q
    exact absurd (f1 (10 * i + c) (by omega)).1 q
  · unfold GD at hD ⊢
    rw [e12]
    exact hD
  · rw [e11, e13, pf_none (N + 1) fun j hj => (f1 (10 * j + c) (by omega)).1, hP c hc, pf_none N fun j hj => (f1 (10 * j + c) (by omega)).1]
  · rw [e18, e19, e20]
    exact hT.1
  · obtain ⟨-, g1, g2, g3, g4, -⟩ := f1 (10 * i + c) (by omega)
    unfold TLD at q
    rw [e18, e19, e20, e21] at q
    rcases q with q | q | q | q
    · exact absurd g1 q
    · exact absurd g2 q
    · exact absurd g3 q
    · exact absurd g4 q
  · refine CHj_blank (fun c hc => ?_) ?_
    · rw [e18, e19, e20, e21, e22, e23]
      exact (f1 (10 * j + c) (by omega)).2
    · rw [e24]
      exact (f2 j (by omega)).1
  · unfold GF at hF ⊢
    rw [e39, e11, e18, e19, e20, e21, e22, e23, e24]
    exact hF
/-! stamp -/
theorem leg_self {kd : Nat → Int32} {i : Nat} (hk : kd i = nI 0) : legF kd i = i := by
  cases i with
  | zero => rfl
  | succ i => unfold legF; rw [if_pos hk]
theorem leg_pred {kd : Nat → Int32} {i : Nat} (h1 : 1 ≤ i) (hk : ¬ kd i = nI 0) : legF kd i = legF kd (i - 1) := by
  cases i with
  | zero => omega
  | succ i =>
    rw [legF, if_neg hk]
    rfl
theorem two_z : ¬ nI 2 = nI 0 := by rw [eq_f (by omega) (by omega) (by omega)]; exact id
theorem leg_ahd {kd : Nat → Int32} {i : Nat} (h1 : 1 ≤ i) (h0 : kd 0 = nI 0) (hk : ¬ kd i = nI 0) : legF kd (ahdF kd i) = legF kd i := by
  rw [leg_pred h1 hk]
  unfold ahdF
  by_cases h : kd (i - 1) = nI 2
  · have h2 : 1 ≤ i - 1 := by
      by_cases q : i - 1 = 0
      · rw [q, h0] at h
        exact absurd h.symm two_z
      · omega
    rw [if_pos h, leg_pred h2 (by rw [h]; exact two_z)]
    rfl
  · rw [if_neg h]
theorem pf_congr {kd mi od mn sp dl kd' mi' od' mn' sp' dl' : Nat → Int32} {c : Nat} : ∀ m, (∀ j, j < m → sp' (10 * j + c) = sp (10 * j + c) ∧ (¬ sp (10 * j + c) = -1 → dueF kd' mi' od' mn' sp' dl' c j = dueF kd mi od mn sp dl c j)) → pfF kd' mi' od' mn' sp' dl' c m = pfF kd mi od mn sp dl c m
  | 0, _ => rfl
  | m + 1, h => by
    obtain ⟨h1, h2⟩ := h m (by omega)
    unfold pfF
    rw [h1, pf_congr m fun j hj => h j (by omega)]
    by_cases q : sp (10 * m + c) = -1
    · rw [if_pos q, if_pos q]
    · rw [if_neg q, if_neg q, h2 q]
theorem pf_stamp {kd mi od mn sp dl sp' : Nat → Int32} {c i : Nat} {x : Int32} (hx : ¬ x = -1) (h0 : sp (10 * i + c) = -1) (h1 : sp' (10 * i + c) = x) (h2 : dueF kd mi od mn sp' dl c i = dueF kd mi od mn sp dl c i) : ∀ m, (∀ j, j < m → j ≠ i → sp' (10 * j + c) = sp (10 * j + c) ∧ (¬ sp (10 * j + c) = -1 → dueF kd mi od mn sp' dl c j = dueF kd mi od mn sp dl c j)) → pfF kd mi od mn sp' dl c m = if i < m then pfF kd mi od mn sp dl c m + byF (x - dueF kd mi od mn sp dl c i) else pfF kd mi od mn sp dl c m
  | 0, _ => rfl
  | m + 1, h => by
    have ih := pf_stamp hx h0 h1 h2 m fun j hj => h j (by omega)
    by_cases q : m = i
    · subst q
      rw [if_neg (by omega)] at ih
      rw [if_pos (by omega)]
      unfold pfF
      rw [h1, if_neg hx, if_pos h0, ih, h2]
    · obtain ⟨g1, g2⟩ := h m (by omega) q
      by_cases q2 : i < m
      · rw [if_pos q2] at ih
        rw [if_pos (by omega)]
        unfold pfF
        rw [g1, ih]
        by_cases q3 : sp (10 * m + c) = -1
        · rw [if_pos q3, if_pos q3]
        · rw [if_neg q3, if_neg q3, g2 q3]
          ac_rfl
      · rw [if_neg q2] at ih
        rw [if_neg (by omega)]
        unfold pfF
        rw [g1, ih]
        by_cases q3 : sp (10 * m + c) = -1
        · rw [if_pos q3, if_pos q3]
        · rw [if_neg q3, if_neg q3, g2 q3]
theorem due_sp {kd mi od mn sp dl sp' : Nat → Int32} {c j : Nat} (h : ¬ kd j = nI 0 → sp' (10 * ahdF kd j + c) = sp (10 * ahdF kd j + c)) : dueF kd mi od mn sp' dl c j = dueF kd mi od mn sp dl c j := by
  unfold dueF
  by_cases q : kd j = nI 0
  · rw [if_pos q, if_pos q]
  · rw [if_neg q, if_neg q, h q]
/-- what a stamp at an open leg stands on -/
theorem due_open (h : INV σ N r n) {c i : Nat} (hc : c < 10) (hi : i < N) (hd : ¬ dueC σ c i = -1) : ¬ σ 39 (legF (σ 36) i) = -1 ∧ (¬ σ 36 i = nI 0 → ¬ σ 11 (10 * ahdF (σ 36) i + c) = -1) := by
  have hd : ¬ dueF (σ 36) (σ 37) (σ 38) (σ 39) (σ 11) (σ 12) c i = -1 := hd
  have h0 := h.1.1.1.2.2.2.1 (by omega)
  unfold dueF at hd
  by_cases hk : σ 36 i = nI 0
  · rw [if_pos hk] at hd
    refine ⟨?_, fun z => absurd hk z⟩
    rw [leg_self hk]
    intro z
    refine hd (if_pos ?_)
    rw [z, cnt_m1]
    rfl
  · rw [if_neg hk] at hd
    have h1 : 1 ≤ i := by
      by_cases q : i = 0
      · subst q; exact absurd h0 hk
      · omega
    have hs : ¬ σ 11 (10 * ahdF (σ 36) i + c) = -1 := fun z => hd (if_pos z)
    refine ⟨?_, fun _ => hs⟩
    rw [← leg_ahd h1 h0 hk]
    have := ahdF_lt (kd := σ 36) h1
    exact (h.1.2.1.2 (ahdF (σ 36) i) (by omega) c hc hs).1
/-- a stamp -/
theorem GA_stamp (h : INV σ N r n) {c i m : Nat} (hc : c < 10) (hi : i < N) (hm : m ≤ 2000) (hs : σ 11 (10 * i + c) = -1) (hd : ¬ dueC σ c i = -1) (e11 : σ' 11 = upd (σ 11) (10 * i + c) (nI m)) (e13 : σ' 13 = upd (σ 13) c (σ 13 c + byF (nI m - dueC σ c i))) (e3 : σ' 3 3 = σ 3 3)
    (e : (σ' 4 = σ 4 ∧ σ' 5 = σ 5 ∧ σ' 6 = σ 6 ∧ σ' 8 = σ 8 ∧ σ' 9 = σ 9) ∧ (σ' 12 = σ 12) ∧ (σ' 18 = σ 18 ∧ σ' 19 = σ 19 ∧ σ' 20 = σ 20 ∧ σ' 21 = σ 21 ∧ σ' 22 = σ 22 ∧ σ' 23 = σ 23 ∧ σ' 24 = σ 24) ∧ σ' 36 = σ 36 ∧ σ' 37 = σ 37 ∧ σ' 38 = σ 38 ∧ σ' 39 = σ 39) : GA σ' N n := by
  obtain ⟨⟨e4, e5, e6, e8, e9⟩, e12, ⟨e18, e19, e20, e21, e22, e23, e24⟩, e36, e37, e38, e39⟩ := e
  have hN := h.1.1.1.1
  have h0 := h.1.1.1.2.2.2.1 (by omega)
  have hm1 : ¬ nI m = -1 := by rw [eq_m1 (by omega)]; exact id
  obtain ⟨o1, o2⟩ := due_open h hc hi hd
  have hS := h.1.2.1
  -- a stamp that stands is not the new one
  have ne : ∀ j q, j < N → q < 10 → ¬ σ 11 (10 * j + q) = -1 → 10 * j + q ≠ 10 * i + c := fun j q _ _ z1 z2 => z1 (by rw [z2]; exact hs)
  have old : ∀ k, ¬ σ 11 k = -1 → ¬ σ' 11 k = -1 := fun k z => by
    rw [e11]
    by_cases q : k = 10 * i + c
    · subst q; rw [upd_eq]; exact hm1
    · rw [upd_ne q]; exact z
  refine ⟨GO1_congr h.1.1 e3 e4 e5 e6 e8 e9 e36 e37 e38 e39, ⟨fun j hj => ?_, fun j hj q hq z => ?_⟩, ?_, fun q hq => ?_, ⟨?_, fun j hj hk q hq z => ?_, fun j hj => ?_⟩, ?_⟩
  · rw [e11]
    by_cases q : j = 10 * i + c
    · subst q; rw [upd_eq]; exact Or.inr ⟨m, hm, rfl⟩
    · rw [upd_ne q]; exact hS.1 j hj
  · rw [e36, e39]
    by_cases k : 10 * j + q = 10 * i + c
    · obtain ⟨rfl, rfl⟩ : j = i ∧ q = c := by omega
      exact ⟨o1, fun w => old _ (o2 w)⟩
    · rw [e11, upd_ne k] at z
      obtain ⟨w1, w2⟩ := hS.2 j hj q hq z
      exact ⟨w1, fun w => old _ (w2 w)⟩
  · unfold GD
    rw [e12]
    exact h.1.2.2.1
  · have hP := h.1.2.2.2.1 q hq
    rw [e36, e37, e38, e39, e12, e13]
    -- items stamped: due as before
    have dd : ∀ j, j < N → ¬ σ 11 (10 * j + q) = -1 → dueF (σ 36) (σ 37) (σ 38) (σ 39) (σ' 11) (σ 12) q j = dueF (σ 36) (σ 37) (σ 38) (σ 39) (σ 11) (σ 12) q j := fun j hj z => by
      refine due_sp fun w => ?_
      have h1 : 1 ≤ j := by
        by_cases k : j = 0
        · subst k; exact absurd h0 w
        · omega
      have := ahdF_lt (kd := σ 36) h1
      rw [e11, upd_ne (ne _ q (by omega) hq ((hS.2 j hj q hq z).2 w))]
    by_cases k : q = c
    · subst k
      rw [upd_eq, hP]
      have e1 := pf_stamp (kd := σ 36) (mi := σ 37) (od := σ 38) (mn := σ 39) (sp := σ 11) (dl := σ 12) (sp' := σ' 11) (c := q) (i := i) hm1 hs (by rw [e11, upd_eq]) (by rw [e11]; exact dueF_upd hq h0) N (fun j hj hne => ⟨by rw [e11, upd_ne (by omega)], dd j hj⟩)
      rw [e1, if_pos hi]
    · rw [upd_ne k, hP]
      exact (pf_congr N fun j hj => ⟨by rw [e11, upd_ne (by omega)], dd j hj⟩).symm
  · rw [e18, e19, e20]
    exact h.1.2.2.2.2.1.1
  · rw [e36] at hk
    unfold TLD at z
    rw [e18, e19, e20, e21] at z
    exact old _ (h.1.2.2.2.2.1.2.1 j hj hk q hq z)
  · refine CHj_same (h.1.2.2.2.2.1.2.2 j hj) (by rw [e36]) (fun hk q hq => ?_) (fun q hq => by rw [e23]) (by rw [e24])
    have hw : ∀ q, q < 10 → ownC σ' j q = ownC σ j q := fun q hq => by
      show ownF (σ' 11) (σ' 18) (σ' 19) q j = ownF (σ 11) (σ 18) (σ 19) q j
      rw [e18, e19]
      refine own_congr (fun _ _ => ⟨rfl, rfl⟩) (fun z => ?_) hq
      have z2 : TLD σ (10 * j + q) := by
        rcases z with z | z
        · exact Or.inl z
        · exact Or.inr (Or.inl z)
      rw [e11, upd_ne (ne _ q (by omega) hq (h.1.2.2.2.2.1.2.1 j hj hk q hq z2))]
    refine ⟨hw q hq, ?_, by rw [e22]⟩
    have hg := legF_le (σ 36) j
    show timeF (σ' 11) (σ' 18) (σ' 19) (σ' 21) (σ' 20) (σ' 38) (σ' 39) (legF (σ' 36) j) q j = timeF (σ 11) (σ 18) (σ 19) (σ 21) (σ 20) (σ 38) (σ 39) (legF (σ 36) j) q j
    rw [e36, e38, e39, e20, e21]
    exact time_congr (h.1.1.2.1.1 _ (by omega)) (fun _ _ => rfl) rfl hw (fun _ _ => rfl) rfl hq
  · intro z
    rw [e39] at z
    have hg := legF_le (σ 36) i
    exact absurd ((h.1.2.2.2.2.2 z).2 _ (by omega)).2 o1
end OPS
