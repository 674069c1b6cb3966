/-! CALLS: both answer alike -/
section OPS
variable {X : rX} {σ σ' : Nat → Nat → Int32} {t : rH} {N r n : Nat}
/-- the one throws and the other says which of its exceptions; or both answer the same -/
def AGR (X : rX) (t : rH) (cod : List Nat) (y : Nat) (as : List Value) (y' : Nat) (as' : List Value) (σ : Nat → Nat → Int32) (r n : Nat) : Prop :=
  (∃ j E, cod[j]? = some E ∧ exC X y as (WW σ t) = exT E (WW σ t) ∧ exC X y' as' (WW σ t) = ans (nI 0) (WW (u2 σ 35 0 (nI (j + 1))) t)) ∨
  (∃ v σ1 σ2 N', exC X y as (WW σ t) = ans v (WW σ1 t) ∧ (∀ t, exC X y' as' (WW σ1 t) = ans v (WW σ2 t)) ∧ σ2 35 0 = nI 0 ∧ INV σ2 N' r (n + 1))
def AGV (X : rX) (t : rH) (cod : List Nat) (y : Nat) (as : List Value) (y' : Nat) (as' : List Value) (σ : Nat → Nat → Int32) (r n : Nat) : Prop :=
  (∃ j E, cod[j]? = some E ∧ exC X y as (WW σ t) = exT E (WW σ t) ∧ exC X y' as' (WW σ t) = ansV (WW (u2 σ 35 0 (nI (j + 1))) t)) ∨
  (∃ σ1 σ2 N', exC X y as (WW σ t) = ansV (WW σ1 t) ∧ exC X y' as' (WW σ1 t) = ansV (WW σ2 t) ∧ σ2 35 0 = nI 0 ∧ INV σ2 N' r (n + 1))
theorem INV_next (h : INV σ N r n) : INV (u2 σ 35 0 (nI 0)) N r (n + 1) := INV_mono (INV_thr h) (Nat.le_succ n)
def GB (σ : Nat → Nat → Int32) (N n : Nat) : Prop := GO1 σ N ∧ GS σ N ∧ GD σ n ∧ GP σ N
theorem GB_of (h : INV σ N r n) : GB σ N n := ⟨h.1.1, h.1.2.1, h.1.2.2.1, h.1.2.2.2.1⟩
theorem GA_next (z : GA σ N n) : GA σ N (n + 1) := ⟨z.1, z.2.1, GD_mono z.2.2.1 (Nat.le_succ n), z.2.2.2⟩
theorem GB_congr (h : GB σ N n) (e3 : σ' 3 3 = σ 3 3) (e : (σ' 4 = σ 4 ∧ σ' 5 = σ 5 ∧ σ' 6 = σ 6 ∧ σ' 8 = σ 8 ∧ σ' 9 = σ 9) ∧ (σ' 11 = σ 11 ∧ σ' 12 = σ 12 ∧ σ' 13 = σ 13) ∧ σ' 36 = σ 36 ∧ σ' 37 = σ 37 ∧ σ' 38 = σ 38 ∧ σ' 39 = σ 39) : GB σ' N n := by
  obtain ⟨⟨e4, e5, e6, e8, e9⟩, ⟨e11, e12, e13⟩, e36, e37, e38, e39⟩ := e
  unfold GB GO1 GS GD GP IA IB at h ⊢
  rw [e3, e4, e5, e6, e8, e9, e11, e12, e13, e36, e37, e38, e39]
  exact h
theorem GO1_congr (h : GO1 σ N) (e3 : σ' 3 3 = σ 3 3) (e4 : σ' 4 = σ 4) (e5 : σ' 5 = σ 5) (e6 : σ' 6 = σ 6) (e8 : σ' 8 = σ 8) (e9 : σ' 9 = σ 9) (e36 : σ' 36 = σ 36) (e37 : σ' 37 = σ 37) (e38 : σ' 38 = σ 38) (e39 : σ' 39 = σ 39) : GO1 σ' N := by
  unfold GO1 IA IB at h ⊢
  rw [e3, e4, e5, e6, e8, e9, e36, e37, e38, e39]
  exact h
/-! item -/
theorem legF_upd {kd : Nat → Int32} {m : Nat} {a : Int32} : ∀ i, i < m → legF (upd kd m a) i = legF kd i
  | 0, _ => rfl
  | i + 1, h => by
    unfold legF
    rw [upd_ne (by omega), legF_upd i (by omega)]
theorem pf_none {kd mi od mn sp dl : Nat → Int32} {c : Nat} : ∀ m, (∀ j, j < m → sp (10 * j + c) = -1) → pfF kd mi od mn sp dl c m = nI 0
  | 0, _ => rfl
  | m + 1, h => by
    unfold pfF
    rw [if_pos (h m (by omega)), pf_none m fun j hj => h j (by omega)]
theorem GA_item (h : INV σ N r n) {a b : Int32} (ho : okI a b) (hc : canP σ N a) (h3 : σ' 3 3 = nI (N + 1)) (h4 : σ' 4 = upd (σ 4) N a) (h5 : σ' 5 = upd (σ 5) N b) (h6 : σ' 6 = upd (σ 6) N (nI (if a = nI 0 then N else legF (σ 36) (N - 1)))) (h36 : σ' 36 = upd (σ 36) N a) (h37 : σ' 37 = upd (σ 37) N b)
    (e : (σ' 8 = σ 8 ∧ σ' 9 = σ 9) ∧ (σ' 11 = σ 11 ∧ σ' 12 = σ 12 ∧ σ' 13 = σ 13) ∧ (σ' 18 = σ 18 ∧ σ' 19 = σ 19 ∧ σ' 20 = σ 20 ∧ σ' 21 = σ 21 ∧ σ' 22 = σ 22 ∧ σ' 23 = σ 23 ∧ σ' 24 = σ 24) ∧ σ' 38 = σ 38 ∧ σ' 39 = σ 39) : GA σ' (N + 1) n := by
  obtain ⟨⟨e8, e9⟩, ⟨e11, e12, e13⟩, ⟨e18, e19, e20, e21, e22, e23, e24⟩, e38, e39⟩ := e
  obtain ⟨⟨⟨hA, hB, hG, hN0⟩, hS, hD, hP, hT, hF⟩, -⟩ := h
  obtain ⟨a1, a2, a3, a4, a5⟩ := hA
  obtain ⟨c1, c2, c3, c4⟩ := hc
  obtain ⟨f1, f2⟩ := hF c4
  obtain ⟨o1, o2, o3⟩ := ho
  have hl : legF (upd (σ 36) N a) N = if a = nI 0 then N else legF (σ 36) (N - 1) := by
    cases N with
    | zero =>
      rw [if_pos (c2 rfl)]
      rfl
    | succ M =>
      rw [show legF (upd (σ 36) (M + 1) a) (M + 1) = if upd (σ 36) (M + 1) a (M + 1) = nI 0 then M + 1 else legF (upd (σ 36) (M + 1) a) M from rfl, upd_eq, legF_upd M (by omega)]
      rfl
  refine ⟨⟨⟨by omega, h3, fun i hi => ?_, fun _ => ?_, fun i hi => ?_⟩, ?_, fun i hi => ⟨fun h1 hk => ?_, ?_⟩, fun z => by omega⟩, ⟨?_, fun i hi c hc q => ?_⟩, ?_, fun c hc => ?_, ⟨?_, fun i hi hk c hc q => ?_, fun j hj => ?_⟩, ?_⟩
  · rw [h4, h5, h6, h36, h37]
    by_cases q : i = N
    · subst q
      rw [upd_eq, upd_eq, upd_eq, upd_eq, upd_eq, hl]
      exact ⟨rfl, rfl, rfl⟩
    · obtain ⟨x1, x2, x3⟩ := a3 i (by omega)
      rw [upd_ne q, upd_ne q, upd_ne q, upd_ne q, upd_ne q, legF_upd i (by omega)]
      exact ⟨x1, x2, x3⟩
  · rw [h36]
    by_cases q : 0 = N
    · subst q
      rw [upd_eq, c2 rfl]
    · rw [upd_ne q]
      exact a4 (by omega)
  · rw [h36]
    by_cases q : i = N
    · subst q
      rw [upd_eq]
      obtain ⟨j, hj, rfl⟩ := o1
      rcases (by omega : j = 0 ∨ j = 1 ∨ j = 2) with rfl | rfl | rfl
      · exact Or.inl rfl
      · exact Or.inr (Or.inl rfl)
      · exact Or.inr (Or.inr rfl)
    · rw [upd_ne q]
      exact a5 i (by omega)
  · unfold IB at hB ⊢
    rw [e8, e9, e38, e39]
    exact hB
  · rw [h36] at hk ⊢
    by_cases q : i = N
    · subst q
      rw [upd_eq] at hk
      rw [upd_ne (by omega)]
      intro z
      have := c3 (by omega) z
      rw [hk, eq_f (by omega) (by omega) (by omega)] at this
      exact this
    · rw [upd_ne q] at hk
      rw [upd_ne (by omega)]
      exact (hG i (by omega)).1 h1 hk
  · rw [h37]
    by_cases q : i = N
    · subst q
      rw [upd_eq]
      by_cases q2 : a = nI 2
      · exact ⟨0, by omega, o2 q2⟩
      · obtain ⟨j, hj, e⟩ := o3 q2
        exact ⟨j, by omega, e⟩
    · rw [upd_ne q]
      exact (hG i (by omega)).2
  · rw [e11]
    exact hS.1
  · rw [e11] at q
    exact absurd (f1 (10 * i + c) (by omega)).1 q
  · unfold GD at hD ⊢
    rw [e12]
    exact hD
  · rw [e11, e13, pf_none (N + 1) fun j hj => (f1 (10 * j + c) (by omega)).1, hP c hc, pf_none N fun j hj => (f1 (10 * j + c) (by omega)).1]
  · rw [e18, e19, e20]
    exact hT.1
  · obtain ⟨-, g1, g2, g3, g4, -⟩ := f1 (10 * i + c) (by omega)
    unfold TLD at q
    rw [e18, e19, e20, e21] at q
    rcases q with q | q | q | q
    · exact absurd g1 q
    · exact absurd g2 q
    · exact absurd g3 q
    · exact absurd g4 q
  · refine CHj_blank (fun c hc => ?_) ?_
    · rw [e18, e19, e20, e21, e22, e23]
      exact (f1 (10 * j + c) (by omega)).2
    · rw [e24]
      exact (f2 j (by omega)).1
  · unfold GF at hF ⊢
    rw [e39, e11, e18, e19, e20, e21, e22, e23, e24]
    exact hF
theorem a_item (h : INV σ N r n) (a b : Int32) : AGR X t [1, 0] 80 [.ref 0, .int a, .int b] 113 [.ref 35, .int a, .int b] σ r n := by
  have hR := h.2.2.2.2.2.2.1
  have hA := h.1.1.1
  have hN := hA.1
  have h9 := h.1.1.2.1.2.2.1
  by_cases ho : okI a b
  · by_cases hc : canP σ N a
    · refine Or.inr ⟨_, _, _, N + 1, p_item0 (X := X) (t := t) hA h9 ho hc, fun t => q_item0 (X := X) (t := t) (σ := addC σ N a b) (N := N) hR hN ho hc, rfl, ?_⟩
      refine ⟨GA_next (GA_item h ho hc rfl rfl rfl rfl rfl rfl ⟨⟨rfl, rfl⟩, ⟨rfl, rfl, rfl⟩, ⟨rfl, rfl, rfl, rfl, rfl, rfl, rfl⟩, rfl, rfl⟩), GE_congr h.2.1 ⟨⟨rfl, rfl, rfl, rfl, rfl, rfl, rfl, rfl, rfl, rfl, rfl, rfl⟩, rfl, rfl, rfl, rfl, rfl, rfl, rfl, rfl, rfl, rfl, rfl, rfl⟩, GL_congr h.2.2.1 rfl rfl rfl, GY_congr h.2.2.2.1 rfl rfl rfl rfl, GJ_congr h.2.2.2.2.1 ⟨⟨rfl, rfl, rfl, rfl, rfl, rfl⟩, rfl, rfl, rfl, rfl, rfl, rfl, rfl⟩, RES_congr h.2.2.2.2.2.1 rfl rfl rfl, rfl, h.2.2.2.2.2.2.2⟩
    · exact Or.inl ⟨1, 0, rfl, p_item2 hA h9 ho hc, q_item2 hR hN ho hc⟩
  · exact Or.inl ⟨0, 1, rfl, p_item1 ho, q_item1 ho⟩
theorem a_starts (h : INV σ N r n) (a b : Int32) : AGR X t [2, 1] 82 [.ref 0, .int a, .int b] 117 [.ref 35, .int a, .int b] σ r n := by
  have hR := h.2.2.2.2.2.2.1
  have hA := h.1.1.1
  have hN := hA.1
  by_cases ha : inR a N
  · obtain ⟨i, hi, rfl⟩ := ha
    by_cases hb : inR b 10 ∧ σ 36 i = nI 0
    · obtain ⟨⟨j, hj, rfl⟩, hk⟩ := hb
      exact Or.inr ⟨_, _, _, N, p_starts0 hA h.1.1.2.1 hi hj hk, fun _ => q_starts0 hR hN hi hj hk (h.1.1.2.1.1 i (by omega)).1, rfl, INV_next h⟩
    · exact Or.inl ⟨1, 1, rfl, p_starts2 hA hi hb, q_starts2 hR hN hi hb⟩
  · exact Or.inl ⟨0, 2, rfl, p_starts1 hA ha, q_starts1 hR hN ha⟩
theorem run_iff (h : INV σ N r n) {c : Nat} (hc : c < 10) : runP σ c ↔ σ 48 c = nI 0 ∧ σ 49 c = nI 0 := by
  obtain ⟨-, -, -, -, -, -, -, e8, -⟩ := h.2.1
  rw [out_iff h.2.2.1 hc, ← e8]
  exact And.comm
theorem due_run (h : INV σ N r n) {c i : Nat} (hc : c < 10) (hr : runP σ c) : dueR σ c i = dueC σ c i := by
  obtain ⟨e1, e2, -⟩ := h.2.1
  obtain ⟨h1, h2⟩ := (run_iff h hc).mp hr
  unfold dueR
  rw [if_pos h1, if_pos h2, ← e1, ← e2]
theorem due_not (h : INV σ N r n) {c i : Nat} (hc : c < 10) (hr : ¬ runP σ c) : dueR σ c i = -1 := by
  rw [run_iff h hc] at hr
  unfold dueR
  by_cases h1 : σ 48 c = nI 0
  · rw [if_pos h1, if_neg (fun z => hr ⟨h1, z⟩)]
  · rw [if_neg h1]
theorem due_eq (h : INV σ N r n) {c i : Nat} (hc : c < 10) : dueD σ c i = dueR σ c i := by
  by_cases hr : runP σ c
  · rw [dueD_t hr, due_run h hc hr]
  · rw [dueD_f hr, due_not h hc hr]
theorem a_due (h : INV σ N r n) (a b : Int32) : AGR X t [2, 1] 83 [.ref 0, .int a, .int b] 122 [.ref 35, .int a, .int b] σ r n := by
  have hR := h.2.2.2.2.2.2.1
  have hA := h.1.1.1
  have hN := hA.1
  by_cases ha : inR a 10 ∧ inR b N
  · obtain ⟨⟨c, hc, rfl⟩, ⟨i, hi, rfl⟩⟩ := ha
    by_cases hk : σ 36 i = nI 2
    · exact Or.inl ⟨1, 1, rfl, p_due2 hA hc hi hk, q_due2 hR hN hc hi hk⟩
    · refine Or.inr ⟨_, _, _, N, p_due0 hA h.1.1.2.1 hc hi hk, ?_, rfl, INV_next h⟩
      rw [due_eq h hc]
      exact fun _ => q_due0 (RK_of h) hc hi hk
  · exact Or.inl ⟨0, 2, rfl, p_due1 hA ha, q_due1 hR hN ha⟩
/-! stamp -/
theorem leg_self {kd : Nat → Int32} {i : Nat} (hk : kd i = nI 0) : legF kd i = i := by
  cases i with
  | zero => rfl
  | succ i => unfold legF; rw [if_pos hk]
theorem leg_pred {kd : Nat → Int32} {i : Nat} (h1 : 1 ≤ i) (hk : ¬ kd i = nI 0) : legF kd i = legF kd (i - 1) := by
  cases i with
  | zero => omega
  | succ i =>
    rw [legF, if_neg hk]
    rfl
theorem two_z : ¬ nI 2 = nI 0 := by rw [eq_f (by omega) (by omega) (by omega)]; exact id
theorem leg_ahd {kd : Nat → Int32} {i : Nat} (h1 : 1 ≤ i) (h0 : kd 0 = nI 0) (hk : ¬ kd i = nI 0) : legF kd (ahdF kd i) = legF kd i := by
  rw [leg_pred h1 hk]
  unfold ahdF
  by_cases h : kd (i - 1) = nI 2
  · have h2 : 1 ≤ i - 1 := by
      by_cases q : i - 1 = 0
      · rw [q, h0] at h
        exact absurd h.symm two_z
      · omega
    rw [if_pos h, leg_pred h2 (by rw [h]; exact two_z)]
    rfl
  · rw [if_neg h]
theorem pf_congr {kd mi od mn sp dl kd' mi' od' mn' sp' dl' : Nat → Int32} {c : Nat} : ∀ m, (∀ j, j < m → sp' (10 * j + c) = sp (10 * j + c) ∧ (¬ sp (10 * j + c) = -1 → dueF kd' mi' od' mn' sp' dl' c j = dueF kd mi od mn sp dl c j)) → pfF kd' mi' od' mn' sp' dl' c m = pfF kd mi od mn sp dl c m
  | 0, _ => rfl
  | m + 1, h => by
    obtain ⟨h1, h2⟩ := h m (by omega)
    unfold pfF
    rw [h1, pf_congr m fun j hj => h j (by omega)]
    by_cases q : sp (10 * m + c) = -1
    · rw [if_pos q, if_pos q]
    · rw [if_neg q, if_neg q, h2 q]
theorem pf_stamp {kd mi od mn sp dl sp' : Nat → Int32} {c i : Nat} {x : Int32} (hx : ¬ x = -1) (h0 : sp (10 * i + c) = -1) (h1 : sp' (10 * i + c) = x) (h2 : dueF kd mi od mn sp' dl c i = dueF kd mi od mn sp dl c i) : ∀ m, (∀ j, j < m → j ≠ i → sp' (10 * j + c) = sp (10 * j + c) ∧ (¬ sp (10 * j + c) = -1 → dueF kd mi od mn sp' dl c j = dueF kd mi od mn sp dl c j)) → pfF kd mi od mn sp' dl c m = if i < m then pfF kd mi od mn sp dl c m + byF (x - dueF kd mi od mn sp dl c i) else pfF kd mi od mn sp dl c m
  | 0, _ => rfl
  | m + 1, h => by
    have ih := pf_stamp hx h0 h1 h2 m fun j hj => h j (by omega)
    by_cases q : m = i
    · subst q
      rw [if_neg (by omega)] at ih
      rw [if_pos (by omega)]
      unfold pfF
      rw [h1, if_neg hx, if_pos h0, ih, h2]
    · obtain ⟨g1, g2⟩ := h m (by omega) q
      by_cases q2 : i < m
      · rw [if_pos q2] at ih
        rw [if_pos (by omega)]
        unfold pfF
        rw [g1, ih]
        by_cases q3 : sp (10 * m + c) = -1
        · rw [if_pos q3, if_pos q3]
        · rw [if_neg q3, if_neg q3, g2 q3]
          ac_rfl
      · rw [if_neg q2] at ih
        rw [if_neg (by omega)]
        unfold pfF
        rw [g1, ih]
        by_cases q3 : sp (10 * m + c) = -1
        · rw [if_pos q3, if_pos q3]
        · rw [if_neg q3, if_neg q3, g2 q3]
theorem due_sp {kd mi od mn sp dl sp' : Nat → Int32} {c j : Nat} (h : ¬ kd j = nI 0 → sp' (10 * ahdF kd j + c) = sp (10 * ahdF kd j + c)) : dueF kd mi od mn sp' dl c j = dueF kd mi od mn sp dl c j := by
  unfold dueF
  by_cases q : kd j = nI 0
  · rw [if_pos q, if_pos q]
  · rw [if_neg q, if_neg q, h q]
/-- what a stamp at an open leg stands on -/
theorem due_open (h : INV σ N r n) {c i : Nat} (hc : c < 10) (hi : i < N) (hd : ¬ dueC σ c i = -1) : ¬ σ 39 (legF (σ 36) i) = -1 ∧ (¬ σ 36 i = nI 0 → ¬ σ 11 (10 * ahdF (σ 36) i + c) = -1) := by
  have hd : ¬ dueF (σ 36) (σ 37) (σ 38) (σ 39) (σ 11) (σ 12) c i = -1 := hd
  have h0 := h.1.1.1.2.2.2.1 (by omega)
  unfold dueF at hd
  by_cases hk : σ 36 i = nI 0
  · rw [if_pos hk] at hd
    refine ⟨?_, fun z => absurd hk z⟩
    rw [leg_self hk]
    intro z
    refine hd (if_pos ?_)
    rw [z, cnt_m1]
    rfl
  · rw [if_neg hk] at hd
    have h1 : 1 ≤ i := by
      by_cases q : i = 0
      · subst q; exact absurd h0 hk
      · omega
    have hs : ¬ σ 11 (10 * ahdF (σ 36) i + c) = -1 := fun z => hd (if_pos z)
    refine ⟨?_, fun _ => hs⟩
    rw [← leg_ahd h1 h0 hk]
    have := ahdF_lt (kd := σ 36) h1
    exact (h.1.2.1.2 (ahdF (σ 36) i) (by omega) c hc hs).1
/-- a stamp -/
theorem GA_stamp (h : INV σ N r n) {c i m : Nat} (hc : c < 10) (hi : i < N) (hm : m ≤ 2000) (hs : σ 11 (10 * i + c) = -1) (hd : ¬ dueC σ c i = -1) (e11 : σ' 11 = upd (σ 11) (10 * i + c) (nI m)) (e13 : σ' 13 = upd (σ 13) c (σ 13 c + byF (nI m - dueC σ c i))) (e3 : σ' 3 3 = σ 3 3)
    (e : (σ' 4 = σ 4 ∧ σ' 5 = σ 5 ∧ σ' 6 = σ 6 ∧ σ' 8 = σ 8 ∧ σ' 9 = σ 9) ∧ (σ' 12 = σ 12) ∧ (σ' 18 = σ 18 ∧ σ' 19 = σ 19 ∧ σ' 20 = σ 20 ∧ σ' 21 = σ 21 ∧ σ' 22 = σ 22 ∧ σ' 23 = σ 23 ∧ σ' 24 = σ 24) ∧ σ' 36 = σ 36 ∧ σ' 37 = σ 37 ∧ σ' 38 = σ 38 ∧ σ' 39 = σ 39) : GA σ' N n := by
  obtain ⟨⟨e4, e5, e6, e8, e9⟩, e12, ⟨e18, e19, e20, e21, e22, e23, e24⟩, e36, e37, e38, e39⟩ := e
  have hN := h.1.1.1.1
  have h0 := h.1.1.1.2.2.2.1 (by omega)
  have hm1 : ¬ nI m = -1 := by rw [eq_m1 (by omega)]; exact id
  obtain ⟨o1, o2⟩ := due_open h hc hi hd
  have hS := h.1.2.1
  -- a stamp that stands is not the new one
  have ne : ∀ j q, j < N → q < 10 → ¬ σ 11 (10 * j + q) = -1 → 10 * j + q ≠ 10 * i + c := fun j q _ _ z1 z2 => z1 (by rw [z2]; exact hs)
  have old : ∀ k, ¬ σ 11 k = -1 → ¬ σ' 11 k = -1 := fun k z => by
    rw [e11]
    by_cases q : k = 10 * i + c
    · subst q; rw [upd_eq]; exact hm1
    · rw [upd_ne q]; exact z
  refine ⟨GO1_congr h.1.1 e3 e4 e5 e6 e8 e9 e36 e37 e38 e39, ⟨fun j hj => ?_, fun j hj q hq z => ?_⟩, ?_, fun q hq => ?_, ⟨?_, fun j hj hk q hq z => ?_, fun j hj => ?_⟩, ?_⟩
  · rw [e11]
    by_cases q : j = 10 * i + c
    · subst q; rw [upd_eq]; exact Or.inr ⟨m, hm, rfl⟩
    · rw [upd_ne q]; exact hS.1 j hj
  · rw [e36, e39]
    by_cases k : 10 * j + q = 10 * i + c
    · obtain ⟨rfl, rfl⟩ : j = i ∧ q = c := by omega
      exact ⟨o1, fun w => old _ (o2 w)⟩
    · rw [e11, upd_ne k] at z
      obtain ⟨w1, w2⟩ := hS.2 j hj q hq z
      exact ⟨w1, fun w => old _ (w2 w)⟩
  · unfold GD
    rw [e12]
    exact h.1.2.2.1
  · have hP := h.1.2.2.2.1 q hq
    rw [e36, e37, e38, e39, e12, e13]
    -- items stamped: due as before
    have dd : ∀ j, j < N → ¬ σ 11 (10 * j + q) = -1 → dueF (σ 36) (σ 37) (σ 38) (σ 39) (σ' 11) (σ 12) q j = dueF (σ 36) (σ 37) (σ 38) (σ 39) (σ 11) (σ 12) q j := fun j hj z => by
      refine due_sp fun w => ?_
      have h1 : 1 ≤ j := by
        by_cases k : j = 0
        · subst k; exact absurd h0 w
        · omega
      have := ahdF_lt (kd := σ 36) h1
      rw [e11, upd_ne (ne _ q (by omega) hq ((hS.2 j hj q hq z).2 w))]
    by_cases k : q = c
    · subst k
      rw [upd_eq, hP]
      have e1 := pf_stamp (kd := σ 36) (mi := σ 37) (od := σ 38) (mn := σ 39) (sp := σ 11) (dl := σ 12) (sp' := σ' 11) (c := q) (i := i) hm1 hs (by rw [e11, upd_eq]) (by rw [e11]; exact dueF_upd hq h0) N (fun j hj hne => ⟨by rw [e11, upd_ne (by omega)], dd j hj⟩)
      rw [e1, if_pos hi]
    · rw [upd_ne k, hP]
      exact (pf_congr N fun j hj => ⟨by rw [e11, upd_ne (by omega)], dd j hj⟩).symm
  · rw [e18, e19, e20]
    exact h.1.2.2.2.2.1.1
  · rw [e36] at hk
    unfold TLD at z
    rw [e18, e19, e20, e21] at z
    exact old _ (h.1.2.2.2.2.1.2.1 j hj hk q hq z)
  · refine CHj_same (h.1.2.2.2.2.1.2.2 j hj) (by rw [e36]) (fun hk q hq => ?_) (fun q hq => by rw [e23]) (by rw [e24])
    have hw : ∀ q, q < 10 → ownC σ' j q = ownC σ j q := fun q hq => by
      show ownF (σ' 11) (σ' 18) (σ' 19) q j = ownF (σ 11) (σ 18) (σ 19) q j
      rw [e18, e19]
      refine own_congr (fun _ _ => ⟨rfl, rfl⟩) (fun z => ?_) hq
      have z2 : TLD σ (10 * j + q) := by
        rcases z with z | z
        · exact Or.inl z
        · exact Or.inr (Or.inl z)
      rw [e11, upd_ne (ne _ q (by omega) hq (h.1.2.2.2.2.1.2.1 j hj hk q hq z2))]
    refine ⟨hw q hq, ?_, by rw [e22]⟩
    have hg := legF_le (σ 36) j
    show timeF (σ' 11) (σ' 18) (σ' 19) (σ' 21) (σ' 20) (σ' 38) (σ' 39) (legF (σ' 36) j) q j = timeF (σ 11) (σ 18) (σ 19) (σ 21) (σ 20) (σ 38) (σ 39) (legF (σ 36) j) q j
    rw [e36, e38, e39, e20, e21]
    exact time_congr (h.1.1.2.1.1 _ (by omega)) (fun _ _ => rfl) rfl hw (fun _ _ => rfl) rfl hq
  · intro z
    rw [e39] at z
    have hg := legF_le (σ 36) i
    exact absurd ((h.1.2.2.2.2.2 z).2 _ (by omega)).2 o1
theorem a_stamp (h : INV σ N r n) (a b w : Int32) : AGR X t [2, 1, 0] 84 [.ref 0, .int a, .int b, .int w] 123 [.ref 35, .int a, .int b, .int w] σ r n := by
  have hR := h.2.2.2.2.2.2.1
  have hA := h.1.1.1
  have hN := hA.1
  have hB := h.1.1.2.1
  by_cases ha : inR a 10 ∧ inR b N
  · obtain ⟨⟨c, hc, rfl⟩, ⟨i, hi, rfl⟩⟩ := ha
    by_cases hb : ¬ σ 36 i = nI 2 ∧ inR w 2001
    · obtain ⟨hk, ⟨m, hm, rfl⟩⟩ := hb
      have e11 := h.2.1.1
      by_cases hn : runP σ c ∧ σ 11 (10 * i + c) = -1 ∧ ¬ dueC σ c i = -1
      · obtain ⟨n1, n2, n3⟩ := hn
        have ed := due_run h (i := i) hc n1
        obtain ⟨g1, g2⟩ := (run_iff h hc).mp n1
        have hRK : RK (stpC σ c i m (nI m - dueC σ c i)) N := by
          have := RK_of h
          exact this
        have Q := fun (t : rH) => q_stamp0 (X := X) (t := t) (σ := stpC σ c i m (nI m - dueC σ c i)) (N := N) (c := c) (i := i) (m := m) hRK hc hi hk (by omega) (Or.inl g1) (by show ¬ dueR σ c i = -1; rw [ed]; exact n3) (by show σ 40 _ = -1; rw [← e11]; exact n2)
        obtain ⟨z, hz, -⟩ := Q t
        have hq : ∀ t', exC X 123 [.ref 35, .int (nI c), .int (nI i), .int (nI m)] (WW (stpC σ c i m (nI m - dueC σ c i)) t') = ans (byF (nI m - dueR (stpC σ c i m (nI m - dueC σ c i)) c i)) (WW (stpR (stpC σ c i m (nI m - dueC σ c i)) c i m (nI m - dueR (stpC σ c i m (nI m - dueC σ c i)) c i) z) t') := fun t' => by
          obtain ⟨z', hz', hq'⟩ := Q t'
          have e : z' = z := by
            rcases hz with ⟨a1, a2⟩ | ⟨a1, a2⟩
            · rcases hz' with ⟨b1, b2⟩ | ⟨b1, b2⟩
              · rw [a1, b1]
              · exact absurd a2 b2
            · rcases hz' with ⟨b1, b2⟩ | ⟨b1, b2⟩
              · exact absurd b2 a2
              · rw [a1, b1]
          rw [← e]
          exact hq'
        have ed2 : dueR (stpC σ c i m (nI m - dueC σ c i)) c i = dueC σ c i := ed
        rw [ed2] at hz hq
        refine Or.inr ⟨_, _, _, N, p_stamp0 hA hB hc hi hk (by omega) ⟨n1, n2, n3⟩, hq, rfl, ?_⟩
        obtain ⟨e1, e2, e3, e4, e5, e6, e7, e8, e9, e10, e12, e13⟩ := h.2.1
        refine ⟨GA_next (GA_stamp h hc hi (by omega) n2 n3 rfl rfl rfl ⟨⟨rfl, rfl, rfl, rfl, rfl⟩, rfl, ⟨rfl, rfl, rfl, rfl, rfl, rfl, rfl⟩, rfl, rfl, rfl, rfl⟩), ⟨?_, e2, e3, e4, e5, e6, ?_, e8, e9, e10, e12, e13⟩, fun q hq => ?_, ⟨fun q hq => ?_, h.2.2.2.1.2⟩, ?_, RES_congr h.2.2.2.2.2.1 rfl rfl rfl, hR, h.2.2.2.2.2.2.2⟩
        · show upd (σ 11) (10 * i + c) (nI m) = upd (σ 40) (10 * i + c) (nI m)
          rw [e1]
        · show upd (σ 14) c (σ 14 c + _) = upd (σ 47) c (σ 47 c + _)
          rw [e7]
        · obtain ⟨l1, l2⟩ := h.2.2.1 q hq
          refine ⟨?_, l2⟩
          show (nI 30 < upd (σ 14) c (σ 14 c + _) q → upd (σ 48) c z q = nI 1) ∧ (¬ nI 30 < upd (σ 14) c (σ 14 c + _) q → upd (σ 48) c z q = nI 0)
          by_cases k : q = c
          · subst k
            rw [upd_eq, upd_eq, e7]
            have hz2 : z = nI 1 ∧ (¬ σ 48 q = nI 0 ∨ nI 30 < σ 47 q + (if nI 0 < nI m - dueC σ q i then nI m - dueC σ q i else nI 0)) ∨ z = nI 0 ∧ ¬ (¬ σ 48 q = nI 0 ∨ nI 30 < σ 47 q + (if nI 0 < nI m - dueC σ q i then nI m - dueC σ q i else nI 0)) := hz
            rcases hz2 with ⟨rfl, hw⟩ | ⟨rfl, hw⟩
            · exact ⟨fun _ => rfl, fun z => absurd (hw.resolve_left (fun w => w g1)) z⟩
            · exact ⟨fun z => absurd (Or.inr z) hw, fun _ => rfl⟩
          · rw [upd_ne k, upd_ne k]
            exact l1
        · obtain ⟨y1, y2⟩ := h.2.2.2.1.1 q hq
          refine ⟨?_, y2⟩
          show upd (σ 46) c (σ 46 c + byF (nI m - dueC σ c i)) q = upd (σ 13) c (σ 13 c + byF (nI m - dueC σ c i)) q + σ 29 q
          by_cases k : q = c
          · subst k
            rw [upd_eq, upd_eq, y1]
            ac_rfl
          · rw [upd_ne k, upd_ne k, y1]
        · obtain ⟨j1, j2, j3, j4⟩ := h.2.2.2.2.1
          refine ⟨fun j hj => ?_, j2, fun j hj => ?_, j4⟩
          · obtain ⟨w1, w2⟩ := j1 j hj
            exact ⟨(upd_ne (by omega)).trans w1, w2⟩
          · obtain ⟨w1, w2⟩ := j3 j hj
            exact ⟨(upd_ne (by omega)).trans w1, w2⟩
      · refine Or.inl ⟨2, 0, rfl, p_stamp3 hA hB hc hi hk (by omega) hn, q_stamp3 (RK_of h) hc hi hk (by omega) fun q => ?_⟩
        obtain ⟨q1, q2⟩ := q
        by_cases hr : runP σ c
        · rw [due_run h hc hr] at q1
          rw [← e11] at q2
          exact hn ⟨hr, q2, q1⟩
        · exact q1 (due_not h hc hr)
    · exact Or.inl ⟨1, 1, rfl, p_stamp2 hA hc hi hb, q_stamp2 hR hN hc hi hb⟩
  · exact Or.inl ⟨0, 2, rfl, p_stamp1 hA ha, q_stamp1 hR hN ha⟩
end OPS
