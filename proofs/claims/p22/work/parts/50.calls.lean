/-! CALLS: what each call makes of the class, what holds of it then -/
theorem zlt (a : Nat) (ha : a < 2 ^ 31) : (nI 0 < nI a) = (0 < a) := by
  by_cases h : 0 < a
  · rw [lt_t h ha]; simp [h]
  · rw [lt_f (by omega) (by omega)]; simp [h]
/-- what a stamp costs: late, early -/
theorem by_late {s d : Nat} (hs : s ≤ 2000) (h : d < s) : byF (nI s - nI d) = nI (100 * (s - d)) ∧ (if nI 0 < nI s - nI d then nI s - nI d else nI 0) = nI (s - d) := by
  unfold byF
  rw [nI_subI (by omega), if_pos (nI_lt (by omega) (by omega)), if_pos (nI_lt (by omega) (by omega)), nI_mul]
  exact ⟨rfl, rfl⟩
theorem by_early {s d : Nat} (hd : d ≤ 34800) (h : s ≤ d) : byF (nI s - nI d) = nI (600 * (d - s)) ∧ (if nI 0 < nI s - nI d then nI s - nI d else nI 0) = nI 0 := by
  have e : nI s - nI d = -(nI (d - s)) := by
    rw [← nI_subI h, Int32.neg_sub]
  have hn : ¬ nI 0 < -(nI (d - s)) := by
    rw [Int32.lt_iff_toInt_lt, Int32.toInt_neg, nI_toInt (by omega), nI_toInt (by omega), bm_ (z := -((d - s : Nat) : Int)) (by omega) (by omega)]
    omega
  unfold byF
  rw [e, if_neg hn, if_neg hn, n600, Int32.neg_mul_neg, nI_mul]
  exact ⟨rfl, rfl⟩
section CAL
variable {X : rX} {σ σ' : Nat → Nat → Int32} {t : rH} {N r n : Nat}
/-! item -/
def itG (σ : Nat → Nat → Int32) (N : Nat) (a b : Int32) : Nat → Nat → Int32 := u2 (u2 (addC σ N a b) 36 N a) 37 N b
theorem c_item1 (h : INV σ N r n) {a b : Int32} (ho : okI a b) (hc : ¬ canP σ N a) : exC X 80 [.ref 0, .int a, .int b] (WW σ t) = exT 0 (WW σ t) := p_item2 h.1.1.1 h.1.1.2.1.2.2.1 ho hc
theorem c_item0 (h : INV σ N r n) {a b : Int32} (ho : okI a b) (hc : canP σ N a) : exC X 80 [.ref 0, .int a, .int b] (WW σ t) = ans (nI N) (WW (itG σ N a b) t) := p_item0 h.1.1.1 h.1.1.2.1.2.2.1 ho hc
theorem INV_item (h : INV σ N r n) {a b : Int32} (ho : okI a b) (hc : canP σ N a) : INV (itG σ N a b) (N + 1) r n :=
  ⟨GA_item h ho hc rfl rfl rfl rfl rfl rfl ⟨⟨rfl, rfl⟩, ⟨rfl, rfl, rfl⟩, ⟨rfl, rfl, rfl, rfl, rfl, rfl, rfl⟩, rfl, rfl⟩, GL_congr h.2.1 rfl, GY_congr h.2.2.1 rfl rfl, RES_congr h.2.2.2.1 rfl rfl rfl, GW_congr h.2.2.2.2.1 rfl rfl, GK_congr h.2.2.2.2.2 rfl⟩
/-! open -/
noncomputable def opL (σ : Nat → Nat → Int32) (N i w : Nat) : List Nat := orcL (rkC (if i = 0 then nI 1 else nI 0) σ N 34) w ++ crtL σ i
noncomputable def opG (σ : Nat → Nat → Int32) (N i w : Nat) : Nat → Nat → Int32 := sA (u2 (opnC σ N i w) 39 i (nI (opL σ N i w).length)) 38 (fun j => if 10 * i ≤ j ∧ j < 10 * i + (opL σ N i w).length then nI ((opL σ N i w).getD (j - 10 * i) 0) else σ 38 j)
theorem opL_ok (σ : Nat → Nat → Int32) (N : Nat) {i w : Nat} (hw : w ≤ 2) : (∀ c, c ∈ opL σ N i w → c < 10) ∧ (opL σ N i w).Nodup ∧ (opL σ N i w).length ≤ 10 := by
  obtain ⟨l1, l2, l3⟩ := ord_ok (σ := σ) (N := N) (i := i) (w := w) hw
  exact ⟨l1, l2, by unfold opL; rw [List.length_append]; exact l3⟩
theorem tnL_all {rk : Nat → Int32} {tr : Nat} : ∀ j, (∀ p, p < j → ¬ plcF rk (nI (fromP tr p)) 10 = -1) → (tnL rk tr j).length = j
  | 0, _ => rfl
  | j + 1, h => by
    rw [tnL_t (h j (by omega)), List.length_append, tnL_all j fun p hp => h p (by omega)]
    rfl
theorem cnF_all {P : Nat → Prop} (h : ∀ c, P c) : ∀ n, cnF P n = n
  | 0 => rfl
  | n + 1 => by rw [cnF_t (h n), cnF_all h n]
/-- the order of the first leg has all cars -/
theorem opL_0 (σ : Nat → Nat → Int32) (N : Nat) {w : Nat} (hw : w ≤ 2) : (opL σ N 0 w).length = 10 := by
  have hall : ∀ c, inC (nI 1) σ c := fun c => Or.inl rfl
  have hpl : ∀ p, p < 10 → ¬ plcF (rkC (nI 1) σ N 34) (nI p) 10 = -1 := fun p hp => by
    obtain ⟨c, hc, -, -, e⟩ := plc_ex (P := inC (nI 1) σ) (rk := rkC (nI 1) σ N 34) (ahdC_ord (inC (nI 1) σ) (rk1 (nI 1) σ N 10 32) (σ 23) N) (fun c hc => rkC_plV hc) (p := p) (by rw [cnF_all hall]; exact hp)
    rw [e, eq_m1 (by omega)]
    exact id
  unfold opL crtL orcL
  rw [if_pos rfl, if_pos rfl, List.append_nil]
  by_cases h0 : w = 0
  · rw [if_pos h0]
    unfold numL
    rw [List.filter_eq_self.mpr, List.length_range]
    intro c hc
    have hc := List.mem_range.mp hc
    rw [rkC_plV hc, plV_t (hall c)]
    have := cnF_le (fun o => o ≠ c ∧ inC (nI 1) σ o ∧ ahdC (rk1 (nI 1) σ N 10 32) (σ 23) N o c) 10
    have e := eq_m1 (a := cnF (fun o => o ≠ c ∧ inC (nI 1) σ o ∧ ahdC (rk1 (nI 1) σ N 10 32) (σ 23) N o c) 10) (by omega)
    simpa using e
  · rw [if_neg h0]
    refine tnL_all 10 fun p hp => hpl _ ?_
    unfold fromP
    split <;> split at * <;> omega
theorem c_open1 (h : INV σ N r n) {i w : Nat} (hi : i < N) (hw : w ≤ 2) (hk : σ 36 i = nI 0) (ho : ¬ (σ 39 i = -1 ∧ opnF (σ 36) (σ 39) i)) : exC X 81 [.ref 0, .int (nI i), .int (nI w)] (WW σ t) = exT 0 (WW σ t) := p_open3 h.1.1.1 h.1.1.2.1.2.2.1 hi hw hk ho
theorem c_open0 (h : INV σ N r n) {i w : Nat} (hi : i < N) (hw : w ≤ 2) (hk : σ 36 i = nI 0) (ho : σ 39 i = -1 ∧ opnF (σ 36) (σ 39) i) : exC X 81 [.ref 0, .int (nI i), .int (nI w)] (WW σ t) = ans (nI (opL σ N i w).length) (WW (opG σ N i w) t) := by
  have hN := h.1.1.1.1
  obtain ⟨l1, l2, l3⟩ := ord_ok (σ := σ) (N := N) (i := i) (w := w) hw
  have hm := k_makeOrder (X := X) (t := t) (σ := σ) (i := i) (w := w) h.1.1.1 (by omega) hw (hz_of h) (fun p hp => rk_uni _ (by omega)) l3
  exact p_open0 (X := X) (t := t) h.1.1.1 h.1.1.2.1.2.2.1 hi hw hk ho.1 ho.2 hm
theorem INV_open (h : INV σ N r n) {i w : Nat} (hi : i < N) (hw : w ≤ 2) (hk : σ 36 i = nI 0) (ho : σ 39 i = -1 ∧ opnF (σ 36) (σ 39) i) : INV (opG σ N i w) N r n := by
  obtain ⟨l1, l2, l3⟩ := opL_ok σ N (i := i) hw
  refine ⟨GA_open h hi hk ho.1 ho.2 l1 l2 l3 rfl rfl rfl rfl rfl ⟨⟨rfl, rfl, rfl⟩, ⟨rfl, rfl, rfl⟩, ⟨rfl, rfl, rfl, rfl, rfl, rfl, rfl⟩, rfl, rfl⟩, fun q hq => ?_, GY_congr h.2.2.1 rfl rfl, RES_congr h.2.2.2.1 rfl rfl rfl, GW_congr h.2.2.2.2.1 rfl rfl, GK_congr h.2.2.2.2.2 rfl⟩
  show ct15 σ i q = nI 0 ∨ ct15 σ i q = nI 1
  unfold ct15
  split
  · exact h.2.1 q hq
  · unfold ctF
    split
    · exact Or.inl rfl
    · exact h.2.1 q hq
/-! stamp -/
theorem c_stamp1 (h : INV σ N r n) {c i m : Nat} (hc : c < 10) (hi : i < N) (hk : ¬ σ 36 i = nI 2) (hm : m ≤ 2000) (hn : ¬ (runP σ c ∧ σ 11 (10 * i + c) = -1 ∧ ¬ dueC σ c i = -1)) : exC X 84 [.ref 0, .int (nI c), .int (nI i), .int (nI m)] (WW σ t) = exT 0 (WW σ t) := p_stamp3 h.1.1.1 h.1.1.2.1 hc hi hk hm hn
theorem c_stamp0 (h : INV σ N r n) {c i m : Nat} (hc : c < 10) (hi : i < N) (hk : ¬ σ 36 i = nI 2) (hm : m ≤ 2000) (hn : runP σ c ∧ σ 11 (10 * i + c) = -1 ∧ ¬ dueC σ c i = -1) : exC X 84 [.ref 0, .int (nI c), .int (nI i), .int (nI m)] (WW σ t) = ans (byF (nI m - dueC σ c i)) (WW (stpC σ c i m (nI m - dueC σ c i)) t) := p_stamp0 h.1.1.1 h.1.1.2.1 hc hi hk hm hn
theorem INV_stamp (h : INV σ N r n) (hn5 : n ≤ 500) {c i m : Nat} (hc : c < 10) (hi : i < N) (hm : m ≤ 2000) (hn : runP σ c ∧ σ 11 (10 * i + c) = -1 ∧ ¬ dueC σ c i = -1) : INV (stpC σ c i m (nI m - dueC σ c i)) N r (n + 1) := by
  obtain ⟨n1, n2, n3⟩ := hn
  refine ⟨GA_next (GA_stamp h hc hi hm n2 n3 rfl rfl rfl ⟨⟨rfl, rfl, rfl, rfl, rfl⟩, rfl, ⟨rfl, rfl, rfl, rfl, rfl, rfl, rfl⟩, rfl, rfl, rfl, rfl⟩), GL_congr h.2.1 rfl, GY_congr h.2.2.1 rfl rfl, RES_congr h.2.2.2.1 rfl rfl rfl, fun q hq => ?_, GK_congr h.2.2.2.2.2 rfl⟩
  obtain ⟨a, b, h1, h2, h3, h4⟩ := h.2.2.2.2.1 q hq
  show ∃ a b, a ≤ 2000 * (n + 1) ∧ b ≤ 20900000 * (n + 1) ∧ upd (σ 14) c (σ 14 c + (if nI 0 < nI m - dueC σ c i then nI m - dueC σ c i else nI 0)) q = nI a ∧ upd (σ 13) c (σ 13 c + byF (nI m - dueC σ c i)) q = nI (100 * a + b)
  by_cases w : q = c
  · subst w
    rw [upd_eq, upd_eq, h3, h4]
    obtain ⟨d, hd, ed⟩ := (due_B h (by omega) hi hc).resolve_left n3
    rw [ed]
    by_cases hl : d < m
    · obtain ⟨e1, e2⟩ := by_late hm hl
      rw [e1, e2, nI_add, nI_add]
      exact ⟨a + (m - d), b, by omega, by omega, rfl, by congr 1; omega⟩
    · obtain ⟨e1, e2⟩ := by_early hd (by omega : m ≤ d)
      rw [e1, e2, nI_add, nI_add]
      exact ⟨a + 0, b + 600 * (d - m), by omega, by omega, rfl, by congr 1; omega⟩
  · rw [upd_ne w, upd_ne w]
    exact ⟨a, b, by omega, by omega, h3, h4⟩
/-! delay -/
theorem c_delay (h : INV σ N r n) {c i u : Nat} (hc : c < 10) (hi : i < N) (hk : σ 36 i = nI 1) (hu1 : 1 ≤ u) (hu2 : u ≤ 60) :
    exC X 85 [.ref 0, .int (nI i), .int (nI c), .int (nI u)] (WW σ t) = exT 0 (WW σ t) ∨
    ∃ D k, k ≤ 10 ∧ exC X 85 [.ref 0, .int (nI i), .int (nI c), .int (nI u)] (WW σ t) = ans (nI k) (WW (sA σ 12 D) t) ∧ (∀ q, D q = σ 12 q ∨ D q = σ 12 q + nI u) ∧ INV (sA σ 12 D) N r (n + 1) := by
  have hA := h.1.1.1
  have hN := hA.1
  have hB := h.1.1.2.1
  have hw : okD (nI u) := ⟨u, hu1, hu2, rfl⟩
  have hg := legF_le (σ 36) i
  have hO := hB.1 (legF (σ 36) i) (by omega)
  have hle := okM_le hO.1
  rcases plcF_or (fun k => σ 38 (10 * legF (σ 36) i + k)) (nI c) (cnt (σ 39 (legF (σ 36) i))) with e | ⟨p, hp, e⟩
  · exact Or.inl (p_delay3 hA hB hc hi hk hw e)
  · have hp0 := p_delay0 (X := X) (t := t) hA hB hc hi hk hw hp e
    have hat : ∀ q, _ := fun q => dl_at (sp := σ 11) (f := σ 12) (b := nI u) (i := i) (a := p) (q := q) (hB.2.2.2 (legF (σ 36) i) (by omega)) (cnt (σ 39 (legF (σ 36) i)) - p) (by omega)
    have hdn : ∀ k, dnF (σ 11) (σ 38) i (legF (σ 36) i) p k ≤ k := by
      intro k
      induction k with
      | zero => exact Nat.le_refl _
      | succ k ih =>
        unfold dnF
        split <;> omega
    have hdk := hdn (cnt (σ 39 (legF (σ 36) i)) - p)
    generalize hD : dlF (σ 11) (σ 38) (σ 12) (nI u) i (legF (σ 36) i) p (cnt (σ 39 (legF (σ 36) i)) - p) = D at hat hp0
    refine Or.inr ⟨D, _, by omega, hp0, fun q => (hat q).imp id fun z => z.2, ?_⟩
    refine ⟨⟨GO1_congr h.1.1 rfl rfl rfl rfl rfl rfl rfl rfl rfl rfl, h.1.2.1, fun j hj => ?_, fun q hq => ?_, h.1.2.2.2.2.1, h.1.2.2.2.2.2⟩, GL_congr h.2.1 rfl, GY_congr h.2.2.1 rfl rfl, RES_congr h.2.2.2.1 rfl rfl rfl, GW_mono (GW_congr h.2.2.2.2.1 rfl rfl) (Nat.le_succ n), GK_congr h.2.2.2.2.2 rfl⟩
    · show ∃ d, d ≤ 60 * (n + 1) ∧ D j = nI d
      obtain ⟨d, d1, d2⟩ := h.1.2.2.1 j hj
      rcases hat j with z | ⟨-, z⟩
      · exact ⟨d, by omega, by rw [z, d2]⟩
      · exact ⟨d + u, by omega, by rw [z, d2, nI_add]⟩
    · show σ 13 q = pfF (σ 36) (σ 37) (σ 38) (σ 39) (σ 11) D q N
      rw [h.1.2.2.2.1 q hq]
      refine (pf_congr N fun j hj => ⟨rfl, fun z => due_dl ?_⟩).symm
      rcases hat (10 * j + q) with w | ⟨w, -⟩
      · exact w
      · exact absurd w z
/-! stages -/
theorem c_time (h : INV σ N r n) {c i : Nat} (hc : c < 10) (hi : i < N) (hk : σ 36 i = nI 2) : exC X 89 [.ref 0, .int (nI c), .int (nI i)] (WW σ t) = ans (tmC σ i c) (WW σ t) := by
  have p0 := p_time0 (X := X) (t := t) h.1.1.1 hc hi hk
  rw [((CH_of h i hi).1 hk).2.1 c hc] at p0
  exact p0
theorem c_finish (h : INV σ N r n) {c i x : Nat} {z : Int32} (hz : z = nI 0 ∨ z = nI 1) (hc : c < 10) (hi : i < N) (hk : σ 36 i = nI 2) (hx : x ≤ 2000000) :
    exC X 86 [.ref 0, .int (nI c), .int (nI i), .int z, .int (nI x)] (WW σ t) = exT 0 (WW σ t) ∨
    ∃ σ', exC X 86 [.ref 0, .int (nI c), .int (nI i), .int z, .int (nI x)] (WW σ t) = ansV (WW σ' t) ∧ INV σ' N r n ∧ σ' 36 = σ 36 ∧ σ' 39 = σ 39 ∧ σ' 28 = σ 28 := by
  have hA := h.1.1.1
  have hB := h.1.1.2.1
  have hN := hA.1
  obtain ⟨hp, hk1⟩ := st_ahead h hi hk
  have hw : inR (nI x) 2000001 := ⟨x, by omega, rfl⟩
  by_cases hs : σ 11 (10 * (i - 1) + c) = -1 ∨ nI x < startF (σ 11) c i
  · exact Or.inl (p_finish3 hA hc hi hk hk1 hw hs)
  · have s1 : ¬ σ 11 (10 * (i - 1) + c) = -1 := fun q => hs (Or.inl q)
    have s2 : ¬ nI x < startF (σ 11) c i := fun q => hs (Or.inr q)
    have fw : finM (nI x) := Or.inr ⟨x, by omega, rfl⟩
    have f0 := h.1.2.2.2.2.1.1 (10 * i + c) (by omega)
    have wn : ¬ nI x = -1 := by
      rw [eq_m1 (by omega)]
      exact id
    rcases hz with rfl | rfl
    · have g := tell_SG (σ' := u2 σ 19 (10 * i + c) (nI x)) h hi hk hc s1 rfl rfl rfl (fun j hj => ⟨rfl, upd_ne hj⟩) ⟨f0.1, by show finM (upd (σ 19) (10 * i + c) (nI x) (10 * i + c)); rw [upd_eq]; exact fw⟩ (fun _ q => by
        have q : upd (σ 19) (10 * i + c) (nI x) (10 * i + c) = -1 := q
        rw [upd_eq] at q
        exact absurd q wn)
      have p0 := p_finish0 (X := X) (t := t) (z := nI 0) hA hB hc hi hk hk1 hw s1 s2 g
      have gA := GA_tell (σ' := u2 σ 19 (10 * i + c) (nI x)) h hi hk hc s1 rfl ⟨⟨rfl, rfl, rfl, rfl, rfl⟩, ⟨rfl, rfl, rfl⟩, ⟨rfl, rfl, rfl⟩, rfl, rfl, rfl, rfl⟩ (fun j hj => ⟨rfl, upd_ne hj, rfl, rfl⟩) ⟨f0.1, by show finM (upd (σ 19) (10 * i + c) (nI x) (10 * i + c)); rw [upd_eq]; exact fw, f0.2.2⟩
      exact Or.inr ⟨_, p0, ⟨gA, GL_congr h.2.1 rfl, GY_congr h.2.2.1 rfl rfl, RES_congr h.2.2.2.1 rfl rfl rfl, GW_congr h.2.2.2.2.1 rfl rfl, GK_congr h.2.2.2.2.2 rfl⟩, rfl, rfl, rfl⟩
    · have g := tell_SG (σ' := u2 σ 18 (10 * i + c) (nI x)) h hi hk hc s1 rfl rfl rfl (fun j hj => ⟨upd_ne hj, rfl⟩) ⟨by show finM (upd (σ 18) (10 * i + c) (nI x) (10 * i + c)); rw [upd_eq]; exact fw, f0.2.1⟩ (fun q _ => by
        have q : upd (σ 18) (10 * i + c) (nI x) (10 * i + c) = -1 := q
        rw [upd_eq] at q
        exact absurd q wn)
      have p0 := p_finish0 (X := X) (t := t) (z := nI 1) hA hB hc hi hk hk1 hw s1 s2 g
      have gA := GA_tell (σ' := u2 σ 18 (10 * i + c) (nI x)) h hi hk hc s1 rfl ⟨⟨rfl, rfl, rfl, rfl, rfl⟩, ⟨rfl, rfl, rfl⟩, ⟨rfl, rfl, rfl⟩, rfl, rfl, rfl, rfl⟩ (fun j hj => ⟨upd_ne hj, rfl, rfl, rfl⟩) ⟨by show finM (upd (σ 18) (10 * i + c) (nI x) (10 * i + c)); rw [upd_eq]; exact fw, f0.2.1, f0.2.2⟩
      exact Or.inr ⟨_, p0, ⟨gA, GL_congr h.2.1 rfl, GY_congr h.2.2.1 rfl rfl, RES_congr h.2.2.2.1 rfl rfl rfl, GW_congr h.2.2.2.2.1 rfl rfl, GK_congr h.2.2.2.2.2 rfl⟩, rfl, rfl, rfl⟩
theorem c_held (h : INV σ N r n) {c i : Nat} {z : Int32} (hz : z = nI 0 ∨ z = nI 1) (hc : c < 10) (hi : i < N) (hk : σ 36 i = nI 2) :
    exC X 87 [.ref 0, .int (nI c), .int (nI i), .int z] (WW σ t) = exT 0 (WW σ t) ∨
    ∃ σ', exC X 87 [.ref 0, .int (nI c), .int (nI i), .int z] (WW σ t) = ans (tmC σ' i c) (WW σ' t) ∧ INV σ' N r n ∧ σ' 36 = σ 36 ∧ σ' 39 = σ 39 ∧ σ' 28 = σ 28 := by
  have hA := h.1.1.1
  have hB := h.1.1.2.1
  have hN := hA.1
  obtain ⟨hp, hk1⟩ := st_ahead h hi hk
  by_cases s1 : σ 11 (10 * (i - 1) + c) = -1
  · exact Or.inl (p_held3 hA hc hi hk hk1 s1)
  · have f0 := h.1.2.2.2.2.1.1 (10 * i + c) (by omega)
    have g := tell_SG (σ' := u2 σ 21 (10 * i + c) z) h hi hk hc s1 rfl rfl rfl (fun j hj => ⟨rfl, rfl⟩) ⟨f0.1, f0.2.1⟩ (fun x y => ⟨x, y⟩)
    have p0 := p_held0 (X := X) (t := t) hA hB hc hi hk hk1 s1 hz g
    have gA := GA_tell (σ' := u2 σ 21 (10 * i + c) z) h hi hk hc s1 rfl ⟨⟨rfl, rfl, rfl, rfl, rfl⟩, ⟨rfl, rfl, rfl⟩, ⟨rfl, rfl, rfl⟩, rfl, rfl, rfl, rfl⟩ (fun j hj => ⟨rfl, rfl, rfl, upd_ne hj⟩) f0
    exact Or.inr ⟨rcW (u2 σ 21 (10 * i + c) z) i, p0, ⟨gA, GL_congr h.2.1 rfl, GY_congr h.2.2.1 rfl rfl, RES_congr h.2.2.2.1 rfl rfl rfl, GW_congr h.2.2.2.2.1 rfl rfl, GK_congr h.2.2.2.2.2 rfl⟩, rfl, rfl, rfl⟩
theorem c_award (h : INV σ N r n) {c i : Nat} {x : Int32} (hx : okW x) (hc : c < 10) (hi : i < N) (hk : σ 36 i = nI 2) :
    exC X 88 [.ref 0, .int (nI c), .int (nI i), .int x] (WW σ t) = exT 0 (WW σ t) ∨
    ∃ σ', exC X 88 [.ref 0, .int (nI c), .int (nI i), .int x] (WW σ t) = ans (tmC σ' i c) (WW σ' t) ∧ INV σ' N r n ∧ σ' 36 = σ 36 ∧ σ' 39 = σ 39 ∧ σ' 28 = σ 28 ∧ (¬ x = -1 → tmC σ' i c = x) := by
  have hA := h.1.1.1
  have hB := h.1.1.2.1
  have hN := hA.1
  obtain ⟨hp, hk1⟩ := st_ahead h hi hk
  by_cases s1 : σ 11 (10 * (i - 1) + c) = -1
  · exact Or.inl (p_award3 hA hc hi hk hk1 hx s1)
  · have f0 := h.1.2.2.2.2.1.1 (10 * i + c) (by omega)
    have g := tell_SG (σ' := u2 σ 20 (10 * i + c) x) h hi hk hc s1 rfl rfl rfl (fun j hj => ⟨rfl, rfl⟩) ⟨f0.1, f0.2.1⟩ (fun x y => ⟨x, y⟩)
    have p0 := p_award0 (X := X) (t := t) hA hB hc hi hk hk1 hx s1 g
    have gA := GA_tell (σ' := u2 σ 20 (10 * i + c) x) h hi hk hc s1 rfl ⟨⟨rfl, rfl, rfl, rfl, rfl⟩, ⟨rfl, rfl, rfl⟩, ⟨rfl, rfl, rfl⟩, rfl, rfl, rfl, rfl⟩ (fun j hj => ⟨rfl, rfl, upd_ne hj, rfl⟩) ⟨f0.1, f0.2.1, by show okW (upd (σ 20) (10 * i + c) x (10 * i + c)); rw [upd_eq]; exact hx⟩
    refine Or.inr ⟨rcW (u2 σ 20 (10 * i + c) x) i, p0, ⟨gA, GL_congr h.2.1 rfl, GY_congr h.2.2.1 rfl rfl, RES_congr h.2.2.2.1 rfl rfl rfl, GW_congr h.2.2.2.2.1 rfl rfl, GK_congr h.2.2.2.2.2 rfl⟩, rfl, rfl, rfl, fun hn => ?_⟩
    show timeF (σ 11) (σ 18) (σ 19) (σ 21) (upd (σ 20) (10 * i + c) x) (σ 38) (σ 39) (legF (σ 36) i) c i = x
    unfold timeF
    rw [upd_eq, if_neg hn]
/-! tyres -/
def alG (σ : Nat → Nat → Int32) (c k : Nat) : Nat → Nat → Int32 := u2 (u2 σ 26 (100 * c + k) (nI 1)) 28 c (σ 28 c + nI 1)
theorem INV_alloc (h : INV σ N r n) {c k m : Nat} (hc : c < 10) (hk : k < 100) (hm : m < 6) (em : σ 28 c = nI m) : INV (alG σ c k) N r n := by
  refine ⟨GA_congr h.1 rfl ⟨⟨rfl, rfl, rfl, rfl, rfl⟩, ⟨rfl, rfl, rfl⟩, ⟨rfl, rfl, rfl, rfl, rfl, rfl, rfl⟩, rfl, rfl, rfl, rfl⟩, GL_congr h.2.1 rfl, GY_congr h.2.2.1 rfl rfl, RES_congr h.2.2.2.1 rfl rfl rfl, GW_congr h.2.2.2.2.1 rfl rfl, fun q hq => ?_⟩
  show ∃ m, m ≤ 6 ∧ upd (σ 28) c (σ 28 c + nI 1) q = nI m
  by_cases w : q = c
  · subst w
    rw [upd_eq, em, nI_add]
    exact ⟨m + 1, by omega, rfl⟩
  · rw [upd_ne w]
    exact h.2.2.2.2.2 q hq
def snG (σ : Nat → Nat → Int32) (c k : Nat) : Nat → Nat → Int32 := u2 (u2 σ 27 (100 * c + k) (nI 1)) 29 c (σ 29 c + nI 600)
theorem INV_seen (h : INV σ N r n) {c k : Nat} (hc : c < 10) (hk : k < 100) (hn : σ 27 (100 * c + k) = nI 0) : INV (snG σ c k) N r n := by
  refine ⟨GA_congr h.1 rfl ⟨⟨rfl, rfl, rfl, rfl, rfl⟩, ⟨rfl, rfl, rfl⟩, ⟨rfl, rfl, rfl, rfl, rfl, rfl, rfl⟩, rfl, rfl, rfl, rfl⟩, GL_congr h.2.1 rfl, ⟨fun q hq => ?_, fun j hj => ?_⟩, RES_congr h.2.2.2.1 rfl rfl rfl, GW_congr h.2.2.2.2.1 rfl rfl, GK_congr h.2.2.2.2.2 rfl⟩
  · have y2 := h.2.2.1.1 q hq
    show upd (σ 29) c (σ 29 c + nI 600) q = tyF (upd (σ 27) (100 * c + k) (nI 1)) q 100
    by_cases w : q = c
    · subst w
      rw [upd_eq, ty_upd hn, if_pos hk, ← y2]
    · rw [upd_ne w, ty_congr (fn := σ 27) 100 fun j hj => upd_ne (by omega)]
      exact y2
  · show upd (σ 27) (100 * c + k) (nI 1) j = nI 0 ∨ upd (σ 27) (100 * c + k) (nI 1) j = nI 1
    by_cases w : j = 100 * c + k
    · subst w
      rw [upd_eq]
      exact Or.inr rfl
    · rw [upd_ne w]
      exact h.2.2.1.2 j hj
/-- a tyre seen: the second time nothing -/
theorem c_seen (h : INV σ N r n) {c k : Nat} (hc : c < 10) (hk : k < 100) :
    ∃ σ' v, (v = 0 ∨ v = 600) ∧ exC X 91 [.ref 0, .int (nI c), .int (nI k)] (WW σ t) = ans (nI v) (WW σ' t) ∧ exC X 91 [.ref 0, .int (nI c), .int (nI k)] (WW σ' t) = ans (nI 0) (WW σ' t) ∧ INV σ' N r n ∧ σ' 36 = σ 36 ∧ σ' 39 = σ 39 ∧ σ' 28 = σ 28 ∧ σ' 13 = σ 13 ∧ σ' 29 c = σ 29 c + nI v := by
  by_cases hn : σ 26 (100 * c + k) = nI 0 ∧ σ 27 (100 * c + k) = nI 0
  · refine ⟨snG σ c k, 600, Or.inr rfl, p_seen0 hc hk hn, p_seen0n hc hk fun z => ?_, INV_seen h hc hk hn.2, rfl, rfl, rfl, rfl, ?_⟩
    · have z2 : upd (σ 27) (100 * c + k) (nI 1) (100 * c + k) = nI 0 := z.2
      rw [upd_eq] at z2
      exact n1_0 z2
    · show upd (σ 29) c (σ 29 c + nI 600) c = _
      rw [upd_eq]
  · exact ⟨σ, 0, Or.inl rfl, p_seen0n hc hk hn, p_seen0n hc hk hn, h, rfl, rfl, rfl, rfl, by rw [add0]⟩
/-! retirements -/
def rtG (σ : Nat → Nat → Int32) (c : Nat) (z : Int32) : Nat → Nat → Int32 := u2 (u2 σ 15 c (nI 1)) 16 c z
theorem INV_retire (h : INV σ N r n) {c : Nat} {z : Int32} (hc : c < 10) : INV (rtG σ c z) N r n := by
  refine ⟨GA_congr h.1 rfl ⟨⟨rfl, rfl, rfl, rfl, rfl⟩, ⟨rfl, rfl, rfl⟩, ⟨rfl, rfl, rfl, rfl, rfl, rfl, rfl⟩, rfl, rfl, rfl, rfl⟩, fun q hq => ?_, GY_congr h.2.2.1 rfl rfl, RES_congr h.2.2.2.1 rfl rfl rfl, GW_congr h.2.2.2.2.1 rfl rfl, GK_congr h.2.2.2.2.2 rfl⟩
  show upd (σ 15) c (nI 1) q = nI 0 ∨ upd (σ 15) c (nI 1) q = nI 1
  by_cases w : q = c
  · subst w
    rw [upd_eq]
    exact Or.inr rfl
  · rw [upd_ne w]
    exact h.2.1 q hq
/-! ranks: a second reckoning changes nothing -/
theorem rkC_idem {z : Int32} : rkC z (rkC z σ N) N = rkC z σ N := by
  have e1 : rk1 z (rkC z σ N) N 10 32 = rk1 z σ N 10 32 := by
    funext j
    show ltF 10 (ttC (rkC z σ N) N) (ltF 10 (ttC σ N) (σ 32)) j = ltF 10 (ttC σ N) (σ 32) j
    unfold ltF
    split
    · rfl
    · rfl
  have e2 : rk1 z (rkC z σ N) N 10 33 = rk1 z σ N 10 33 := by
    funext j
    show ltF 10 (fun c => nI (b01 (inC z (rkC z σ N) c))) (ltF 10 (fun c => nI (b01 (inC z σ c))) (σ 33)) j = ltF 10 (fun c => nI (b01 (inC z σ c))) (σ 33) j
    unfold ltF
    split
    · rfl
    · rfl
  funext p
  by_cases h4 : p = 34
  · subst h4
    funext c
    show plO (inC z (rkC z σ N)) (ahdC (rk1 z (rkC z σ N) N 10 32) (σ 23) N) (plO (inC z σ) (ahdC (rk1 z σ N 10 32) (σ 23) N) (σ 34) 10) 10 c = plO (inC z σ) (ahdC (rk1 z σ N 10 32) (σ 23) N) (σ 34) 10 c
    rw [e1]
    unfold plO
    by_cases q : c < 10
    · rw [if_pos q, if_pos q]
      rfl
    · rw [if_neg q, if_neg q]
  · by_cases h3 : p = 33
    · subst h3
      exact e2
    · by_cases h2 : p = 32
      · subst h2
        exact e1
      · exact SAM_rkC p h2 h3 h4
theorem c_anew (h : INV σ N r n) {c : Nat} (hc : c < 10) : exC X 94 [.ref 0, .int (nI c)] (WW σ t) = ans (ttC σ N c) (WW σ t) := by
  have p0 := p_anew0 (X := X) (t := t) h.1.1.1 h.1.1.2.1 (fun j hj hk => SG_of h hj hk) (CH_of h) hc
  have e : ttC σ N c = smF (σ 23) (σ 24) c N + pfF (σ 36) (σ 37) (σ 38) (σ 39) (σ 11) (σ 12) c N + tyF (σ 27) c 100 := by
    show smF (σ 23) (σ 24) c N + (σ 13 c + σ 29 c) = _
    rw [h.1.2.2.2.1 c hc, h.2.2.1.1 c hc, Int32.add_assoc]
  rw [e]
  exact p0
end CAL
