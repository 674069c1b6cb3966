/-! THE CLASS AND THE REFERENCE: what holds between them at every call -/
section INV1
variable {σ σ' : Nat → Nat → Int32} {N r n : Nat}
/-- items and orders -/
def GO1 (σ : Nat → Nat → Int32) (N : Nat) : Prop := IA σ N ∧ IB σ ∧ (∀ i, i < N → (1 ≤ i → σ 36 i = nI 2 → ¬ σ 36 (i - 1) = nI 2) ∧ ∃ m, m ≤ 2000 ∧ σ 37 i = nI m) ∧ (N = 0 → σ 39 0 = -1)
/-- stamps -/
def GS (σ : Nat → Nat → Int32) (N : Nat) : Prop := (∀ j, j < 200 → stM (σ 11 j)) ∧ ∀ i, i < N → ∀ c, c < 10 → ¬ σ 11 (10 * i + c) = -1 → ¬ σ 39 (legF (σ 36) i) = -1 ∧ (¬ σ 36 i = nI 0 → ¬ σ 11 (10 * ahdF (σ 36) i + c) = -1)
/-- delays, n calls done -/
def GD (σ : Nat → Nat → Int32) (n : Nat) : Prop := ∀ j, j < 200 → ∃ d, d ≤ 60 * n ∧ σ 12 j = nI d
/-- penalties by the card -/
def GP (σ : Nat → Nat → Int32) (N : Nat) : Prop := ∀ c, c < 10 → σ 13 c = pfF (σ 36) (σ 37) (σ 38) (σ 39) (σ 11) (σ 12) c N
/-- something was told of a car in a stage -/
def TLD (σ : Nat → Nat → Int32) (j : Nat) : Prop := ¬ σ 18 j = -1 ∨ ¬ σ 19 j = -1 ∨ ¬ σ 20 j = -1 ∨ ¬ σ 21 j = nI 0
/-- what is kept of a stage's times -/
def CHj (σ : Nat → Nat → Int32) (j : Nat) : Prop := (σ 36 j = nI 2 → OW σ j ∧ (∀ c, c < 10 → σ 23 (10 * j + c) = tmC σ j c) ∧ σ 24 j = bstF (tmC σ j) 10) ∧ (¬ σ 36 j = nI 2 → (∀ c, c < 10 → σ 23 (10 * j + c) = -1) ∧ σ 24 j = -1)
def GT (σ : Nat → Nat → Int32) (N : Nat) : Prop := (∀ j, j < 200 → finM (σ 18 j) ∧ finM (σ 19 j) ∧ okW (σ 20 j)) ∧ (∀ i, i < N → σ 36 i = nI 2 → ∀ c, c < 10 → TLD σ (10 * i + c) → ¬ σ 11 (10 * (i - 1) + c) = -1) ∧ ∀ j, j < N → CHj σ j
/-- ahead of the first opening -/
def GF (σ : Nat → Nat → Int32) : Prop := σ 39 0 = -1 → (∀ j, j < 200 → σ 11 j = -1 ∧ σ 18 j = -1 ∧ σ 19 j = -1 ∧ σ 20 j = -1 ∧ σ 21 j = nI 0 ∧ σ 22 j = -1 ∧ σ 23 j = -1) ∧ ∀ g, g < 20 → σ 24 g = -1 ∧ σ 39 g = -1
def GA (σ : Nat → Nat → Int32) (N n : Nat) : Prop := GO1 σ N ∧ GS σ N ∧ GD σ n ∧ GP σ N ∧ GT σ N ∧ GF σ
/-- retired or not -/
def GL (σ : Nat → Nat → Int32) : Prop := ∀ c, c < 10 → σ 15 c = nI 0 ∨ σ 15 c = nI 1
/-- tyres, penalties -/
def GY (σ : Nat → Nat → Int32) : Prop := (∀ c, c < 10 → σ 29 c = tyF (σ 27) c 100) ∧ ∀ j, j < 1000 → σ 27 j = nI 0 ∨ σ 27 j = nI 1
/-- late, and what it costs -/
def GW (σ : Nat → Nat → Int32) (n : Nat) : Prop := ∀ c, c < 10 → ∃ a b, a ≤ 2000 * n ∧ b ≤ 20900000 * n ∧ σ 14 c = nI a ∧ σ 13 c = nI (100 * a + b)
/-- how many tyres -/
def GK (σ : Nat → Nat → Int32) : Prop := ∀ c, c < 10 → ∃ m, m ≤ 6 ∧ σ 28 c = nI m
def INV (σ : Nat → Nat → Int32) (N r n : Nat) : Prop := GA σ N n ∧ GL σ ∧ GY σ ∧ RES σ r ∧ GW σ n ∧ GK σ
theorem GA_congr (h : GA σ N n) (e3 : σ' 3 3 = σ 3 3) (e : (σ' 4 = σ 4 ∧ σ' 5 = σ 5 ∧ σ' 6 = σ 6 ∧ σ' 8 = σ 8 ∧ σ' 9 = σ 9) ∧ (σ' 11 = σ 11 ∧ σ' 12 = σ 12 ∧ σ' 13 = σ 13) ∧ (σ' 18 = σ 18 ∧ σ' 19 = σ 19 ∧ σ' 20 = σ 20 ∧ σ' 21 = σ 21 ∧ σ' 22 = σ 22 ∧ σ' 23 = σ 23 ∧ σ' 24 = σ 24) ∧ σ' 36 = σ 36 ∧ σ' 37 = σ 37 ∧ σ' 38 = σ 38 ∧ σ' 39 = σ 39) : GA σ' N n := by
  obtain ⟨⟨e4, e5, e6, e8, e9⟩, ⟨e11, e12, e13⟩, ⟨e18, e19, e20, e21, e22, e23, e24⟩, e36, e37, e38, e39⟩ := e
  have et : tmC σ' = tmC σ := by
    funext j c
    show timeF (σ' 11) (σ' 18) (σ' 19) (σ' 21) (σ' 20) (σ' 38) (σ' 39) (legF (σ' 36) j) c j = timeF (σ 11) (σ 18) (σ 19) (σ 21) (σ 20) (σ 38) (σ 39) (legF (σ 36) j) c j
    rw [e11, e18, e19, e21, e20, e38, e39, e36]
  unfold GA GO1 GS GD GP GT GF TLD CHj OW IA IB at h ⊢
  rw [et]
  simp only [ownC] at h ⊢
  rw [e3, e4, e5, e6, e8, e9, e11, e12, e13, e18, e19, e20, e21, e22, e23, e24, e36, e37, e38, e39]
  exact h
theorem GL_congr (h : GL σ) (e15 : σ' 15 = σ 15) : GL σ' := by
  unfold GL at h ⊢
  rw [e15]
  exact h
theorem GY_congr (h : GY σ) (e27 : σ' 27 = σ 27) (e29 : σ' 29 = σ 29) : GY σ' := by
  unfold GY at h ⊢
  rw [e27, e29]
  exact h
theorem GW_congr (h : GW σ n) (e13 : σ' 13 = σ 13) (e14 : σ' 14 = σ 14) : GW σ' n := by
  unfold GW at h ⊢
  rw [e13, e14]
  exact h
theorem GK_congr (h : GK σ) (e28 : σ' 28 = σ 28) : GK σ' := by
  unfold GK at h ⊢
  rw [e28]
  exact h
theorem GW_mono {m : Nat} (h : GW σ n) (hm : n ≤ m) : GW σ m := fun c hc => by
  obtain ⟨a, b, h1, h2, h3, h4⟩ := h c hc
  exact ⟨a, b, by omega, by omega, h3, h4⟩
theorem RES_congr (h : RES σ r) (e1 : σ' 1 1 = σ 1 1) (e2 : σ' 2 = σ 2) (e54 : σ' 54 = σ 54) : RES σ' r := by
  unfold RES fC at h ⊢
  rw [e1, e2, e54]
  exact h
/-- a state that differs in the ranks' rows alone -/
def SAM (σ σ' : Nat → Nat → Int32) : Prop := ∀ p, p ≠ 32 → p ≠ 33 → p ≠ 34 → σ' p = σ p
theorem GD_mono {m : Nat} (h : GD σ n) (hm : n ≤ m) : GD σ m := fun j hj => by
  obtain ⟨d, h1, h2⟩ := h j hj
  exact ⟨d, by omega, h2⟩
theorem INV_mono {m : Nat} (h : INV σ N r n) (hm : n ≤ m) : INV σ N r m := ⟨⟨h.1.1, h.1.2.1, GD_mono h.1.2.2.1 hm, h.1.2.2.2⟩, h.2.1, h.2.2.1, h.2.2.2.1, GW_mono h.2.2.2.2.1 hm, h.2.2.2.2.2⟩
theorem INV_sam (h : INV σ N r n) (s : SAM σ σ') : INV σ' N r n := by
  obtain ⟨hA, hL, hY, hR, hW, hK⟩ := h
  have T : ∀ p, (decide (p ≠ 32) && decide (p ≠ 33) && decide (p ≠ 34)) = true → σ' p = σ p := fun p hp => by
    simp only [Bool.and_eq_true, decide_eq_true_eq] at hp
    exact s p hp.1.1 hp.1.2 hp.2
  exact ⟨GA_congr hA (by rw [T 3 rfl]) ⟨⟨T 4 rfl, T 5 rfl, T 6 rfl, T 8 rfl, T 9 rfl⟩, ⟨T 11 rfl, T 12 rfl, T 13 rfl⟩, ⟨T 18 rfl, T 19 rfl, T 20 rfl, T 21 rfl, T 22 rfl, T 23 rfl, T 24 rfl⟩, T 36 rfl, T 37 rfl, T 38 rfl, T 39 rfl⟩,
    GL_congr hL (T 15 rfl), GY_congr hY (T 27 rfl) (T 29 rfl), RES_congr hR (by rw [T 1 rfl]) (T 2 rfl) (T 54 rfl), GW_congr hW (T 13 rfl) (T 14 rfl), GK_congr hK (T 28 rfl)⟩
theorem SAM_rkC {z : Int32} : SAM σ (rkC z σ N) := fun p a b c => by
  unfold rkC rk1
  rw [sA_ne c, if_neg b, if_neg a]
theorem INV_rkC (h : INV σ N r n) {z : Int32} : INV (rkC z σ N) N r n := INV_sam h SAM_rkC
theorem hz_of (h : INV σ N r n) : N = 0 → ∀ c, c < 10 → σ 11 c = -1 := fun e c hc => ((h.1.2.2.2.2.2 (h.1.1.2.2.2 e)).1 c (by omega)).1
theorem st_ahead (h : INV σ N r n) {i : Nat} (hi : i < N) (hk : σ 36 i = nI 2) : 1 ≤ i ∧ ¬ σ 36 (i - 1) = nI 2 := by
  have h1 := stage_posA h.1.1.1 hi hk
  exact ⟨h1, (h.1.1.2.2.1 i hi).1 h1 hk⟩
theorem SG_of (h : INV σ N r n) {i : Nat} (hi : i < N) (hk : σ 36 i = nI 2) : SG σ N i := by
  obtain ⟨h1, h2⟩ := st_ahead h hi hk
  have hN := h.1.1.1.1
  obtain ⟨t1, t2, t3⟩ := h.1.2.2.2.2.1
  refine ⟨hi, h1, h2, fun j hj => ⟨(t1 (10 * i + j) (by omega)).1, (t1 (10 * i + j) (by omega)).2.1⟩, fun c hc hq => t2 i hi hk c hc ?_, fun c hc e1 e2 => ?_⟩
  · rcases hq with q | q
    · exact Or.inl q
    · exact Or.inr (Or.inl q)
  · rw [((t3 i hi).1 hk).1 c hc]
    show ownF (σ 11) (σ 18) (σ 19) c i = -1
    unfold ownF
    rw [if_pos e1, if_pos e2]
theorem CH_of (h : INV σ N r n) : CH σ N := h.1.2.2.2.2.1.2.2
end INV1
/-! TIMES: what they rest on -/
section TIM
variable {sp sp' bm bm' hd hd' hl hl' aw aw' od od' mn mn' : Nat → Int32} {g c i : Nat}
theorem mean_congr (h : ∀ j, j < 10 → bm' (10 * i + j) = bm (10 * i + j) ∧ hd' (10 * i + j) = hd (10 * i + j)) : meanF bm' hd' i = meanF bm hd i := by
  have h1 : ∀ j, j ≤ 10 → dsF bm' hd' (10 * i) j = dsF bm hd (10 * i) j ∧ dcF bm' hd' (10 * i) j = dcF bm hd (10 * i) j := by
    intro j
    induction j with
    | zero => intro _; exact ⟨rfl, rfl⟩
    | succ j ih =>
      intro hj
      obtain ⟨a, b⟩ := ih (by omega)
      obtain ⟨c, d⟩ := h j (by omega)
      unfold dsF dcF
      rw [a, b, c, d]
      exact ⟨rfl, rfl⟩
  unfold meanF
  rw [(h1 10 (by omega)).1, (h1 10 (by omega)).2]
theorem own_congr (h : ∀ j, j < 10 → bm' (10 * i + j) = bm (10 * i + j) ∧ hd' (10 * i + j) = hd (10 * i + j)) (hs : ¬ bm (10 * i + c) = -1 ∨ ¬ hd (10 * i + c) = -1 → sp' (10 * (i - 1) + c) = sp (10 * (i - 1) + c)) (hc : c < 10) : ownF sp' bm' hd' c i = ownF sp bm hd c i := by
  unfold ownF startF
  rw [mean_congr h, (h c hc).1, (h c hc).2]
  by_cases h1 : bm (10 * i + c) = -1
  · by_cases h2 : hd (10 * i + c) = -1
    · rw [if_pos h1, if_pos h2, if_pos h1, if_pos h2]
    · rw [hs (Or.inr h2)]
  · rw [hs (Or.inl h1)]
theorem nxd_congr {fr fr' : Nat → Int32} : ∀ k, (∀ p, p < k → fr' p = fr p) → nxdF fr' k = nxdF fr k
  | 0, _ => rfl
  | k + 1, h => by
    unfold nxdF
    rw [h k (by omega), nxd_congr k fun p hp => h p (by omega)]
theorem nxu_congr {fr fr' : Nat → Int32} : ∀ j k, (∀ p, k ≤ p → p < k + j → fr' p = fr p) → nxuF fr' k j = nxuF fr k j
  | 0, _, _ => rfl
  | j + 1, k, h => by
    unfold nxuF
    rw [h k (by omega) (by omega), nxu_congr j (k + 1) fun p h1 h2 => h p (by omega) (by omega)]
def mixF (u v : Int32) : Int32 := if u = -1 then v else if v = -1 then u else (u + v) / nI 2
def behF (fr : Nat → Int32) (p : Int32) (m : Nat) : Int32 := if p = -1 then nxuF fr 0 m else nxuF fr (cnt p + 1) (m - (cnt p + 1))
theorem notF_def : notF sp bm hd hl od mn g c i = mixF (nxdF (freF sp bm hd hl od i g) (cnt (plcF (fun k => od (10 * g + k)) (nI c) (cnt (mn g))))) (behF (freF sp bm hd hl od i g) (plcF (fun k => od (10 * g + k)) (nI c) (cnt (mn g))) (cnt (mn g))) := rfl
theorem plc_le {o : Nat → Int32} {x : Int32} {m : Nat} (hm : m ≤ 10) : (plcF o x m = -1 ∧ cnt (plcF o x m) = 0) ∨ (¬ plcF o x m = -1 ∧ cnt (plcF o x m) + 1 ≤ m) := by
  rcases plcF_or o x m with e | ⟨a, ha, e⟩
  · rw [e]
    exact Or.inl ⟨rfl, cnt_m1⟩
  · rw [e, cnt_nI (by omega)]
    exact Or.inr ⟨by rw [eq_m1 (by omega)]; exact id, by omega⟩
theorem beh_congr {fr fr' : Nat → Int32} {p : Int32} {m : Nat} (hp : p = -1 ∨ cnt p + 1 ≤ m) (h : ∀ k, k < m → fr' k = fr k) : behF fr' p m = behF fr p m := by
  unfold behF
  by_cases e : p = -1
  · rw [if_pos e, if_pos e, nxu_congr m 0 fun k _ hk => h k (by omega)]
  · have := hp.resolve_left e
    rw [if_neg e, if_neg e, nxu_congr (m - (cnt p + 1)) (cnt p + 1) fun k _ hk => h k (by omega)]
theorem time_congr (hO : okO od mn g) (ho : ∀ p, p < cnt (mn g) → od' (10 * g + p) = od (10 * g + p)) (hm : mn' g = mn g) (hw : ∀ c, c < 10 → ownF sp' bm' hd' c i = ownF sp bm hd c i) (hh : ∀ c, c < 10 → hl' (10 * i + c) = hl (10 * i + c)) (ha : aw' (10 * i + c) = aw (10 * i + c)) (hc : c < 10) : timeF sp' bm' hd' hl' aw' od' mn' g c i = timeF sp bm hd hl aw od mn g c i := by
  have hf : ∀ p, p < cnt (mn g) → freF sp' bm' hd' hl' od' i g p = freF sp bm hd hl od i g p := fun p hp => by
    have h1 := (hO.2 p hp).2
    have h2 : carF od' g p = carF od g p := by unfold carF; rw [ho p hp]
    unfold freF
    rw [h2, hh _ h1, hw _ h1]
  have hp : plcF (fun k => od' (10 * g + k)) (nI c) (cnt (mn g)) = plcF (fun k => od (10 * g + k)) (nI c) (cnt (mn g)) := plcF_eq _ fun k hk => ho k hk
  have hn : notF sp' bm' hd' hl' od' mn' g c i = notF sp bm hd hl od mn g c i := by
    rw [notF_def, notF_def, hm, hp]
    have hq := plc_le (o := fun k => od (10 * g + k)) (x := nI c) (okM_le hO.1)
    generalize plcF (fun k => od (10 * g + k)) (nI c) (cnt (mn g)) = q at hq ⊢
    rw [beh_congr (hq.imp (fun z => z.1) fun z => z.2) hf, nxd_congr (cnt q) fun p hp => hf p (by omega)]
  unfold timeF
  rw [ha, hh c hc, hw c hc, hn]
theorem own_blank (h1 : bm (10 * i + c) = -1) (h2 : hd (10 * i + c) = -1) : ownF sp bm hd c i = -1 := by
  unfold ownF
  rw [if_pos h1, if_pos h2]
theorem time_blank (h1 : bm (10 * i + c) = -1) (h2 : hd (10 * i + c) = -1) (h3 : aw (10 * i + c) = -1) (h4 : hl (10 * i + c) = nI 0) : timeF sp bm hd hl aw od mn g c i = -1 := by
  unfold timeF
  rw [if_pos h3, if_pos h4, own_blank h1 h2]
theorem bst_congr {tm tm' : Nat → Int32} : ∀ k, (∀ c, c < k → tm' c = tm c) → bstF tm' k = bstF tm k
  | 0, _ => rfl
  | k + 1, h => by
    unfold bstF
    rw [h k (by omega), bst_congr k fun c hc => h c (by omega)]
theorem bst_none {tm : Nat → Int32} : ∀ k, (∀ c, c < k → tm c = -1) → bstF tm k = -1
  | 0, _ => rfl
  | k + 1, h => by
    unfold bstF
    rw [if_pos (h k (by omega)), bst_none k fun c hc => h c (by omega)]
end TIM
section TIM2
variable {σ σ' : Nat → Nat → Int32} {N r n j : Nat}
theorem CHj_same (h : CHj σ j) (e36 : σ' 36 j = σ 36 j) (s : σ 36 j = nI 2 → ∀ c, c < 10 → ownC σ' j c = ownC σ j c ∧ tmC σ' j c = tmC σ j c ∧ σ' 22 (10 * j + c) = σ 22 (10 * j + c)) (s3 : ∀ c, c < 10 → σ' 23 (10 * j + c) = σ 23 (10 * j + c)) (e24 : σ' 24 j = σ 24 j) : CHj σ' j := by
  refine ⟨fun hk => ?_, fun hk => ?_⟩
  · rw [e36] at hk
    obtain ⟨a, b, d⟩ := h.1 hk
    have s := s hk
    refine ⟨fun c hc => ?_, fun c hc => ?_, ?_⟩
    · rw [(s c hc).2.2, a c hc, (s c hc).1]
    · rw [s3 c hc, b c hc, (s c hc).2.1]
    · rw [e24, d]
      exact (bst_congr 10 fun c hc => (s c hc).2.1).symm
  · rw [e36] at hk
    obtain ⟨a, b⟩ := h.2 hk
    exact ⟨fun c hc => by rw [s3 c hc, a c hc], by rw [e24, b]⟩
theorem CHj_blank (h : ∀ c, c < 10 → σ 18 (10 * j + c) = -1 ∧ σ 19 (10 * j + c) = -1 ∧ σ 20 (10 * j + c) = -1 ∧ σ 21 (10 * j + c) = nI 0 ∧ σ 22 (10 * j + c) = -1 ∧ σ 23 (10 * j + c) = -1) (h2 : σ 24 j = -1) : CHj σ j := by
  have ht : ∀ c, c < 10 → tmC σ j c = -1 := fun c hc => by
    obtain ⟨a, b, d, e, -⟩ := h c hc
    exact time_blank a b d e
  refine ⟨fun _ => ⟨fun c hc => ?_, fun c hc => ?_, ?_⟩, fun _ => ⟨fun c hc => (h c hc).2.2.2.2.2, h2⟩⟩
  · obtain ⟨a, b, d, e, f, g⟩ := h c hc
    rw [f]
    exact (own_blank a b).symm
  · rw [(h c hc).2.2.2.2.2, ht c hc]
  · rw [h2]
    exact (bst_none 10 ht).symm
/-! the range of times -/
def tmM (x : Int32) : Prop := x = -1 ∨ ∃ m, m ≤ 23000000 ∧ x = nI m
theorem nI_ofInt {x : Int32} {B : Nat} (hB : B < 2 ^ 31) (h1 : ¬ x < nI 0) (h2 : x.toInt ≤ (B : Int)) : ∃ m, m ≤ B ∧ x = nI m ∧ x.toInt = (m : Int) := by
  rw [Int32.lt_iff_toInt_lt, nI_toInt (by omega)] at h1
  refine ⟨x.toInt.toNat, by omega, ?_, by omega⟩
  apply Int32.toInt_inj.mp
  rw [nI_toInt (by omega)]
  omega
theorem mean_b {bm hd : Nat → Int32} {i : Nat} (hb : ∀ j, j < 10 → finM (bm (10 * i + j)) ∧ finM (hd (10 * i + j))) : -20000010 ≤ (meanF bm hd i).toInt ∧ (meanF bm hd i).toInt ≤ 20000010 := by
  have h1 := dsF_b hb 10 (by omega)
  unfold meanF
  have h2 := dcF_le bm hd (10 * i) 10
  generalize dcF bm hd (10 * i) 10 = m at h2 ⊢
  generalize dsF bm hd (10 * i) 10 = v at h1 ⊢
  by_cases h3 : m = 0
  · rw [if_pos h3, nI_toInt (by omega)]
    omega
  · rw [if_neg h3]
    unfold floorF
    by_cases h4 : v < nI 0
    · rw [if_pos h4]
      rw [Int32.lt_iff_toInt_lt, nI_toInt (by omega)] at h4
      have e1 : nI m - nI 1 - v = nI (m - 1 + (-v.toInt).toNat) := by
        apply Int32.toInt_inj.mp
        rw [Int32.toInt_sub, nI_subI (by omega), nI_toInt (by omega), nI_toInt (by omega), bm_ (z := ((m - 1 : Nat) : Int) - v.toInt) (by omega) (by omega)]
        omega
      rw [e1, nI_div (by omega) (by omega)]
      have hq := Nat.div_le_self (m - 1 + (-v.toInt).toNat) m
      generalize (m - 1 + (-v.toInt).toNat) / m = q at hq ⊢
      have e2 : (-(nI q)).toInt = -(q : Int) := by
        rw [Int32.toInt_neg, nI_toInt (by omega), bm_ (z := -(q : Int)) (by omega) (by omega)]
      rw [e2]
      omega
    · rw [if_neg h4]
      obtain ⟨a, ha, rfl, hv⟩ := nI_ofInt (B := 20000000) (by omega) h4 (by omega)
      rw [nI_div (by omega) (by omega)]
      have hq := Nat.div_le_self a m
      generalize a / m = q at hq ⊢
      rw [nI_toInt (by omega)]
      omega
theorem clip_M {x y s : Int32} (hx : ∃ m, m ≤ 2000000 ∧ x = nI m) (hy : -20000010 ≤ y.toInt ∧ y.toInt ≤ 20000010) (hs : ∃ m, m ≤ 2000000 ∧ s = nI m) : tmM (if x + y - s < nI 0 then nI 0 else x + y - s) := by
  obtain ⟨a, ha, rfl⟩ := hx
  obtain ⟨b, hb, rfl⟩ := hs
  have e : (nI a + y - nI b).toInt = (a : Int) + y.toInt - b := by
    rw [Int32.toInt_sub, Int32.toInt_add, nI_toInt (by omega), nI_toInt (by omega), bm_ (z := (a : Int) + y.toInt) (by omega) (by omega), bm_ (z := (a : Int) + y.toInt - b) (by omega) (by omega)]
  by_cases h : nI a + y - nI b < nI 0
  · rw [if_pos h]
    exact Or.inr ⟨0, by omega, rfl⟩
  · rw [if_neg h]
    obtain ⟨m, h1, h2, -⟩ := nI_ofInt (B := 23000000) (by omega) h (by omega)
    exact Or.inr ⟨m, h1, h2⟩
theorem sub0 (x : Int32) : x + nI 0 = x := add0 x
theorem own_M {sp bm hd : Nat → Int32} {c i : Nat} (hc : c < 10) (hb : ∀ j, j < 10 → finM (bm (10 * i + j)) ∧ finM (hd (10 * i + j))) (hs : ¬ bm (10 * i + c) = -1 ∨ ¬ hd (10 * i + c) = -1 → ∃ m, m ≤ 2000 ∧ sp (10 * (i - 1) + c) = nI m) : tmM (ownF sp bm hd c i) := by
  have hst : ¬ bm (10 * i + c) = -1 ∨ ¬ hd (10 * i + c) = -1 → ∃ m, m ≤ 2000000 ∧ startF sp c i = nI m := fun q => by
    obtain ⟨m, h1, h2⟩ := hs q
    exact ⟨600 * (m + 3), by omega, startF_m h2 h1⟩
  unfold ownF
  by_cases h1 : bm (10 * i + c) = -1
  · rw [if_pos h1]
    by_cases h2 : hd (10 * i + c) = -1
    · rw [if_pos h2]
      exact Or.inl rfl
    · rw [if_neg h2]
      exact clip_M ((hb c hc).2.resolve_left h2) (mean_b hb) (hst (Or.inr h2))
  · rw [if_neg h1]
    have := clip_M (y := nI 0) ((hb c hc).1.resolve_left h1) (by rw [nI_toInt (by omega)]; omega) (hst (Or.inl h1))
    rw [add0] at this
    exact this
theorem nxd_M {fr : Nat → Int32} : ∀ k, (∀ p, p < k → tmM (fr p)) → tmM (nxdF fr k)
  | 0, _ => Or.inl rfl
  | k + 1, h => by
    unfold nxdF
    split
    · exact nxd_M k fun p hp => h p (by omega)
    · exact h k (by omega)
theorem nxu_M {fr : Nat → Int32} : ∀ j k, (∀ p, k ≤ p → p < k + j → tmM (fr p)) → tmM (nxuF fr k j)
  | 0, _, _ => Or.inl rfl
  | j + 1, k, h => by
    unfold nxuF
    split
    · exact nxu_M j (k + 1) fun p h1 h2 => h p (by omega) (by omega)
    · exact h k (by omega) (by omega)
theorem half_M {u v : Int32} (hu : tmM u) (hv : tmM v) : tmM (mixF u v) := by
  unfold mixF
  by_cases h1 : u = -1
  · rw [if_pos h1]; exact hv
  · rw [if_neg h1]
    by_cases h2 : v = -1
    · rw [if_pos h2]; exact hu
    · rw [if_neg h2]
      obtain ⟨a, ha, rfl⟩ := hu.resolve_left h1
      obtain ⟨b, hb, rfl⟩ := hv.resolve_left h2
      rw [nI_add, nI_div (by omega) (by omega)]
      exact Or.inr ⟨(a + b) / 2, by omega, rfl⟩
theorem time_M {sp bm hd hl aw od mn : Nat → Int32} {g c i : Nat} (hc : c < 10) (hO : okO od mn g) (hw : ∀ c, c < 10 → tmM (ownF sp bm hd c i)) (ha : okW (aw (10 * i + c))) : tmM (timeF sp bm hd hl aw od mn g c i) := by
  unfold timeF
  by_cases h1 : aw (10 * i + c) = -1
  · rw [if_pos h1]
    by_cases h2 : hl (10 * i + c) = nI 0
    · rw [if_pos h2]; exact hw c hc
    · rw [if_neg h2]
      have hf : ∀ p, p < cnt (mn g) → tmM (freF sp bm hd hl od i g p) := fun p hp => by
        unfold freF
        split
        · exact hw _ (hO.2 p hp).2
        · exact Or.inl rfl
      have hq := plc_le (o := fun k => od (10 * g + k)) (x := nI c) (okM_le hO.1)
      rw [notF_def]
      generalize plcF (fun k => od (10 * g + k)) (nI c) (cnt (mn g)) = q at hq ⊢
      refine half_M (nxd_M _ fun p hp => hf p (by omega)) ?_
      unfold behF
      split
      · exact nxu_M _ _ fun p _ hp => hf p (by omega)
      · exact nxu_M _ _ fun p _ hp => hf p (by omega)
  · rw [if_neg h1]
    obtain ⟨a, ha, e⟩ := ha.resolve_left h1
    exact Or.inr ⟨a, by omega, e⟩
theorem tmC_M (h : INV σ N r n) {i c : Nat} (hi : i < N) (hk : σ 36 i = nI 2) (hc : c < 10) : tmM (tmC σ i c) := by
  have hN := h.1.1.1.1
  have hg := legF_le (σ 36) i
  have hS := SG_of h hi hk
  refine time_M hc (h.1.1.2.1.1 _ (by omega)) (fun c hc => own_M hc hS.2.2.2.1 fun q => ?_) (h.1.2.2.2.2.1.1 (10 * i + c) (by omega)).2.2
  exact (h.1.2.1.1 (10 * (i - 1) + c) (by omega)).resolve_left (hS.2.2.2.2.1 c hc q)
end TIM2
