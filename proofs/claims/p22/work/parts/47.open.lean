/-! CALLS: a leg opened -/
theorem plcF_get {o : Nat → Int32} {x : Int32} {a : Nat} (ha : a < 2 ^ 31) : ∀ m, m < 2 ^ 31 → plcF o x m = nI a → o a = x
  | 0, _, h => by
    have h : (-1 : Int32) = nI a := h
    rw [m1_eq ha] at h
    exact h.elim
  | m + 1, hm, h => by
    unfold plcF at h
    by_cases q : o m = x
    · rw [if_pos q] at h
      rw [← (nI_eq (by omega) ha).mp h]
      exact q
    · rw [if_neg q] at h
      exact plcF_get ha m (by omega) h
section ORL
variable {rk rk' : Nat → Int32}
theorem numL_congr (h : ∀ c, c < 10 → rk' c = rk c) : numL rk' 10 = numL rk 10 := by
  unfold numL
  refine List.filter_congr fun c hc => ?_
  rw [h c (List.mem_range.mp hc)]
theorem plc10_congr (h : ∀ c, c < 10 → rk' c = rk c) (x : Int32) : plcF rk' x 10 = plcF rk x 10 := plcF_eq 10 h
theorem rkL_congr (h : ∀ c, c < 10 → rk' c = rk c) : rkL rk' 10 = rkL rk 10 := by
  unfold rkL
  congr 1
  funext p
  rw [plc10_congr h]
theorem numL_mem {c : Nat} (h : c ∈ numL rk 10) : c < 10 ∧ ¬ rk c = -1 := by
  unfold numL at h
  obtain ⟨h1, h2⟩ := List.mem_filter.mp h
  refine ⟨List.mem_range.mp h1, ?_⟩
  simpa using h2
theorem numL_nd : (numL rk 10).Nodup := List.Pairwise.filter _ List.nodup_range
theorem rkL_of {p c : Nat} (h : (if plcF rk (nI p) 10 = -1 then none else some (cnt (plcF rk (nI p) 10))) = some c) : c < 10 ∧ rk c = nI p := by
  by_cases q : plcF rk (nI p) 10 = -1
  · rw [if_pos q] at h
    cases h
  · rw [if_neg q] at h
    rcases plcF_or rk (nI p) 10 with e | ⟨a, ha, e⟩
    · exact absurd e q
    · rw [e, cnt_nI (by omega)] at h
      cases h
      exact ⟨ha, plcF_get (by omega) 10 (by omega) e⟩
theorem rkL_mem {c : Nat} (h : c ∈ rkL rk 10) : c < 10 ∧ ¬ rk c = -1 := by
  unfold rkL at h
  obtain ⟨p, hp, e⟩ := List.mem_filterMap.mp h
  obtain ⟨h1, h2⟩ := rkL_of e
  refine ⟨h1, ?_⟩
  rw [h2, eq_m1 (by have := List.mem_range.mp hp; omega)]
  exact id
theorem rkL_nd : (rkL rk 10).Nodup := by
  unfold rkL
  show List.Pairwise _ _
  rw [List.pairwise_filterMap]
  refine List.Pairwise.imp_of_mem (R := fun a b => a < b) (fun {a b} ha hb hab x hx y hy e => ?_) List.pairwise_lt_range
  subst e
  have h1 := (rkL_of hx).2
  have h2 := (rkL_of hy).2
  have ha := List.mem_range.mp ha
  have hb := List.mem_range.mp hb
  rw [h1] at h2
  have := (nI_eq (by omega) (by omega)).mp h2
  omega
theorem rev5_perm {L : List Nat} : List.Perm (rev5 L) L := by
  unfold rev5
  refine ((List.reverse_perm _).append_right _).trans ?_
  rw [List.take_append_drop]
end ORL
section OPN
variable {X : rX} {σ σ' : Nat → Nat → Int32} {t : rH} {N r n : Nat}
theorem ord_eq {P : Nat → Prop} {A : Nat → Nat → Prop} {rk : Nat → Int32} {w : Nat} (hO : ORD P A) (hr : ∀ c, c < 10 → rk c = plV P A c 10) (hw : w ≤ 2) : orcL rk w = ordL rk w := by
  unfold orcL ordL
  rcases (by omega : w = 0 ∨ w = 1 ∨ w = 2) with rfl | rfl | rfl
  · rfl
  · exact tnL_0 rk
  · refine tnL_5 (m := cnF P 10) (cnF_le P 10) (fun p hp => ?_) fun p hp h1 => plc_no hr (by omega) (by omega)
    obtain ⟨c, hc, -, -, e⟩ := plc_ex hO hr hp
    rw [e, eq_m1 (by omega)]
    exact id
theorem ordL_mem {rk : Nat → Int32} {w c : Nat} (h : c ∈ ordL rk w) : c < 10 ∧ ¬ rk c = -1 := by
  unfold ordL at h
  split at h
  · exact numL_mem h
  · split at h
    · exact rkL_mem h
    · exact rkL_mem (rev5_perm.mem_iff.mp h)
theorem ordL_nd {rk : Nat → Int32} {w : Nat} : (ordL rk w).Nodup := by
  unfold ordL
  split
  · exact numL_nd
  · split
    · exact rkL_nd
    · exact rev5_perm.nodup_iff.mpr rkL_nd
theorem ordL_congr {rk rk' : Nat → Int32} {w : Nat} (h : ∀ c, c < 10 → rk' c = rk c) : ordL rk' w = ordL rk w := by
  unfold ordL
  rw [numL_congr h, rkL_congr h]
theorem crtL_mem {i c : Nat} (h : c ∈ crtL σ i) : c < 10 ∧ ¬ i = 0 ∧ ¬ σ 15 c = nI 0 := by
  unfold crtL at h
  split at h
  · cases h
  · rename_i hi
    unfold crL at h
    obtain ⟨h1, h2⟩ := List.mem_filter.mp h
    unfold crB at h2
    exact ⟨List.mem_range.mp h1, hi, (of_decide_eq_true h2).1⟩
theorem crtL_nd {i : Nat} : (crtL σ i).Nodup := by
  unfold crtL
  split
  · exact List.Pairwise.nil
  · exact List.Pairwise.filter _ List.nodup_range
/-- the order of a leg that is opened -/
theorem ord_ok {i w : Nat} (hw : w ≤ 2) : (∀ c, c ∈ orcL (rkC (if i = 0 then nI 1 else nI 0) σ N 34) w ++ crtL σ i → c < 10) ∧ (orcL (rkC (if i = 0 then nI 1 else nI 0) σ N 34) w ++ crtL σ i).Nodup ∧ (orcL (rkC (if i = 0 then nI 1 else nI 0) σ N 34) w).length + (crtL σ i).length ≤ 10 := by
  rw [ord_eq (ahdC_ord (inC _ σ) (rk1 (if i = 0 then nI 1 else nI 0) σ N 10 32) (σ 23) N) (fun c hc => rkC_plV hc) hw]
  have h1 : ∀ c, c ∈ ordL (rkC (if i = 0 then nI 1 else nI 0) σ N 34) w ++ crtL σ i → c < 10 := fun c hc => by
    rcases List.mem_append.mp hc with z | z
    · exact (ordL_mem z).1
    · exact (crtL_mem z).1
  have h2 : (ordL (rkC (if i = 0 then nI 1 else nI 0) σ N 34) w ++ crtL σ i).Nodup := by
    refine List.nodup_append.mpr ⟨ordL_nd, crtL_nd, fun a ha b hb e => ?_⟩
    subst e
    obtain ⟨a1, a2⟩ := ordL_mem ha
    obtain ⟨-, b1, b2⟩ := crtL_mem hb
    rw [rkC_plV a1] at a2
    have hin : inC (if i = 0 then nI 1 else nI 0) σ a := by
      apply Classical.byContradiction
      intro z
      exact a2 (plV_f z)
    rw [if_neg b1] at hin
    rcases hin with z | ⟨-, z, -⟩
    · exact n1_0 z.symm
    · exact b2 z
  refine ⟨h1, h2, ?_⟩
  have h3 := List.Nodup.length_le_of_subset (l₂ := List.range 10) h2 fun c hc => List.mem_range.mpr (h1 c hc)
  rw [List.length_append, List.length_range] at h3
  exact h3
theorem getD_mem {L : List Nat} {p : Nat} (hp : p < L.length) : L.getD p 0 ∈ L := by
  rw [List.getD_eq_getElem?_getD, List.getElem?_eq_getElem hp]
  exact List.getElem_mem hp
theorem GA_open (h : INV σ N r n) {i : Nat} {L : List Nat} (hi : i < N) (hk : σ 36 i = nI 0) (hc : σ 39 i = -1) (ho : opnF (σ 36) (σ 39) i) (l1 : ∀ c, c ∈ L → c < 10) (l2 : L.Nodup) (l3 : L.length ≤ 10) (e3 : σ' 3 3 = σ 3 3)
    (e8 : σ' 8 = fun j => if 10 * i ≤ j ∧ j < 10 * i + L.length then nI (L.getD (j - 10 * i) 0) else σ 8 j) (e38 : σ' 38 = fun j => if 10 * i ≤ j ∧ j < 10 * i + L.length then nI (L.getD (j - 10 * i) 0) else σ 38 j) (e9 : σ' 9 = upd (σ 9) i (nI L.length)) (e39 : σ' 39 = upd (σ 39) i (nI L.length))
    (e : (σ' 4 = σ 4 ∧ σ' 5 = σ 5 ∧ σ' 6 = σ 6) ∧ (σ' 11 = σ 11 ∧ σ' 12 = σ 12 ∧ σ' 13 = σ 13) ∧ (σ' 18 = σ 18 ∧ σ' 19 = σ 19 ∧ σ' 20 = σ 20 ∧ σ' 21 = σ 21 ∧ σ' 22 = σ 22 ∧ σ' 23 = σ 23 ∧ σ' 24 = σ 24) ∧ σ' 36 = σ 36 ∧ σ' 37 = σ 37) : GA σ' N n := by
  obtain ⟨⟨e4, e5, e6⟩, ⟨e11, e12, e13⟩, ⟨e18, e19, e20, e21, e22, e23, e24⟩, e36, e37⟩ := e
  have hN := h.1.1.1.1
  have h0 := h.1.1.1.2.2.2.1 (by omega)
  obtain ⟨b1, b2, b3, b4⟩ := h.1.1.2.1
  have nL : ¬ nI L.length = -1 := by rw [eq_m1 (by omega)]; exact id
  -- the row of another leg
  have o39 : ∀ g, g ≠ i → σ' 39 g = σ 39 g := fun g hg => by rw [e39, upd_ne hg]
  have o38 : ∀ g p, g < 20 → g ≠ i → p < 10 → σ' 38 (10 * g + p) = σ 38 (10 * g + p) ∧ σ' 8 (10 * g + p) = σ 8 (10 * g + p) := fun g p _ hg hp => by
    rw [e38, e8]
    exact ⟨if_neg (by omega), if_neg (by omega)⟩
  have c39 : cnt (σ' 39 i) = L.length := by rw [e39, upd_eq, cnt_nI (by omega)]
  have i38 : ∀ p, p < L.length → σ' 38 (10 * i + p) = nI (L.getD p 0) ∧ σ' 8 (10 * i + p) = nI (L.getD p 0) := fun p hp => by
    rw [e38, e8]
    refine ⟨?_, ?_⟩
    · show (if _ then _ else _) = _
      rw [if_pos (by omega), show 10 * i + p - 10 * i = p by omega]
    · show (if _ then _ else _) = _
      rw [if_pos (by omega), show 10 * i + p - 10 * i = p by omega]
  have icar : ∀ p, p < L.length → carF (σ' 38) i p = L.getD p 0 ∧ L.getD p 0 < 10 := fun p hp => by
    have := l1 _ (getD_mem hp)
    unfold carF
    rw [(i38 p hp).1, cnt_nI (by omega)]
    exact ⟨rfl, this⟩
  have ocar : ∀ g p, g < 20 → g ≠ i → p < 10 → carF (σ' 38) g p = carF (σ 38) g p := fun g p h1 h2 h3 => by
    unfold carF
    rw [(o38 g p h1 h2 h3).1]
  have hS := h.1.2.1
  have dleg : ∀ j, j < N → ∀ q, q < 10 → ¬ σ 11 (10 * j + q) = -1 → legF (σ 36) j ≠ i := fun j hj q hq z w => by
    have := (hS.2 j hj q hq z).1
    rw [w] at this
    exact this hc
  refine ⟨⟨?_, ⟨fun g hg => ?_, fun g hg p hp => ?_, ?_, fun g hg p q hp hq z => ?_⟩, ?_, fun z => by omega⟩, ⟨?_, fun j hj q hq z => ?_⟩, ?_, fun q hq => ?_, ⟨?_, fun j hj hkj q hq z => ?_, fun j hj => ?_⟩, fun z => ?_⟩
  · have := h.1.1.1
    unfold IA at this ⊢
    rw [e3, e4, e5, e6, e36, e37]
    exact this
  · by_cases w : g = i
    · subst w
      refine ⟨by rw [e39, upd_eq]; exact Or.inr ⟨_, l3, rfl⟩, fun p hp => ?_⟩
      rw [c39] at hp
      obtain ⟨x1, x2⟩ := icar p hp
      rw [x1, (i38 p hp).1]
      exact ⟨rfl, x2⟩
    · obtain ⟨x1, x2⟩ := b1 g hg
      refine ⟨by rw [o39 g w]; exact x1, fun p hp => ?_⟩
      rw [o39 g w] at hp
      have := okM_le x1
      rw [ocar g p hg w (by omega), (o38 g p hg w (by omega)).1]
      exact x2 p hp
  · by_cases w : g = i
    · subst w
      rw [c39] at hp
      rw [(i38 p hp).1, (i38 p hp).2]
    · rw [o39 g w] at hp
      have := okM_le (b1 g hg).1
      rw [(o38 g p hg w (by omega)).1, (o38 g p hg w (by omega)).2]
      exact b2 g hg p hp
  · rw [e9, e39, b3]
  · by_cases w : g = i
    · subst w
      rw [c39] at hp hq
      rw [(icar p hp).1, (icar q hq).1] at z
      exact (List.getD_inj hp hq l2).mp z
    · rw [o39 g w] at hp hq
      have := okM_le (b1 g hg).1
      rw [ocar g p hg w (by omega), ocar g q hg w (by omega)] at z
      exact b4 g hg p q hp hq z
  · rw [e36, e37]
    exact h.1.1.2.2.1
  · rw [e11]
    exact hS.1
  · rw [e11] at z
    rw [e11, e36, o39 _ (dleg j hj q hq z)]
    exact hS.2 j hj q hq z
  · unfold GD
    rw [e12]
    exact h.1.2.2.1
  · rw [e13, e36, e37, e11, e12, h.1.2.2.2.1 q hq]
    refine (pf_congr N fun j hj => ⟨rfl, fun z => ?_⟩).symm
    unfold dueF
    by_cases w : σ 36 j = nI 0
    · have hji : j ≠ i := fun y => dleg j hj q hq z (by rw [leg_self w]; exact y)
      have := okM_le (b1 j (by omega)).1
      rw [if_pos w, if_pos w, o39 j hji, plcF_eq (o := fun k => σ' 38 (10 * j + k)) (o' := fun k => σ 38 (10 * j + k)) (cnt (σ 39 j)) fun k hk => (o38 j k (by omega) hji (by omega)).1]
    · rw [if_neg w, if_neg w]
  · rw [e18, e19, e20]
    exact h.1.2.2.2.2.1.1
  · rw [e36] at hkj
    unfold TLD at z
    rw [e18, e19, e20, e21] at z
    rw [e11]
    exact h.1.2.2.2.2.1.2.1 j hj hkj q hq z
  · refine CHj_same (h.1.2.2.2.2.1.2.2 j hj) (by rw [e36]) (fun hkj q hq => ?_) (fun q _ => by rw [e23]) (by rw [e24])
    have hw : ∀ q, q < 10 → ownF (σ' 11) (σ' 18) (σ' 19) q j = ownF (σ 11) (σ 18) (σ 19) q j := fun q _ => by rw [e11, e18, e19]
    refine ⟨hw q hq, ?_, by rw [e22]⟩
    have hg := legF_le (σ 36) j
    obtain ⟨hp, -⟩ := st_ahead h hj hkj
    show timeF (σ' 11) (σ' 18) (σ' 19) (σ' 21) (σ' 20) (σ' 38) (σ' 39) (legF (σ' 36) j) q j = timeF (σ 11) (σ 18) (σ 19) (σ 21) (σ 20) (σ 38) (σ 39) (legF (σ 36) j) q j
    rw [e36]
    by_cases w : legF (σ 36) j = i
    · have hb : ¬ TLD σ (10 * j + q) := fun z => by
        have z2 := h.1.2.2.2.2.1.2.1 j hj hkj q hq z
        refine dleg (j - 1) (by omega) q hq z2 ?_
        rw [← leg_pred hp (by rw [hkj]; exact two_z)]
        exact w
      have hb1 : σ 18 (10 * j + q) = -1 := Classical.byContradiction fun z => hb (Or.inl z)
      have hb2 : σ 19 (10 * j + q) = -1 := Classical.byContradiction fun z => hb (Or.inr (Or.inl z))
      have hb3 : σ 20 (10 * j + q) = -1 := Classical.byContradiction fun z => hb (Or.inr (Or.inr (Or.inl z)))
      have hb4 : σ 21 (10 * j + q) = nI 0 := Classical.byContradiction fun z => hb (Or.inr (Or.inr (Or.inr z)))
      rw [time_blank (by rw [e18]; exact hb1) (by rw [e19]; exact hb2) (by rw [e20]; exact hb3) (by rw [e21]; exact hb4), time_blank hb1 hb2 hb3 hb4]
    · have := okM_le (b1 (legF (σ 36) j) (by omega)).1
      exact time_congr (b1 _ (by omega)) (fun p hp => (o38 _ p (by omega) w (by omega)).1) (o39 _ w) hw (fun _ _ => by rw [e21]) (by rw [e20]) hq
  · rw [e39] at z
    by_cases w : 0 = i
    · rw [← w, upd_eq] at z
      exact absurd z nL
    · rw [upd_ne w] at z
      exact absurd z ((opnF_of i).mp ho 0 (by omega) h0)
end OPN
