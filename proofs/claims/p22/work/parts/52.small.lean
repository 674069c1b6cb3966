/-! THE LAW: its small methods -/
/-- the law ends with true, having made at most K cells of S slots -/
def FIN (q : Option rR) (K S : Nat) : Prop := ∃ h k s, q = some (.inl (some (.int (nI 1))), h, k, s) ∧ k ≤ K ∧ s ≤ S
/-- what the law's frame does with the one heap it does with the other -/
def TRX (X : rX) (h' h : rH) : Prop := ∀ (pc : Nat) (x5 x6 x7 : Int32) (st : List Int32) (k s K S : Nat), FIN (exM X 122 pc [some (.ref 100000), some (.ref 0), some (.ref 35), some (.ref 36), some (.ref 37), some (.int x5), some (.int x6), some (.int x7)] (st.map Value.int) h k s) K S → FIN (exM X 122 pc [some (.ref 100000), some (.ref 0), some (.ref 35), some (.ref 36), some (.ref 37), some (.int x5), some (.int x6), some (.int x7)] (st.map Value.int) h' k s) K S
theorem TRX_rfl {X : rX} {h : rH} : TRX X h h := fun _ _ _ _ _ _ _ _ _ z => z
/-- what the law keeps beside the class: items, whether a leg is open, rallies; kinds; tyres -/
def LI (σ : Nat → Nat → Int32) (N r : Nat) (δ κ τ : Nat → Int32) : Prop := δ 0 = nI N ∧ (σ 39 0 = -1 → δ 1 = nI 0) ∧ (¬ σ 39 0 = -1 → δ 1 = nI 1) ∧ δ 2 = nI r ∧ (∀ i, i < N → κ i = σ 36 i) ∧ ∀ c, c < 10 → τ c = σ 28 c
/-- a step that answers true -/
def LOK (X : rX) (n : Nat) (t : rH) (q : Option rR) : Prop := ∃ (σ' : Nat → Nat → Int32) (N' r' : Nat) (δ' κ' τ' : Nat → Int32) (t' h' : rH) (k s : Nat), q = some (.inl (some (.int (nI 1))), h', k, s) ∧ k ≤ 32 ∧ s ≤ 4030 ∧ INV σ' N' r' (n + 1) ∧ LI σ' N' r' δ' κ' τ' ∧ t'.length ≤ t.length + 32 ∧ TRX X h' (WW σ' (dA δ' :: kA κ' :: tA τ' :: t'))
section SML
variable {X : rX} {σ σ' : Nat → Nat → Int32} {δ κ τ : Nat → Int32} {t : rH} {N r n : Nat}
theorem LI_congr (hl : LI σ N r δ κ τ) (e36 : σ' 36 = σ 36) (e39 : σ' 39 = σ 39) (e28 : σ' 28 = σ 28) : LI σ' N r δ κ τ := by
  unfold LI at hl ⊢
  rw [e36, e39, e28]
  exact hl
theorem LOK_of {q : Option rR} {N' r' k s : Nat} {δ' κ' τ' : Nat → Int32} (e : q = some (.inl (some (.int (nI 1))), WW σ' (dA δ' :: kA κ' :: tA τ' :: t), k, s)) (hk : k ≤ 1) (hs : s ≤ 6) (h : INV σ' N' r' n) (hl : LI σ' N' r' δ' κ' τ') : LOK X n t q :=
  ⟨σ', N', r', δ', κ', τ', t, _, k, s, e, by omega, by omega, INV_mono h (Nat.le_succ n), hl, by omega, TRX_rfl⟩
/-! isAdded -/
theorem l_added (h : INV σ N r n) (hl : LI σ N r δ κ τ) {a b : Nat} (ha : a ≤ 2) (hb : b ≤ 2000) (hz : N = 0 → a = 0) : LOK X n t (exC X 117 [.ref 0, .ref 35, .ref 36, .int (nI a), .int (nI b)] (WW σ (dA δ :: kA κ :: tA τ :: t))) := by
  have hN := h.1.1.1.1
  obtain ⟨d0, d1, d1', d2, kk, tt⟩ := id hl
  obtain ⟨m, hm, em⟩ : ∃ m, m = (if a = 2 then 0 else b) ∧ m ≤ 2000 := ⟨_, rfl, by split <;> omega⟩
  have ho : okI (nI a) (nI m) := by
    refine ⟨⟨a, by omega, rfl⟩, fun q => ?_, fun q => ⟨m, by omega, rfl⟩⟩
    have := (nI_eq (by omega) (by omega)).mp q
    rw [hm, if_pos this]
  -- the front
  have front : ∀ Q : Option rR, exM X 117 13 [some (.ref 0), some (.ref 35), some (.ref 36), some (.int (nI a)), some (.int (nI b)), none] [.int (nI m), .int (nI a), .ref 0] (WW σ (dA δ :: kA κ :: tA τ :: t)) 0 0 = Q → exC X 117 [.ref 0, .ref 35, .ref 36, .int (nI a), .int (nI b)] (WW σ (dA δ :: kA κ :: tA τ :: t)) = Q := fun Q hQ => by
    rw [ent_117]
    by_cases h2 : a = 2
    · subst h2
      rw [if_pos rfl] at hm
      subst hm
      simp (disch := omega) only [s117_0, s117_1, s117_2, s117_3, s117_4, s117_7, s117_8, s117_11, c10, c100, c6, eq_self, bnd_l, bnd_r, Option.toList_some, Option.toList_none, List.cons_append, List.nil_append, Nat.add_zero, Nat.zero_add, ↓reduceIte, nI_add, nI_mul, nI_subI, lt_t, lt_f, eq_f, lt_m1, m1_lt, eq_m1, m1_eq]
      exact hQ
    · rw [if_neg h2] at hm
      subst hm
      simp (disch := omega) only [s117_0, s117_1, s117_2, s117_3, s117_4, s117_7, s117_8, s117_11, c10, c100, c6, eq_self, bnd_l, bnd_r, Option.toList_some, Option.toList_none, List.cons_append, List.nil_append, Nat.add_zero, Nat.zero_add, ↓reduceIte, nI_add, nI_mul, nI_subI, lt_t, lt_f, eq_f, lt_m1, m1_lt, eq_m1, m1_eq]
      exact hQ
  by_cases hc : canP σ N (nI a)
  · have i1 := w_items (c_item0 (X := X) (t := dA δ :: kA κ :: tA τ :: t) h ho hc)
    obtain ⟨c1, c2, c3, c4⟩ := hc
    have e1 := d1 c4
    refine LOK_of (k := 0) (s := 0) (σ' := itG σ N (nI a) (nI m)) (δ' := upd δ 0 (nI (N + 1))) (κ' := upd κ N (nI a)) (τ' := τ) (front _ ?_) (by omega) (by omega) (INV_item h ho ⟨c1, c2, c3, c4⟩) ⟨upd_eq, fun _ => ?_, fun z => ?_, ?_, fun i hi => ?_, tt⟩
    · simp (disch := omega) only [s117_13, s117_16, s117_18, s117_20, s117_22, s117_25, s117_26, s117_27, s117_28, s117_30, s117_33, s117_34, s117_35, s117_36, s117_37, s117_40, s117_41, s117_42, s117_43, s117_46, s117_47, s117_50, s117_51, s117_52, s117_53, s117_56, s117_57, s117_58, s117_59, s117_60, s117_61, s117_62, s117_63, s117_64, s117_67, s117_68, s117_69, s117_72, s117_73, s117_76, s117_77z0, s117_77z1, s117_78, s117_79, s117_81, s117_82, s117_83, s117_84, s117_85, s117_86, s117_87, s117_88, s117_89, s117_90, s117_92, s117_93, s117_94, s117_95, s117_96, s117_97, s117_100, s117_101, s117_102, s117_103, s117_106, s117_107, s117_110, s117_111z0, s117_111z1, c10, c100, c6, eq_self, bnd_l, bnd_r, Option.toList_some, Option.toList_none, List.cons_append, List.nil_append, Nat.add_zero, Nat.zero_add, ↓reduceIte, nI_add, nI_mul, nI_subI, lt_t, lt_f, eq_f, lt_m1, m1_lt, eq_m1, m1_eq, i1, eq_m2, d0, e1, upd_eq, upd_ne, Nat.add_sub_cancel]
    · rw [upd_ne (by omega)]; exact e1
    · exact absurd c4 z
    · rw [upd_ne (by omega)]; exact d2
    · show upd κ N (nI a) i = upd (σ 36) N (nI a) i
      by_cases w : i = N
      · subst w
        rw [upd_eq, upd_eq]
      · rw [upd_ne w, upd_ne w]
        exact kk i (by omega)
  · have i1 := n_items (c_item1 (X := X) (t := dA δ :: kA κ :: tA τ :: t) h ho hc)
    refine LOK_of (k := 1) (s := 6) (front _ ?_) (by omega) (by omega) h hl
    by_cases w1 : N = 20
    · subst w1
      simp (disch := omega) only [s117_13, s117_16, s117_18, s117_20, s117_22, s117_25, s117_26, s117_27, s117_28, s117_30, s117_33, s117_34, s117_35, s117_36, s117_37, s117_40, s117_41, s117_42, s117_43, s117_46, s117_47, s117_50, s117_51, s117_52, s117_53, s117_56, s117_57, s117_58, s117_59, s117_60, s117_61, s117_62, s117_63, s117_64, s117_67, s117_68, s117_69, s117_72, s117_73, s117_76, s117_77z0, s117_77z1, c10, c100, c6, eq_self, bnd_l, bnd_r, Option.toList_some, Option.toList_none, List.cons_append, List.nil_append, Nat.add_zero, Nat.zero_add, ↓reduceIte, nI_add, nI_mul, nI_subI, lt_t, lt_f, eq_f, lt_m1, m1_lt, eq_m1, m1_eq, i1, eq_m2, d0]
    · by_cases w2 : σ 39 0 = -1
      · have e1 := d1 w2
        have hNz : ¬ N = 0 := fun q => hc ⟨by omega, fun _ => by rw [hz q], fun z => by omega, w2⟩
        have ek := kk (N - 1) (by omega)
        have w3 : σ 36 (N - 1) = nI 2 ∧ ¬ a = 1 := by
          by_cases w4 : σ 36 (N - 1) = nI 2
          · exact ⟨w4, fun q => hc ⟨by omega, fun z => absurd z hNz, fun _ _ => by rw [q], w2⟩⟩
          · exact absurd ⟨by omega, fun z => absurd z hNz, fun _ z => absurd z w4, w2⟩ hc
        rw [w3.1] at ek
        have w5 := w3.2
        simp (disch := omega) only [s117_13, s117_16, s117_18, s117_20, s117_22, s117_25, s117_26, s117_27, s117_28, s117_30, s117_33, s117_34, s117_35, s117_36, s117_37, s117_40, s117_41, s117_42, s117_43, s117_46, s117_47, s117_50, s117_51, s117_52, s117_53, s117_56, s117_57, s117_58, s117_59, s117_60, s117_61, s117_62, s117_63, s117_64, s117_67, s117_68, s117_69, s117_72, s117_73, s117_76, s117_77z0, s117_77z1, c10, c100, c6, eq_self, bnd_l, bnd_r, Option.toList_some, Option.toList_none, List.cons_append, List.nil_append, Nat.add_zero, Nat.zero_add, ↓reduceIte, nI_add, nI_mul, nI_subI, lt_t, lt_f, eq_f, lt_m1, m1_lt, eq_m1, m1_eq, i1, eq_m2, d0, e1, ek]
      · have e1 := d1' w2
        simp (disch := omega) only [s117_13, s117_16, s117_18, s117_20, s117_22, s117_25, s117_26, s117_27, s117_28, s117_30, s117_33, s117_34, s117_35, s117_36, s117_37, s117_40, s117_41, s117_42, s117_43, s117_46, s117_47, s117_50, s117_51, s117_52, s117_53, s117_56, s117_57, s117_58, s117_59, s117_60, s117_61, s117_62, s117_63, s117_64, s117_67, s117_68, s117_69, s117_72, s117_73, s117_76, s117_77z0, s117_77z1, c10, c100, c6, eq_self, bnd_l, bnd_r, Option.toList_some, Option.toList_none, List.cons_append, List.nil_append, Nat.add_zero, Nat.zero_add, ↓reduceIte, nI_add, nI_mul, nI_subI, lt_t, lt_f, eq_f, lt_m1, m1_lt, eq_m1, m1_eq, i1, eq_m2, d0, e1]
/-! isFinished -/
theorem ne_m2 {x : Int32} (h : tmM x) : ¬ x = -2 := by
  rcases h with rfl | ⟨m, hm, rfl⟩
  · rw [m1_m2]; exact id
  · rw [eq_m2 (by omega)]; exact id
theorem nlt_m1 {x : Int32} (h : tmM x) : ¬ x < -1 := by
  rcases h with rfl | ⟨m, hm, rfl⟩
  · rw [m1m1]; exact id
  · rw [lt_m1 (by omega)]; exact id
theorem l_finished (h : INV σ N r n) (hl : LI σ N r δ κ τ) {c i b : Nat} {z : Int32} (hz : z = nI 0 ∨ z = nI 1) (hc : c < 10) (hi : i < N) (hk : σ 36 i = nI 2) (hb : b < 2 ^ 31) : LOK X n t (exC X 118 [.ref 0, .int (nI c), .int (nI i), .int z, .int (nI b)] (WW σ (dA δ :: kA κ :: tA τ :: t))) := by
  have i1 := c_time (X := X) (t := dA δ :: kA κ :: tA τ :: t) h hc hi hk
  have i2 := c_anew (X := X) (t := dA δ :: kA κ :: tA τ :: t) h hc
  have hx := Nat.mod_lt b (by omega : 0 < 90000)
  rcases c_finish (X := X) (t := dA δ :: kA κ :: tA τ :: t) h hz hc hi hk (x := b % 90000) (by omega) with e | ⟨σ', e, hI, e36, e39, e28⟩
  · have i3 := n_finishes e
    refine LOK_of (k := 1) (s := 6) (σ' := σ) ?_ (by omega) (by omega) h hl
    rw [ent_118]
    simp (disch := omega) only [s118_0, s118_1, s118_2, s118_3, s118_6, s118_8, s118_9, s118_10, s118_13, s118_15, s118_16, s118_17, s118_18, s118_19, s118_21, s118_23, s118_24, s118_27, s118_29, s118_31, s118_33, s118_36, s118_37, s118_38, s118_39, s118_42, s118_44, s118_47, s118_48, s118_49, s118_52, s118_54, s118_57, s118_58, s118_61, s118_62, s118_65, s118_66, s118_67, s118_68, s118_71, s118_72, s118_75, s118_76, s118_79, s118_80z0, s118_80z1, c10, c100, c6, eq_self, bnd_l, bnd_r, Option.toList_some, Option.toList_none, List.cons_append, List.nil_append, Nat.add_zero, Nat.zero_add, ↓reduceIte, nI_add, nI_mul, nI_subI, lt_t, lt_f, eq_f, lt_m1, m1_lt, eq_m1, m1_eq, i1, i2, i3]
  · have i3 := w_finishes e
    have i4 := c_time (X := X) (t := dA δ :: kA κ :: tA τ :: t) hI hc hi (by rw [e36]; exact hk)
    have h4 := nlt_m1 (tmC_M hI hi (by rw [e36]; exact hk) hc)
    refine LOK_of (k := 0) (s := 0) (σ' := σ') ?_ (by omega) (by omega) hI (LI_congr hl e36 e39 e28)
    rw [ent_118]
    simp (disch := omega) only [s118_0, s118_1, s118_2, s118_3, s118_6, s118_8, s118_9, s118_10, s118_13, s118_15, s118_16, s118_17, s118_18, s118_19, s118_21, s118_23, s118_24, s118_27, s118_29, s118_31, s118_33, s118_36, s118_37, s118_38, s118_39, s118_42, s118_44, s118_47, s118_48, s118_49, s118_52, s118_54, s118_57, s118_58, s118_61, s118_62, s118_65, s118_66, s118_67, s118_68, s118_71, s118_72, s118_75, s118_76, s118_79, s118_80z0, s118_80z1, c10, c100, c6, eq_self, bnd_l, bnd_r, Option.toList_some, Option.toList_none, List.cons_append, List.nil_append, Nat.add_zero, Nat.zero_add, ↓reduceIte, nI_add, nI_mul, nI_subI, lt_t, lt_f, eq_f, lt_m1, m1_lt, eq_m1, m1_eq, i1, i2, i3, i4, h4, eq_m2]
end SML
/-! sets of cars -/
/-- the set of the first n of f -/
def mkN (f : Nat → Nat) : Nat → Nat
  | 0 => 0
  | n + 1 => mkN f n ||| 2 ^ f n
theorem mk_lt {f : Nat → Nat} : ∀ n, (∀ q, q < n → f q < 10) → mkN f n < 1024
  | 0, _ => (by decide : 0 < 1024)
  | n + 1, h => Nat.or_lt_two_pow (n := 10) (mk_lt n fun q hq => h q (by omega)) (Nat.pow_lt_pow_right (by decide) (h n (by omega)))
theorem mk_bit {f : Nat → Nat} {c : Nat} : ∀ n, (mkN f n).testBit c = true ↔ ∃ q, q < n ∧ f q = c
  | 0 => by
    rw [show mkN f 0 = 0 from rfl, Nat.zero_testBit]
    exact ⟨fun z => (by cases z), fun ⟨q, hq, _⟩ => by omega⟩
  | n + 1 => by
    rw [show mkN f (n + 1) = mkN f n ||| 2 ^ f n from rfl, Nat.testBit_or, Bool.or_eq_true, mk_bit n, Nat.testBit_two_pow]
    constructor
    · rintro (⟨q, hq, e⟩ | e)
      · exact ⟨q, by omega, e⟩
      · exact ⟨n, by omega, by simpa using e⟩
    · rintro ⟨q, hq, e⟩
      by_cases w : q = n
      · subst w
        exact Or.inr (by simpa using e)
      · exact Or.inl ⟨q, by omega, e⟩
theorem bit_0 {m c : Nat} (h : m.testBit c = false) : m / 2 ^ c &&& 1 = 0 := by
  unfold Nat.testBit at h
  rw [Nat.shiftRight_eq_div_pow, Nat.and_comm] at h
  simpa using h
theorem mk_new {f : Nat → Nat} {n c : Nat} (h : ∀ q, q < n → f q ≠ c) : mkN f n / 2 ^ c &&& 1 = 0 := by
  refine bit_0 ?_
  cases e : (mkN f n).testBit c with
  | false => rfl
  | true =>
    obtain ⟨q, hq, w⟩ := (mk_bit n).mp e
    exact absurd w (h q hq)
theorem mk_congr {f g : Nat → Nat} : ∀ n, (∀ q, q < n → f q = g q) → mkN f n = mkN g n
  | 0, _ => rfl
  | n + 1, h => by
    unfold mkN
    rw [mk_congr n fun q hq => h q (by omega), h n (by omega)]
/-- ten cars, each once: all of them -/
theorem mk_all {f : Nat → Nat} (h1 : ∀ q, q < 10 → f q < 10) (h2 : ∀ p q, p < 10 → q < 10 → f p = f q → p = q) : mkN f 10 = 1023 := by
  have hs : ∀ c, c < 10 → ∃ q, q < 10 ∧ f q = c := fun c hc => by
    refine Classical.byContradiction fun hn => ?_
    have hd : (c :: (List.range 10).map f).Nodup := by
      refine List.nodup_cons.mpr ⟨fun z => ?_, ?_⟩
      · obtain ⟨q, hq, e⟩ := List.mem_map.mp z
        exact hn ⟨q, List.mem_range.mp hq, e⟩
      · show List.Pairwise _ _
        rw [List.pairwise_map]
        refine List.Pairwise.imp_of_mem (R := fun a b => a < b) (fun {a b} ha hb hab e => ?_) List.pairwise_lt_range
        have := h2 a b (List.mem_range.mp ha) (List.mem_range.mp hb) e
        omega
    have := List.Nodup.length_le_of_subset (l₂ := List.range 10) hd fun x hx => by
      rcases List.mem_cons.mp hx with rfl | hx
      · exact List.mem_range.mpr hc
      · obtain ⟨q, hq, e⟩ := List.mem_map.mp hx
        rw [← e]
        exact List.mem_range.mpr (h1 q (List.mem_range.mp hq))
    simp at this
  apply Nat.eq_of_testBit_eq
  intro c
  by_cases hc : c < 10
  · rw [(mk_bit 10).mpr (hs c hc)]
    have : ∀ c, c < 10 → Nat.testBit 1023 c = true := by decide
    exact (this c hc).symm
  · rw [Nat.testBit_lt_two_pow (x := mkN f 10) (Nat.lt_of_lt_of_le (mk_lt 10 h1) (Nat.pow_le_pow_right (n := 2) (by decide) (by omega : 10 ≤ c))), Nat.testBit_lt_two_pow (x := 1023) (Nat.lt_of_lt_of_le (by decide : 1023 < 2 ^ 10) (Nat.pow_le_pow_right (n := 2) (by decide) (by omega : 10 ≤ c)))]
section ORDR
variable {X : rX} {σ : Nat → Nat → Int32} {t : rH} {N r n : Nat}
/-- the car at a place, from there on none -/
theorem l_order (h : INV σ N r n) {i m : Nat} (hi : i < N) (hk : σ 36 i = nI 0) (hm : m ≤ 10) (e39 : σ 39 i = nI m) (h0 : i = 0 → m = 10) : exC X 119 [.ref 0, .int (nI i), .int (nI m)] (WW σ t) = ans (nI 1) (WW σ t) := by
  have hN := h.1.1.1.1
  have hB := h.1.1.2.1
  have hcnt : cnt (σ 39 i) = m := by rw [e39, cnt_nI (by omega)]
  have hO := (hB.1 i (by omega)).2
  have hu := hB.2.2.2 i (by omega)
  rw [hcnt] at hO hu
  have hs : ∀ p, p < 10 → exC X 82 [.ref 0, .int (nI i), .int (nI p)] (WW σ t) = ans (if p < m then nI (carF (σ 38) i p) else -1) (WW σ t) := fun p hp => by
    have := p_starts0 (X := X) (t := t) h.1.1.1 hB hi hp hk
    rw [hcnt] at this
    rw [this]
    by_cases w : p < m
    · rw [if_pos w, if_pos w, (hO p w).1]
    · rw [if_neg w, if_neg w]
  have L : ∀ q p, p + q = 10 → ∀ o6, exM X 119 8 [some (.ref 0), some (.int (nI i)), some (.int (nI m)), some (.int (nI (mkN (carF (σ 38) i) (if p < m then p else m)))), some (.int (nI 1)), some (.int (nI p)), o6] [] (WW σ t) 0 0 = ans (nI 1) (WW σ t) := by
    intro q
    induction q with
    | zero =>
      intro p hp o6
      obtain rfl : p = 10 := by omega
      rw [if_neg (by omega)]
      by_cases w : i = 0
      · have em := h0 w
        subst w em
        have e := mk_all (fun q hq => (hO q hq).2) hu
        rw [e]
        simp (disch := omega) only [s119_8, s119_10, s119_12, s119_92, s119_94, s119_97, s119_98, s119_101, s119_102, s119_105, s119_108, s119_109, s119_112, s119_113z0, s119_113z1, c10, c100, c6, eq_self, bnd_l, bnd_r, Option.toList_some, Option.toList_none, List.cons_append, List.nil_append, Nat.add_zero, Nat.zero_add, ↓reduceIte, nI_add, nI_mul, nI_subI, lt_t, lt_f, eq_f, lt_m1, m1_lt, eq_m1, m1_eq]
      · simp (disch := omega) only [s119_8, s119_10, s119_12, s119_92, s119_94, s119_97, s119_98, s119_101, s119_102, s119_105, s119_108, s119_109, s119_112, s119_113z0, s119_113z1, c10, c100, c6, eq_self, bnd_l, bnd_r, Option.toList_some, Option.toList_none, List.cons_append, List.nil_append, Nat.add_zero, Nat.zero_add, ↓reduceIte, nI_add, nI_mul, nI_subI, lt_t, lt_f, eq_f, lt_m1, m1_lt, eq_m1, m1_eq]
    | succ q ih =>
      intro p hp o6
      have i1 := hs p (by omega)
      have i2 := ih (p + 1) (by omega)
      by_cases w : p < m
      · obtain ⟨c1, c2⟩ := hO p w
        have hn := mk_new (f := carF (σ 38) i) (n := p) (c := carF (σ 38) i p) fun q hq e => by
          have := hu q p (by omega) w e
          omega
        have hl := mk_lt (f := carF (σ 38) i) p fun q hq => (hO q (by omega)).2
        have e2 : (if p + 1 < m then p + 1 else m) = p + 1 := by split <;> omega
        rw [e2] at i2
        rw [if_pos w] at i1 ⊢
        have i3 := i2 (some (.int (nI (carF (σ 38) i p))))
        rw [show mkN (carF (σ 38) i) (p + 1) = mkN (carF (σ 38) i) p ||| 2 ^ carF (σ 38) i p from rfl] at i3
        generalize carF (σ 38) i p = c at *
        generalize mkN (carF (σ 38) i) p = S at *
        rw [s119_8]
        simp (disch := omega) only [s119_10, s119_12, s119_15, s119_17, s119_20, s119_21, s119_22, s119_24, s119_27, s119_29, s119_31, s119_32, s119_35, s119_37, s119_40, s119_41, s119_43, s119_44, s119_45, s119_46, s119_49, s119_50, s119_53, s119_54, s119_57, s119_59, s119_60, s119_63, s119_64, s119_67, s119_68, s119_70, s119_71, s119_73, s119_76, s119_77, s119_80, s119_81, s119_83, s119_84, s119_85, s119_86, s119_89, c10, c100, c6, eq_self, bnd_l, bnd_r, Option.toList_some, Option.toList_none, List.cons_append, List.nil_append, Nat.add_zero, Nat.zero_add, ↓reduceIte, nI_add, nI_mul, nI_subI, lt_t, lt_f, eq_f, lt_m1, m1_lt, eq_m1, m1_eq, i1, hn, Nat.one_mul]
        exact i3
      · have e2 : (if p + 1 < m then p + 1 else m) = m := if_neg (by omega)
        rw [e2] at i2
        rw [if_neg w] at i1 ⊢
        have i3 := i2 (some (.int (-1)))
        rw [s119_8]
        simp (disch := omega) only [s119_10, s119_12, s119_15, s119_17, s119_20, s119_21, s119_22, s119_24, s119_27, s119_29, s119_31, s119_32, s119_35, s119_37, s119_40, s119_41, s119_43, s119_44, s119_45, s119_46, s119_49, s119_50, s119_53, s119_54, s119_57, s119_59, s119_60, s119_63, s119_64, s119_67, s119_68, s119_70, s119_71, s119_73, s119_76, s119_77, s119_80, s119_81, s119_83, s119_84, s119_85, s119_86, s119_89, c10, c100, c6, eq_self, bnd_l, bnd_r, Option.toList_some, Option.toList_none, List.cons_append, List.nil_append, Nat.add_zero, Nat.zero_add, ↓reduceIte, nI_add, nI_mul, nI_subI, lt_t, lt_f, eq_f, lt_m1, m1_lt, eq_m1, m1_eq, i1, Nat.or_zero, m1_z]
        exact i3
  have i0 := L 10 0 (by omega) none
  rw [ent_119]
  have e0 : mkN (carF (σ 38) i) (if 0 < m then 0 else m) = 0 := by
    split
    · rfl
    · have : m = 0 := by omega
      subst this
      rfl
  rw [e0] at i0
  simp (disch := omega) only [s119_0, s119_1, s119_2, s119_3, s119_5, s119_6, c10, c100, c6, eq_self, bnd_l, bnd_r, Option.toList_some, Option.toList_none, List.cons_append, List.nil_append, Nat.add_zero, Nat.zero_add, ↓reduceIte, nI_add, nI_mul, nI_subI, lt_t, lt_f, eq_f, lt_m1, m1_lt, eq_m1, m1_eq]
  exact i0
end ORDR
