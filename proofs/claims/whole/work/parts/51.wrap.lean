/-! THE LAW: its wrappers -/
section WRP
variable {X : rX} {σ : Nat → Nat → Int32} {τ : Nat → Int64} {t : rH} {N r n : Nat}
theorem lcmp_self {x : Int64} : lg_cmp x x = nI 0 := by
  unfold lg_cmp
  rw [if_neg (show ¬ x > x from Int64.lt_irrefl), if_pos rfl]
  rfl
def LWR (X : rX) (W : Nat) (as : List Value) (y : Nat) (as2 : List Value) (σ : Nat → Nat → Int32) (τ : Nat → Int64) (t : rH) (r n : Nat) : Prop := ∃ c σ1 τ1 σ2 N' b k s, c ≤ 3 ∧ k ≤ 1 ∧ s ≤ 6 ∧ exC X W as (WW σ (outc τ :: t)) = some (.inl (some (.int (nI c))), WW σ1 (outc τ1 :: t), k, s) ∧ exC X y as2 (WW σ1 (outc τ1 :: t)) = ans b (WW σ2 (outc τ1 :: t)) ∧ σ2 35 0 = nI c ∧ INV σ2 N' r (n + 1) ∧ (c = 0 → τ1 0 = b.toInt64)
def LWV (X : rX) (W : Nat) (as : List Value) (y : Nat) (as2 : List Value) (σ : Nat → Nat → Int32) (τ : Nat → Int64) (t : rH) (r n : Nat) : Prop := ∃ c σ1 σ2 N' k s, c ≤ 3 ∧ k ≤ 1 ∧ s ≤ 6 ∧ exC X W as (WW σ (outc τ :: t)) = some (.inl (some (.int (nI c))), WW σ1 (outc τ :: t), k, s) ∧ exC X y as2 (WW σ1 (outc τ :: t)) = ansV (WW σ2 (outc τ :: t)) ∧ σ2 35 0 = nI c ∧ INV σ2 N' r (n + 1)
theorem LWR_of (h : INV σ N r n) {cod : List Nat} {y y' W : Nat} {as as' as2 : List Value} (A : AGR X (outc τ :: t) cod y as y' as' σ r n) (hc : cod.length ≤ 3)
    (w0 : ∀ v σ1, exC X y as (WW σ (outc τ :: t)) = ans v (WW σ1 (outc τ :: t)) → exC X W as2 (WW σ (outc τ :: t)) = ans (nI 0) (WW σ1 (outc (vp_updL τ 0 v.toInt64) :: t)))
    (wE : ∀ j E, cod[j]? = some E → exC X y as (WW σ (outc τ :: t)) = exT E (WW σ (outc τ :: t)) → exC X W as2 (WW σ (outc τ :: t)) = some (.inl (some (.int (nI (j + 1)))), WW σ (outc τ :: t), 1, 6)) : LWR X W as2 y' as' σ τ t r n := by
  rcases A with ⟨j, E, hj, a1, a2⟩ | ⟨v, σ1, σ2, N', a1, a2, a3, a4⟩
  · have := (List.getElem?_eq_some_iff.mp hj).1
    exact ⟨j + 1, σ, τ, _, N, _, 1, 6, by omega, by omega, by omega, wE j E hj a1, a2, rfl, INV_mono (INV_thr h) (Nat.le_succ n), fun z => by omega⟩
  · exact ⟨0, σ1, _, σ2, N', v, 0, 0, by omega, by omega, by omega, w0 v σ1 a1, a2 _, a3, a4, fun _ => if_pos rfl⟩
theorem LWV_of (h : INV σ N r n) {cod : List Nat} {y y' W : Nat} {as as' as2 : List Value} (A : AGV X (outc τ :: t) cod y as y' as' σ r n) (hc : cod.length ≤ 3)
    (w0 : ∀ σ1, exC X y as (WW σ (outc τ :: t)) = ansV (WW σ1 (outc τ :: t)) → exC X W as2 (WW σ (outc τ :: t)) = ans (nI 0) (WW σ1 (outc τ :: t)))
    (wE : ∀ j E, cod[j]? = some E → exC X y as (WW σ (outc τ :: t)) = exT E (WW σ (outc τ :: t)) → exC X W as2 (WW σ (outc τ :: t)) = some (.inl (some (.int (nI (j + 1)))), WW σ (outc τ :: t), 1, 6)) : LWV X W as2 y' as' σ τ t r n := by
  rcases A with ⟨j, E, hj, a1, a2⟩ | ⟨σ1, σ2, N', a1, a2, a3, a4⟩
  · have := (List.getElem?_eq_some_iff.mp hj).1
    exact ⟨j + 1, σ, _, N, 1, 6, by omega, by omega, by omega, wE j E hj a1, a2, rfl, INV_mono (INV_thr h) (Nat.le_succ n)⟩
  · exact ⟨0, σ1, σ2, N', 0, 0, by omega, by omega, by omega, w0 σ1 a1, a2, a3, a4⟩
theorem lw_item (h : INV σ N r n) {a b : Int32} : LWR X 156 [.ref 0, .int a, .int b, .ref 57] 113 [.ref 35, .int a, .int b] σ τ t r n := by
  refine LWR_of h (a_item h a b) (by decide) (fun v σ1 i1 => ?_) (fun j E hj i1 => ?_)
  · rw [ent_156]
    simp (disch := omega) only [s156_0, s156_1, s156_2, s156_3, s156_4, s156_5, t156_1, t156_0, s156_8, s156_9, s156_10, s156_13, s156_15, s156_16, s156_17, s156_19, s156_20, s156_21, s156_22, c10, c100, c6, eq_self, bnd_l, bnd_r, Option.toList_some, Option.toList_none, List.cons_append, List.nil_append, Nat.add_zero, Nat.zero_add, ↓reduceIte, nI_add, nI_mul, nI_subI, lt_t, lt_f, eq_f, lt_m1, m1_lt, eq_m1, m1_eq, i1]
  · rcases j with _ | _ | j
    · cases hj
      rw [ent_156]
      simp (disch := omega) only [s156_0, s156_1, s156_2, s156_3, s156_4, s156_5, t156_1, t156_0, s156_8, s156_9, s156_10, s156_13, s156_15, s156_16, s156_17, s156_19, s156_20, s156_21, s156_22, c10, c100, c6, eq_self, bnd_l, bnd_r, Option.toList_some, Option.toList_none, List.cons_append, List.nil_append, Nat.add_zero, Nat.zero_add, ↓reduceIte, nI_add, nI_mul, nI_subI, lt_t, lt_f, eq_f, lt_m1, m1_lt, eq_m1, m1_eq, i1]
    · cases hj
      rw [ent_156]
      simp (disch := omega) only [s156_0, s156_1, s156_2, s156_3, s156_4, s156_5, t156_1, t156_0, s156_8, s156_9, s156_10, s156_13, s156_15, s156_16, s156_17, s156_19, s156_20, s156_21, s156_22, c10, c100, c6, eq_self, bnd_l, bnd_r, Option.toList_some, Option.toList_none, List.cons_append, List.nil_append, Nat.add_zero, Nat.zero_add, ↓reduceIte, nI_add, nI_mul, nI_subI, lt_t, lt_f, eq_f, lt_m1, m1_lt, eq_m1, m1_eq, i1]
    · exact absurd hj (by simp)
theorem lw_open (h : INV σ N r n) (hn : n ≤ 512) {a b : Int32} : LWR X 157 [.ref 0, .int a, .int b, .ref 57] 116 [.ref 35, .int a, .int b] σ τ t r n := by
  refine LWR_of h (a_open h hn a b) (by decide) (fun v σ1 i1 => ?_) (fun j E hj i1 => ?_)
  · rw [ent_157]
    simp (disch := omega) only [s157_0, s157_1, s157_2, s157_3, s157_4, s157_5, t157_2, t157_1, t157_0, s157_8, s157_9, s157_10, s157_13, s157_15, s157_16, s157_17, s157_19, s157_20, s157_21, s157_23, s157_24, s157_25, s157_26, c10, c100, c6, eq_self, bnd_l, bnd_r, Option.toList_some, Option.toList_none, List.cons_append, List.nil_append, Nat.add_zero, Nat.zero_add, ↓reduceIte, nI_add, nI_mul, nI_subI, lt_t, lt_f, eq_f, lt_m1, m1_lt, eq_m1, m1_eq, i1]
  · rcases j with _ | _ | _ | j
    · cases hj
      rw [ent_157]
      simp (disch := omega) only [s157_0, s157_1, s157_2, s157_3, s157_4, s157_5, t157_2, t157_1, t157_0, s157_8, s157_9, s157_10, s157_13, s157_15, s157_16, s157_17, s157_19, s157_20, s157_21, s157_23, s157_24, s157_25, s157_26, c10, c100, c6, eq_self, bnd_l, bnd_r, Option.toList_some, Option.toList_none, List.cons_append, List.nil_append, Nat.add_zero, Nat.zero_add, ↓reduceIte, nI_add, nI_mul, nI_subI, lt_t, lt_f, eq_f, lt_m1, m1_lt, eq_m1, m1_eq, i1]
    · cases hj
      rw [ent_157]
      simp (disch := omega) only [s157_0, s157_1, s157_2, s157_3, s157_4, s157_5, t157_2, t157_1, t157_0, s157_8, s157_9, s157_10, s157_13, s157_15, s157_16, s157_17, s157_19, s157_20, s157_21, s157_23, s157_24, s157_25, s157_26, c10, c100, c6, eq_self, bnd_l, bnd_r, Option.toList_some, Option.toList_none, List.cons_append, List.nil_append, Nat.add_zero, Nat.zero_add, ↓reduceIte, nI_add, nI_mul, nI_subI, lt_t, lt_f, eq_f, lt_m1, m1_lt, eq_m1, m1_eq, i1]
    · cases hj
      rw [ent_157]
      simp (disch := omega) only [s157_0, s157_1, s157_2, s157_3, s157_4, s157_5, t157_2, t157_1, t157_0, s157_8, s157_9, s157_10, s157_13, s157_15, s157_16, s157_17, s157_19, s157_20, s157_21, s157_23, s157_24, s157_25, s157_26, c10, c100, c6, eq_self, bnd_l, bnd_r, Option.toList_some, Option.toList_none, List.cons_append, List.nil_append, Nat.add_zero, Nat.zero_add, ↓reduceIte, nI_add, nI_mul, nI_subI, lt_t, lt_f, eq_f, lt_m1, m1_lt, eq_m1, m1_eq, i1]
    · exact absurd hj (by simp)
theorem lw_starts (h : INV σ N r n) {a b : Int32} : LWR X 158 [.ref 0, .int a, .int b, .ref 57] 117 [.ref 35, .int a, .int b] σ τ t r n := by
  refine LWR_of h (a_starts h a b) (by decide) (fun v σ1 i1 => ?_) (fun j E hj i1 => ?_)
  · rw [ent_158]
    simp (disch := omega) only [s158_0, s158_1, s158_2, s158_3, s158_4, s158_5, t158_2, t158_1, s158_8, s158_9, s158_10, s158_13, s158_15, s158_16, s158_17, s158_19, s158_20, s158_21, s158_22, c10, c100, c6, eq_self, bnd_l, bnd_r, Option.toList_some, Option.toList_none, List.cons_append, List.nil_append, Nat.add_zero, Nat.zero_add, ↓reduceIte, nI_add, nI_mul, nI_subI, lt_t, lt_f, eq_f, lt_m1, m1_lt, eq_m1, m1_eq, i1]
  · rcases j with _ | _ | j
    · cases hj
      rw [ent_158]
      simp (disch := omega) only [s158_0, s158_1, s158_2, s158_3, s158_4, s158_5, t158_2, t158_1, s158_8, s158_9, s158_10, s158_13, s158_15, s158_16, s158_17, s158_19, s158_20, s158_21, s158_22, c10, c100, c6, eq_self, bnd_l, bnd_r, Option.toList_some, Option.toList_none, List.cons_append, List.nil_append, Nat.add_zero, Nat.zero_add, ↓reduceIte, nI_add, nI_mul, nI_subI, lt_t, lt_f, eq_f, lt_m1, m1_lt, eq_m1, m1_eq, i1]
    · cases hj
      rw [ent_158]
      simp (disch := omega) only [s158_0, s158_1, s158_2, s158_3, s158_4, s158_5, t158_2, t158_1, s158_8, s158_9, s158_10, s158_13, s158_15, s158_16, s158_17, s158_19, s158_20, s158_21, s158_22, c10, c100, c6, eq_self, bnd_l, bnd_r, Option.toList_some, Option.toList_none, List.cons_append, List.nil_append, Nat.add_zero, Nat.zero_add, ↓reduceIte, nI_add, nI_mul, nI_subI, lt_t, lt_f, eq_f, lt_m1, m1_lt, eq_m1, m1_eq, i1]
    · exact absurd hj (by simp)
theorem lw_due (h : INV σ N r n) {a b : Int32} : LWR X 159 [.ref 0, .int a, .int b, .ref 57] 122 [.ref 35, .int a, .int b] σ τ t r n := by
  refine LWR_of h (a_due h a b) (by decide) (fun v σ1 i1 => ?_) (fun j E hj i1 => ?_)
  · rw [ent_159]
    simp (disch := omega) only [s159_0, s159_1, s159_2, s159_3, s159_4, s159_5, t159_2, t159_1, s159_8, s159_9, s159_10, s159_13, s159_15, s159_16, s159_17, s159_19, s159_20, s159_21, s159_22, c10, c100, c6, eq_self, bnd_l, bnd_r, Option.toList_some, Option.toList_none, List.cons_append, List.nil_append, Nat.add_zero, Nat.zero_add, ↓reduceIte, nI_add, nI_mul, nI_subI, lt_t, lt_f, eq_f, lt_m1, m1_lt, eq_m1, m1_eq, i1]
  · rcases j with _ | _ | j
    · cases hj
      rw [ent_159]
      simp (disch := omega) only [s159_0, s159_1, s159_2, s159_3, s159_4, s159_5, t159_2, t159_1, s159_8, s159_9, s159_10, s159_13, s159_15, s159_16, s159_17, s159_19, s159_20, s159_21, s159_22, c10, c100, c6, eq_self, bnd_l, bnd_r, Option.toList_some, Option.toList_none, List.cons_append, List.nil_append, Nat.add_zero, Nat.zero_add, ↓reduceIte, nI_add, nI_mul, nI_subI, lt_t, lt_f, eq_f, lt_m1, m1_lt, eq_m1, m1_eq, i1]
    · cases hj
      rw [ent_159]
      simp (disch := omega) only [s159_0, s159_1, s159_2, s159_3, s159_4, s159_5, t159_2, t159_1, s159_8, s159_9, s159_10, s159_13, s159_15, s159_16, s159_17, s159_19, s159_20, s159_21, s159_22, c10, c100, c6, eq_self, bnd_l, bnd_r, Option.toList_some, Option.toList_none, List.cons_append, List.nil_append, Nat.add_zero, Nat.zero_add, ↓reduceIte, nI_add, nI_mul, nI_subI, lt_t, lt_f, eq_f, lt_m1, m1_lt, eq_m1, m1_eq, i1]
    · exact absurd hj (by simp)
theorem lw_stamp (h : INV σ N r n) {a b c : Int32} : LWR X 160 [.ref 0, .int a, .int b, .int c, .ref 57] 123 [.ref 35, .int a, .int b, .int c] σ τ t r n := by
  refine LWR_of h (a_stamp h a b c) (by decide) (fun v σ1 i1 => ?_) (fun j E hj i1 => ?_)
  · rw [ent_160]
    simp (disch := omega) only [s160_0, s160_2, s160_3, s160_4, s160_5, s160_6, s160_7, t160_2, t160_1, t160_0, s160_10, s160_11, s160_12, s160_15, s160_17, s160_18, s160_19, s160_21, s160_22, s160_23, s160_25, s160_26, s160_27, s160_28, c10, c100, c6, eq_self, bnd_l, bnd_r, Option.toList_some, Option.toList_none, List.cons_append, List.nil_append, Nat.add_zero, Nat.zero_add, ↓reduceIte, nI_add, nI_mul, nI_subI, lt_t, lt_f, eq_f, lt_m1, m1_lt, eq_m1, m1_eq, i1]
  · rcases j with _ | _ | _ | j
    · cases hj
      rw [ent_160]
      simp (disch := omega) only [s160_0, s160_2, s160_3, s160_4, s160_5, s160_6, s160_7, t160_2, t160_1, t160_0, s160_10, s160_11, s160_12, s160_15, s160_17, s160_18, s160_19, s160_21, s160_22, s160_23, s160_25, s160_26, s160_27, s160_28, c10, c100, c6, eq_self, bnd_l, bnd_r, Option.toList_some, Option.toList_none, List.cons_append, List.nil_append, Nat.add_zero, Nat.zero_add, ↓reduceIte, nI_add, nI_mul, nI_subI, lt_t, lt_f, eq_f, lt_m1, m1_lt, eq_m1, m1_eq, i1]
    · cases hj
      rw [ent_160]
      simp (disch := omega) only [s160_0, s160_2, s160_3, s160_4, s160_5, s160_6, s160_7, t160_2, t160_1, t160_0, s160_10, s160_11, s160_12, s160_15, s160_17, s160_18, s160_19, s160_21, s160_22, s160_23, s160_25, s160_26, s160_27, s160_28, c10, c100, c6, eq_self, bnd_l, bnd_r, Option.toList_some, Option.toList_none, List.cons_append, List.nil_append, Nat.add_zero, Nat.zero_add, ↓reduceIte, nI_add, nI_mul, nI_subI, lt_t, lt_f, eq_f, lt_m1, m1_lt, eq_m1, m1_eq, i1]
    · cases hj
      rw [ent_160]
      simp (disch := omega) only [s160_0, s160_2, s160_3, s160_4, s160_5, s160_6, s160_7, t160_2, t160_1, t160_0, s160_10, s160_11, s160_12, s160_15, s160_17, s160_18, s160_19, s160_21, s160_22, s160_23, s160_25, s160_26, s160_27, s160_28, c10, c100, c6, eq_self, bnd_l, bnd_r, Option.toList_some, Option.toList_none, List.cons_append, List.nil_append, Nat.add_zero, Nat.zero_add, ↓reduceIte, nI_add, nI_mul, nI_subI, lt_t, lt_f, eq_f, lt_m1, m1_lt, eq_m1, m1_eq, i1]
    · exact absurd hj (by simp)
theorem lw_delay (h : INV σ N r n) {a b c : Int32} : LWR X 161 [.ref 0, .int a, .int b, .int c, .ref 57] 124 [.ref 35, .int a, .int b, .int c] σ τ t r n := by
  refine LWR_of h (a_delay h a b c) (by decide) (fun v σ1 i1 => ?_) (fun j E hj i1 => ?_)
  · rw [ent_161]
    simp (disch := omega) only [s161_0, s161_2, s161_3, s161_4, s161_5, s161_6, s161_7, t161_2, t161_1, t161_0, s161_10, s161_11, s161_12, s161_15, s161_17, s161_18, s161_19, s161_21, s161_22, s161_23, s161_25, s161_26, s161_27, s161_28, c10, c100, c6, eq_self, bnd_l, bnd_r, Option.toList_some, Option.toList_none, List.cons_append, List.nil_append, Nat.add_zero, Nat.zero_add, ↓reduceIte, nI_add, nI_mul, nI_subI, lt_t, lt_f, eq_f, lt_m1, m1_lt, eq_m1, m1_eq, i1]
  · rcases j with _ | _ | _ | j
    · cases hj
      rw [ent_161]
      simp (disch := omega) only [s161_0, s161_2, s161_3, s161_4, s161_5, s161_6, s161_7, t161_2, t161_1, t161_0, s161_10, s161_11, s161_12, s161_15, s161_17, s161_18, s161_19, s161_21, s161_22, s161_23, s161_25, s161_26, s161_27, s161_28, c10, c100, c6, eq_self, bnd_l, bnd_r, Option.toList_some, Option.toList_none, List.cons_append, List.nil_append, Nat.add_zero, Nat.zero_add, ↓reduceIte, nI_add, nI_mul, nI_subI, lt_t, lt_f, eq_f, lt_m1, m1_lt, eq_m1, m1_eq, i1]
    · cases hj
      rw [ent_161]
      simp (disch := omega) only [s161_0, s161_2, s161_3, s161_4, s161_5, s161_6, s161_7, t161_2, t161_1, t161_0, s161_10, s161_11, s161_12, s161_15, s161_17, s161_18, s161_19, s161_21, s161_22, s161_23, s161_25, s161_26, s161_27, s161_28, c10, c100, c6, eq_self, bnd_l, bnd_r, Option.toList_some, Option.toList_none, List.cons_append, List.nil_append, Nat.add_zero, Nat.zero_add, ↓reduceIte, nI_add, nI_mul, nI_subI, lt_t, lt_f, eq_f, lt_m1, m1_lt, eq_m1, m1_eq, i1]
    · cases hj
      rw [ent_161]
      simp (disch := omega) only [s161_0, s161_2, s161_3, s161_4, s161_5, s161_6, s161_7, t161_2, t161_1, t161_0, s161_10, s161_11, s161_12, s161_15, s161_17, s161_18, s161_19, s161_21, s161_22, s161_23, s161_25, s161_26, s161_27, s161_28, c10, c100, c6, eq_self, bnd_l, bnd_r, Option.toList_some, Option.toList_none, List.cons_append, List.nil_append, Nat.add_zero, Nat.zero_add, ↓reduceIte, nI_add, nI_mul, nI_subI, lt_t, lt_f, eq_f, lt_m1, m1_lt, eq_m1, m1_eq, i1]
    · exact absurd hj (by simp)
theorem lw_held (h : INV σ N r n) {a b c : Int32} (hc : c = nI 0 ∨ c = nI 1) : LWR X 163 [.ref 0, .int a, .int b, .int c, .ref 57] 134 [.ref 35, .int a, .int b, .int c] σ τ t r n := by
  refine LWR_of h (a_held h a b hc) (by decide) (fun v σ1 i1 => ?_) (fun j E hj i1 => ?_)
  · rw [ent_163]
    simp (disch := omega) only [s163_0, s163_2, s163_3, s163_4, s163_5, s163_6, s163_7, t163_2, t163_1, t163_0, s163_10, s163_11, s163_12, s163_15, s163_17, s163_18, s163_19, s163_21, s163_22, s163_23, s163_25, s163_26, s163_27, s163_28, c10, c100, c6, eq_self, bnd_l, bnd_r, Option.toList_some, Option.toList_none, List.cons_append, List.nil_append, Nat.add_zero, Nat.zero_add, ↓reduceIte, nI_add, nI_mul, nI_subI, lt_t, lt_f, eq_f, lt_m1, m1_lt, eq_m1, m1_eq, i1]
  · rcases j with _ | _ | _ | j
    · cases hj
      rw [ent_163]
      simp (disch := omega) only [s163_0, s163_2, s163_3, s163_4, s163_5, s163_6, s163_7, t163_2, t163_1, t163_0, s163_10, s163_11, s163_12, s163_15, s163_17, s163_18, s163_19, s163_21, s163_22, s163_23, s163_25, s163_26, s163_27, s163_28, c10, c100, c6, eq_self, bnd_l, bnd_r, Option.toList_some, Option.toList_none, List.cons_append, List.nil_append, Nat.add_zero, Nat.zero_add, ↓reduceIte, nI_add, nI_mul, nI_subI, lt_t, lt_f, eq_f, lt_m1, m1_lt, eq_m1, m1_eq, i1]
    · cases hj
      rw [ent_163]
      simp (disch := omega) only [s163_0, s163_2, s163_3, s163_4, s163_5, s163_6, s163_7, t163_2, t163_1, t163_0, s163_10, s163_11, s163_12, s163_15, s163_17, s163_18, s163_19, s163_21, s163_22, s163_23, s163_25, s163_26, s163_27, s163_28, c10, c100, c6, eq_self, bnd_l, bnd_r, Option.toList_some, Option.toList_none, List.cons_append, List.nil_append, Nat.add_zero, Nat.zero_add, ↓reduceIte, nI_add, nI_mul, nI_subI, lt_t, lt_f, eq_f, lt_m1, m1_lt, eq_m1, m1_eq, i1]
    · cases hj
      rw [ent_163]
      simp (disch := omega) only [s163_0, s163_2, s163_3, s163_4, s163_5, s163_6, s163_7, t163_2, t163_1, t163_0, s163_10, s163_11, s163_12, s163_15, s163_17, s163_18, s163_19, s163_21, s163_22, s163_23, s163_25, s163_26, s163_27, s163_28, c10, c100, c6, eq_self, bnd_l, bnd_r, Option.toList_some, Option.toList_none, List.cons_append, List.nil_append, Nat.add_zero, Nat.zero_add, ↓reduceIte, nI_add, nI_mul, nI_subI, lt_t, lt_f, eq_f, lt_m1, m1_lt, eq_m1, m1_eq, i1]
    · exact absurd hj (by simp)
theorem lw_award (h : INV σ N r n) {a b c : Int32} : LWR X 164 [.ref 0, .int a, .int b, .int c, .ref 57] 135 [.ref 35, .int a, .int b, .int c] σ τ t r n := by
  refine LWR_of h (a_award h a b c) (by decide) (fun v σ1 i1 => ?_) (fun j E hj i1 => ?_)
  · rw [ent_164]
    simp (disch := omega) only [s164_0, s164_2, s164_3, s164_4, s164_5, s164_6, s164_7, t164_2, t164_1, t164_0, s164_10, s164_11, s164_12, s164_15, s164_17, s164_18, s164_19, s164_21, s164_22, s164_23, s164_25, s164_26, s164_27, s164_28, c10, c100, c6, eq_self, bnd_l, bnd_r, Option.toList_some, Option.toList_none, List.cons_append, List.nil_append, Nat.add_zero, Nat.zero_add, ↓reduceIte, nI_add, nI_mul, nI_subI, lt_t, lt_f, eq_f, lt_m1, m1_lt, eq_m1, m1_eq, i1]
  · rcases j with _ | _ | _ | j
    · cases hj
      rw [ent_164]
      simp (disch := omega) only [s164_0, s164_2, s164_3, s164_4, s164_5, s164_6, s164_7, t164_2, t164_1, t164_0, s164_10, s164_11, s164_12, s164_15, s164_17, s164_18, s164_19, s164_21, s164_22, s164_23, s164_25, s164_26, s164_27, s164_28, c10, c100, c6, eq_self, bnd_l, bnd_r, Option.toList_some, Option.toList_none, List.cons_append, List.nil_append, Nat.add_zero, Nat.zero_add, ↓reduceIte, nI_add, nI_mul, nI_subI, lt_t, lt_f, eq_f, lt_m1, m1_lt, eq_m1, m1_eq, i1]
    · cases hj
      rw [ent_164]
      simp (disch := omega) only [s164_0, s164_2, s164_3, s164_4, s164_5, s164_6, s164_7, t164_2, t164_1, t164_0, s164_10, s164_11, s164_12, s164_15, s164_17, s164_18, s164_19, s164_21, s164_22, s164_23, s164_25, s164_26, s164_27, s164_28, c10, c100, c6, eq_self, bnd_l, bnd_r, Option.toList_some, Option.toList_none, List.cons_append, List.nil_append, Nat.add_zero, Nat.zero_add, ↓reduceIte, nI_add, nI_mul, nI_subI, lt_t, lt_f, eq_f, lt_m1, m1_lt, eq_m1, m1_eq, i1]
    · cases hj
      rw [ent_164]
      simp (disch := omega) only [s164_0, s164_2, s164_3, s164_4, s164_5, s164_6, s164_7, t164_2, t164_1, t164_0, s164_10, s164_11, s164_12, s164_15, s164_17, s164_18, s164_19, s164_21, s164_22, s164_23, s164_25, s164_26, s164_27, s164_28, c10, c100, c6, eq_self, bnd_l, bnd_r, Option.toList_some, Option.toList_none, List.cons_append, List.nil_append, Nat.add_zero, Nat.zero_add, ↓reduceIte, nI_add, nI_mul, nI_subI, lt_t, lt_f, eq_f, lt_m1, m1_lt, eq_m1, m1_eq, i1]
    · exact absurd hj (by simp)
theorem lw_time (h : INV σ N r n) {a b : Int32} : LWR X 165 [.ref 0, .int a, .int b, .ref 57] 136 [.ref 35, .int a, .int b] σ τ t r n := by
  refine LWR_of h (a_time h a b) (by decide) (fun v σ1 i1 => ?_) (fun j E hj i1 => ?_)
  · rw [ent_165]
    simp (disch := omega) only [s165_0, s165_1, s165_2, s165_3, s165_4, s165_5, t165_2, t165_1, s165_8, s165_9, s165_10, s165_13, s165_15, s165_16, s165_17, s165_19, s165_20, s165_21, s165_22, c10, c100, c6, eq_self, bnd_l, bnd_r, Option.toList_some, Option.toList_none, List.cons_append, List.nil_append, Nat.add_zero, Nat.zero_add, ↓reduceIte, nI_add, nI_mul, nI_subI, lt_t, lt_f, eq_f, lt_m1, m1_lt, eq_m1, m1_eq, i1]
  · rcases j with _ | _ | j
    · cases hj
      rw [ent_165]
      simp (disch := omega) only [s165_0, s165_1, s165_2, s165_3, s165_4, s165_5, t165_2, t165_1, s165_8, s165_9, s165_10, s165_13, s165_15, s165_16, s165_17, s165_19, s165_20, s165_21, s165_22, c10, c100, c6, eq_self, bnd_l, bnd_r, Option.toList_some, Option.toList_none, List.cons_append, List.nil_append, Nat.add_zero, Nat.zero_add, ↓reduceIte, nI_add, nI_mul, nI_subI, lt_t, lt_f, eq_f, lt_m1, m1_lt, eq_m1, m1_eq, i1]
    · cases hj
      rw [ent_165]
      simp (disch := omega) only [s165_0, s165_1, s165_2, s165_3, s165_4, s165_5, t165_2, t165_1, s165_8, s165_9, s165_10, s165_13, s165_15, s165_16, s165_17, s165_19, s165_20, s165_21, s165_22, c10, c100, c6, eq_self, bnd_l, bnd_r, Option.toList_some, Option.toList_none, List.cons_append, List.nil_append, Nat.add_zero, Nat.zero_add, ↓reduceIte, nI_add, nI_mul, nI_subI, lt_t, lt_f, eq_f, lt_m1, m1_lt, eq_m1, m1_eq, i1]
    · exact absurd hj (by simp)
theorem lw_allocate (h : INV σ N r n) {a b : Int32} : LWR X 166 [.ref 0, .int a, .int b, .ref 57] 137 [.ref 35, .int a, .int b] σ τ t r n := by
  refine LWR_of h (a_alloc h a b) (by decide) (fun v σ1 i1 => ?_) (fun j E hj i1 => ?_)
  · rw [ent_166]
    simp (disch := omega) only [s166_0, s166_1, s166_2, s166_3, s166_4, s166_5, t166_2, t166_1, t166_0, s166_8, s166_9, s166_10, s166_13, s166_15, s166_16, s166_17, s166_19, s166_20, s166_21, s166_23, s166_24, s166_25, s166_26, c10, c100, c6, eq_self, bnd_l, bnd_r, Option.toList_some, Option.toList_none, List.cons_append, List.nil_append, Nat.add_zero, Nat.zero_add, ↓reduceIte, nI_add, nI_mul, nI_subI, lt_t, lt_f, eq_f, lt_m1, m1_lt, eq_m1, m1_eq, i1]
  · rcases j with _ | _ | _ | j
    · cases hj
      rw [ent_166]
      simp (disch := omega) only [s166_0, s166_1, s166_2, s166_3, s166_4, s166_5, t166_2, t166_1, t166_0, s166_8, s166_9, s166_10, s166_13, s166_15, s166_16, s166_17, s166_19, s166_20, s166_21, s166_23, s166_24, s166_25, s166_26, c10, c100, c6, eq_self, bnd_l, bnd_r, Option.toList_some, Option.toList_none, List.cons_append, List.nil_append, Nat.add_zero, Nat.zero_add, ↓reduceIte, nI_add, nI_mul, nI_subI, lt_t, lt_f, eq_f, lt_m1, m1_lt, eq_m1, m1_eq, i1]
    · cases hj
      rw [ent_166]
      simp (disch := omega) only [s166_0, s166_1, s166_2, s166_3, s166_4, s166_5, t166_2, t166_1, t166_0, s166_8, s166_9, s166_10, s166_13, s166_15, s166_16, s166_17, s166_19, s166_20, s166_21, s166_23, s166_24, s166_25, s166_26, c10, c100, c6, eq_self, bnd_l, bnd_r, Option.toList_some, Option.toList_none, List.cons_append, List.nil_append, Nat.add_zero, Nat.zero_add, ↓reduceIte, nI_add, nI_mul, nI_subI, lt_t, lt_f, eq_f, lt_m1, m1_lt, eq_m1, m1_eq, i1]
    · cases hj
      rw [ent_166]
      simp (disch := omega) only [s166_0, s166_1, s166_2, s166_3, s166_4, s166_5, t166_2, t166_1, t166_0, s166_8, s166_9, s166_10, s166_13, s166_15, s166_16, s166_17, s166_19, s166_20, s166_21, s166_23, s166_24, s166_25, s166_26, c10, c100, c6, eq_self, bnd_l, bnd_r, Option.toList_some, Option.toList_none, List.cons_append, List.nil_append, Nat.add_zero, Nat.zero_add, ↓reduceIte, nI_add, nI_mul, nI_subI, lt_t, lt_f, eq_f, lt_m1, m1_lt, eq_m1, m1_eq, i1]
    · exact absurd hj (by simp)
theorem lw_seen (h : INV σ N r n) {a b : Int32} : LWR X 167 [.ref 0, .int a, .int b, .ref 57] 138 [.ref 35, .int a, .int b] σ τ t r n := by
  refine LWR_of h (a_seen h a b) (by decide) (fun v σ1 i1 => ?_) (fun j E hj i1 => ?_)
  · rw [ent_167]
    simp (disch := omega) only [s167_0, s167_1, s167_2, s167_3, s167_4, s167_5, t167_2, t167_1, s167_8, s167_9, s167_10, s167_13, s167_15, s167_16, s167_17, s167_19, s167_20, s167_21, s167_22, c10, c100, c6, eq_self, bnd_l, bnd_r, Option.toList_some, Option.toList_none, List.cons_append, List.nil_append, Nat.add_zero, Nat.zero_add, ↓reduceIte, nI_add, nI_mul, nI_subI, lt_t, lt_f, eq_f, lt_m1, m1_lt, eq_m1, m1_eq, i1]
  · rcases j with _ | _ | j
    · cases hj
      rw [ent_167]
      simp (disch := omega) only [s167_0, s167_1, s167_2, s167_3, s167_4, s167_5, t167_2, t167_1, s167_8, s167_9, s167_10, s167_13, s167_15, s167_16, s167_17, s167_19, s167_20, s167_21, s167_22, c10, c100, c6, eq_self, bnd_l, bnd_r, Option.toList_some, Option.toList_none, List.cons_append, List.nil_append, Nat.add_zero, Nat.zero_add, ↓reduceIte, nI_add, nI_mul, nI_subI, lt_t, lt_f, eq_f, lt_m1, m1_lt, eq_m1, m1_eq, i1]
    · cases hj
      rw [ent_167]
      simp (disch := omega) only [s167_0, s167_1, s167_2, s167_3, s167_4, s167_5, t167_2, t167_1, s167_8, s167_9, s167_10, s167_13, s167_15, s167_16, s167_17, s167_19, s167_20, s167_21, s167_22, c10, c100, c6, eq_self, bnd_l, bnd_r, Option.toList_some, Option.toList_none, List.cons_append, List.nil_append, Nat.add_zero, Nat.zero_add, ↓reduceIte, nI_add, nI_mul, nI_subI, lt_t, lt_f, eq_f, lt_m1, m1_lt, eq_m1, m1_eq, i1]
    · exact absurd hj (by simp)
theorem lw_car (h : INV σ N r n) (hn : n ≤ 512) {a b : Int32} : LWR X 169 [.ref 0, .int a, .int b, .ref 57] 146 [.ref 35, .int a, .int b] σ τ t r n := by
  refine LWR_of h (a_car h hn a b) (by decide) (fun v σ1 i1 => ?_) (fun j E hj i1 => ?_)
  · rw [ent_169]
    simp (disch := omega) only [s169_0, s169_1, s169_2, s169_3, s169_4, s169_5, t169_2, t169_1, s169_8, s169_9, s169_10, s169_13, s169_15, s169_16, s169_17, s169_19, s169_20, s169_21, s169_22, c10, c100, c6, eq_self, bnd_l, bnd_r, Option.toList_some, Option.toList_none, List.cons_append, List.nil_append, Nat.add_zero, Nat.zero_add, ↓reduceIte, nI_add, nI_mul, nI_subI, lt_t, lt_f, eq_f, lt_m1, m1_lt, eq_m1, m1_eq, i1]
  · rcases j with _ | _ | j
    · cases hj
      rw [ent_169]
      simp (disch := omega) only [s169_0, s169_1, s169_2, s169_3, s169_4, s169_5, t169_2, t169_1, s169_8, s169_9, s169_10, s169_13, s169_15, s169_16, s169_17, s169_19, s169_20, s169_21, s169_22, c10, c100, c6, eq_self, bnd_l, bnd_r, Option.toList_some, Option.toList_none, List.cons_append, List.nil_append, Nat.add_zero, Nat.zero_add, ↓reduceIte, nI_add, nI_mul, nI_subI, lt_t, lt_f, eq_f, lt_m1, m1_lt, eq_m1, m1_eq, i1]
    · cases hj
      rw [ent_169]
      simp (disch := omega) only [s169_0, s169_1, s169_2, s169_3, s169_4, s169_5, t169_2, t169_1, s169_8, s169_9, s169_10, s169_13, s169_15, s169_16, s169_17, s169_19, s169_20, s169_21, s169_22, c10, c100, c6, eq_self, bnd_l, bnd_r, Option.toList_some, Option.toList_none, List.cons_append, List.nil_append, Nat.add_zero, Nat.zero_add, ↓reduceIte, nI_add, nI_mul, nI_subI, lt_t, lt_f, eq_f, lt_m1, m1_lt, eq_m1, m1_eq, i1]
    · exact absurd hj (by simp)
theorem lw_totalAnew (h : INV σ N r n) {a : Int32} : LWR X 170 [.ref 0, .int a, .ref 57] 147 [.ref 35, .int a] σ τ t r n := by
  refine LWR_of h (a_anew h a) (by decide) (fun v σ1 i1 => ?_) (fun j E hj i1 => ?_)
  · rw [ent_170]
    simp (disch := omega) only [s170_0, s170_1, s170_2, s170_3, s170_4, t170_2, s170_7, s170_8, s170_9, s170_12, s170_13, s170_14, s170_15, s170_16, c10, c100, c6, eq_self, bnd_l, bnd_r, Option.toList_some, Option.toList_none, List.cons_append, List.nil_append, Nat.add_zero, Nat.zero_add, ↓reduceIte, nI_add, nI_mul, nI_subI, lt_t, lt_f, eq_f, lt_m1, m1_lt, eq_m1, m1_eq, i1]
  · rcases j with _ | j
    · cases hj
      rw [ent_170]
      simp (disch := omega) only [s170_0, s170_1, s170_2, s170_3, s170_4, t170_2, s170_7, s170_8, s170_9, s170_12, s170_13, s170_14, s170_15, s170_16, c10, c100, c6, eq_self, bnd_l, bnd_r, Option.toList_some, Option.toList_none, List.cons_append, List.nil_append, Nat.add_zero, Nat.zero_add, ↓reduceIte, nI_add, nI_mul, nI_subI, lt_t, lt_f, eq_f, lt_m1, m1_lt, eq_m1, m1_eq, i1]
    · exact absurd hj (by simp)
theorem lw_ranked (h : INV σ N r n) (hn : n ≤ 512) {a : Int32} : LWR X 171 [.ref 0, .int a, .ref 57] 148 [.ref 35, .int a] σ τ t r n := by
  refine LWR_of h (a_ranked h hn a) (by decide) (fun v σ1 i1 => ?_) (fun j E hj i1 => ?_)
  · rw [ent_171]
    simp (disch := omega) only [s171_0, s171_1, s171_2, s171_3, s171_4, t171_1, s171_7, s171_8, s171_9, s171_12, s171_13, s171_14, s171_15, s171_16, c10, c100, c6, eq_self, bnd_l, bnd_r, Option.toList_some, Option.toList_none, List.cons_append, List.nil_append, Nat.add_zero, Nat.zero_add, ↓reduceIte, nI_add, nI_mul, nI_subI, lt_t, lt_f, eq_f, lt_m1, m1_lt, eq_m1, m1_eq, i1]
  · rcases j with _ | j
    · cases hj
      rw [ent_171]
      simp (disch := omega) only [s171_0, s171_1, s171_2, s171_3, s171_4, t171_1, s171_7, s171_8, s171_9, s171_12, s171_13, s171_14, s171_15, s171_16, c10, c100, c6, eq_self, bnd_l, bnd_r, Option.toList_some, Option.toList_none, List.cons_append, List.nil_append, Nat.add_zero, Nat.zero_add, ↓reduceIte, nI_add, nI_mul, nI_subI, lt_t, lt_f, eq_f, lt_m1, m1_lt, eq_m1, m1_eq, i1]
    · exact absurd hj (by simp)
theorem lw_points (h : INV σ N r n) {a : Int32} : LWR X 173 [.ref 0, .int a, .ref 57] 152 [.ref 35, .int a] σ τ t r n := by
  refine LWR_of h (a_points h a) (by decide) (fun v σ1 i1 => ?_) (fun j E hj i1 => ?_)
  · rw [ent_173]
    simp (disch := omega) only [s173_0, s173_1, s173_2, s173_3, s173_4, t173_2, s173_7, s173_8, s173_9, s173_12, s173_13, s173_14, s173_15, s173_16, c10, c100, c6, eq_self, bnd_l, bnd_r, Option.toList_some, Option.toList_none, List.cons_append, List.nil_append, Nat.add_zero, Nat.zero_add, ↓reduceIte, nI_add, nI_mul, nI_subI, lt_t, lt_f, eq_f, lt_m1, m1_lt, eq_m1, m1_eq, i1]
  · rcases j with _ | j
    · cases hj
      rw [ent_173]
      simp (disch := omega) only [s173_0, s173_1, s173_2, s173_3, s173_4, t173_2, s173_7, s173_8, s173_9, s173_12, s173_13, s173_14, s173_15, s173_16, c10, c100, c6, eq_self, bnd_l, bnd_r, Option.toList_some, Option.toList_none, List.cons_append, List.nil_append, Nat.add_zero, Nat.zero_add, ↓reduceIte, nI_add, nI_mul, nI_subI, lt_t, lt_f, eq_f, lt_m1, m1_lt, eq_m1, m1_eq, i1]
    · exact absurd hj (by simp)
theorem lw_table (h : INV σ N r n) {a : Int32} : LWR X 174 [.ref 0, .int a, .ref 57] 155 [.ref 35, .int a] σ τ t r n := by
  refine LWR_of h (a_table h a) (by decide) (fun v σ1 i1 => ?_) (fun j E hj i1 => ?_)
  · rw [ent_174]
    simp (disch := omega) only [s174_0, s174_1, s174_2, s174_3, s174_4, t174_1, s174_7, s174_8, s174_9, s174_12, s174_13, s174_14, s174_15, s174_16, c10, c100, c6, eq_self, bnd_l, bnd_r, Option.toList_some, Option.toList_none, List.cons_append, List.nil_append, Nat.add_zero, Nat.zero_add, ↓reduceIte, nI_add, nI_mul, nI_subI, lt_t, lt_f, eq_f, lt_m1, m1_lt, eq_m1, m1_eq, i1]
  · rcases j with _ | j
    · cases hj
      rw [ent_174]
      simp (disch := omega) only [s174_0, s174_1, s174_2, s174_3, s174_4, t174_1, s174_7, s174_8, s174_9, s174_12, s174_13, s174_14, s174_15, s174_16, c10, c100, c6, eq_self, bnd_l, bnd_r, Option.toList_some, Option.toList_none, List.cons_append, List.nil_append, Nat.add_zero, Nat.zero_add, ↓reduceIte, nI_add, nI_mul, nI_subI, lt_t, lt_f, eq_f, lt_m1, m1_lt, eq_m1, m1_eq, i1]
    · exact absurd hj (by simp)
theorem lw_finish (h : INV σ N r n) {a b c d : Int32} (hc : c = nI 0 ∨ c = nI 1) : LWV X 162 [.ref 0, .int a, .int b, .int c, .int d] 133 [.ref 35, .int a, .int b, .int c, .int d] σ τ t r n := by
  refine LWV_of h (a_finish h a b d hc) (by decide) (fun σ1 i1 => ?_) (fun j E hj i1 => ?_)
  · rw [ent_162]
    simp (disch := omega) only [s162_0, s162_1, s162_2, s162_3, s162_4, s162_6, t162_2, t162_1, t162_0, s162_9, s162_12, s162_14, s162_15, s162_16, s162_18, s162_19, s162_20, s162_22, s162_23, s162_24, s162_25, c10, c100, c6, eq_self, bnd_l, bnd_r, Option.toList_some, Option.toList_none, List.cons_append, List.nil_append, Nat.add_zero, Nat.zero_add, ↓reduceIte, nI_add, nI_mul, nI_subI, lt_t, lt_f, eq_f, lt_m1, m1_lt, eq_m1, m1_eq, i1]
  · rcases j with _ | _ | _ | j
    · cases hj
      rw [ent_162]
      simp (disch := omega) only [s162_0, s162_1, s162_2, s162_3, s162_4, s162_6, t162_2, t162_1, t162_0, s162_9, s162_12, s162_14, s162_15, s162_16, s162_18, s162_19, s162_20, s162_22, s162_23, s162_24, s162_25, c10, c100, c6, eq_self, bnd_l, bnd_r, Option.toList_some, Option.toList_none, List.cons_append, List.nil_append, Nat.add_zero, Nat.zero_add, ↓reduceIte, nI_add, nI_mul, nI_subI, lt_t, lt_f, eq_f, lt_m1, m1_lt, eq_m1, m1_eq, i1]
    · cases hj
      rw [ent_162]
      simp (disch := omega) only [s162_0, s162_1, s162_2, s162_3, s162_4, s162_6, t162_2, t162_1, t162_0, s162_9, s162_12, s162_14, s162_15, s162_16, s162_18, s162_19, s162_20, s162_22, s162_23, s162_24, s162_25, c10, c100, c6, eq_self, bnd_l, bnd_r, Option.toList_some, Option.toList_none, List.cons_append, List.nil_append, Nat.add_zero, Nat.zero_add, ↓reduceIte, nI_add, nI_mul, nI_subI, lt_t, lt_f, eq_f, lt_m1, m1_lt, eq_m1, m1_eq, i1]
    · cases hj
      rw [ent_162]
      simp (disch := omega) only [s162_0, s162_1, s162_2, s162_3, s162_4, s162_6, t162_2, t162_1, t162_0, s162_9, s162_12, s162_14, s162_15, s162_16, s162_18, s162_19, s162_20, s162_22, s162_23, s162_24, s162_25, c10, c100, c6, eq_self, bnd_l, bnd_r, Option.toList_some, Option.toList_none, List.cons_append, List.nil_append, Nat.add_zero, Nat.zero_add, ↓reduceIte, nI_add, nI_mul, nI_subI, lt_t, lt_f, eq_f, lt_m1, m1_lt, eq_m1, m1_eq, i1]
    · exact absurd hj (by simp)
theorem lw_retire (h : INV σ N r n) {a b : Int32} (hb : b = nI 0 ∨ b = nI 1) : LWV X 168 [.ref 0, .int a, .int b] 139 [.ref 35, .int a, .int b] σ τ t r n := by
  refine LWV_of h (a_retire h a hb) (by decide) (fun σ1 i1 => ?_) (fun j E hj i1 => ?_)
  · rw [ent_168]
    simp (disch := omega) only [s168_0, s168_1, s168_2, s168_3, t168_2, t168_0, s168_6, s168_9, s168_10, s168_11, s168_12, s168_13, s168_14, s168_15, s168_16, c10, c100, c6, eq_self, bnd_l, bnd_r, Option.toList_some, Option.toList_none, List.cons_append, List.nil_append, Nat.add_zero, Nat.zero_add, ↓reduceIte, nI_add, nI_mul, nI_subI, lt_t, lt_f, eq_f, lt_m1, m1_lt, eq_m1, m1_eq, i1]
  · rcases j with _ | _ | j
    · cases hj
      rw [ent_168]
      simp (disch := omega) only [s168_0, s168_1, s168_2, s168_3, t168_2, t168_0, s168_6, s168_9, s168_10, s168_11, s168_12, s168_13, s168_14, s168_15, s168_16, c10, c100, c6, eq_self, bnd_l, bnd_r, Option.toList_some, Option.toList_none, List.cons_append, List.nil_append, Nat.add_zero, Nat.zero_add, ↓reduceIte, nI_add, nI_mul, nI_subI, lt_t, lt_f, eq_f, lt_m1, m1_lt, eq_m1, m1_eq, i1]
    · cases hj
      rw [ent_168]
      simp (disch := omega) only [s168_0, s168_1, s168_2, s168_3, t168_2, t168_0, s168_6, s168_9, s168_10, s168_11, s168_12, s168_13, s168_14, s168_15, s168_16, c10, c100, c6, eq_self, bnd_l, bnd_r, Option.toList_some, Option.toList_none, List.cons_append, List.nil_append, Nat.add_zero, Nat.zero_add, ↓reduceIte, nI_add, nI_mul, nI_subI, lt_t, lt_f, eq_f, lt_m1, m1_lt, eq_m1, m1_eq, i1]
    · exact absurd hj (by simp)
end WRP
