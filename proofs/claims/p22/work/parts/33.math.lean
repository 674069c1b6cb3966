/-! COUNTING, ORDERS -/
theorem cnF_mono {S T : Nat → Prop} : ∀ n, (∀ o, o < n → S o → T o) → cnF S n ≤ cnF T n
  | 0, _ => Nat.le_refl _
  | n + 1, h => by
    have ih := cnF_mono n fun o ho => h o (by omega)
    by_cases h1 : S n
    · rw [cnF_t h1, cnF_t (h n (by omega) h1)]; omega
    · rw [cnF_f h1]
      by_cases h2 : T n
      · rw [cnF_t h2]; omega
      · rw [cnF_f h2]; exact ih
theorem cnF_congr {S T : Nat → Prop} {n : Nat} (h : ∀ o, o < n → (S o ↔ T o)) : cnF S n = cnF T n :=
  Nat.le_antisymm (cnF_mono n fun o ho => (h o ho).mp) (cnF_mono n fun o ho => (h o ho).mpr)
theorem cnF_lt {S T : Nat → Prop} {a : Nat} : ∀ n, (∀ o, o < n → S o → T o) → a < n → T a → ¬ S a → cnF S n < cnF T n
  | 0, _, ha, _, _ => by omega
  | n + 1, h, ha, ht, hs => by
    by_cases e : a = n
    · subst e
      rw [cnF_t ht, cnF_f hs]
      have := cnF_mono (S := S) (T := T) a fun o ho => h o (by omega)
      omega
    · have ih := cnF_lt (S := S) (T := T) (a := a) n (fun o ho => h o (by omega)) (by omega) ht hs
      by_cases h1 : S n
      · rw [cnF_t h1, cnF_t (h n (by omega) h1)]; omega
      · rw [cnF_f h1]
        by_cases h2 : T n
        · rw [cnF_t h2]; omega
        · rw [cnF_f h2]; exact ih
theorem cnF_none {S : Nat → Prop} : ∀ n, (∀ o, o < n → ¬ S o) → cnF S n = 0
  | 0, _ => rfl
  | n + 1, h => by rw [cnF_f (h n (by omega)), cnF_none n fun o ho => h o (by omega)]
theorem cnF_one {S : Nat → Prop} : ∀ n, (∀ a b, a < n → b < n → S a → S b → a = b) → cnF S n ≤ 1
  | 0, _ => Nat.zero_le _
  | n + 1, h => by
    by_cases h1 : S n
    · rw [cnF_t h1, cnF_none n fun o ho h2 => absurd (h o n (by omega) (by omega) h2 h1) (by omega)]
      omega
    · rw [cnF_f h1]
      exact cnF_one n fun a b ha hb => h a b (by omega) (by omega)
theorem cnF_split {P : Nat → Prop} {R : Nat → Nat} {p : Nat} : ∀ n, cnF (fun c => P c ∧ R c < p + 1) n = cnF (fun c => P c ∧ R c < p) n + cnF (fun c => P c ∧ R c = p) n
  | 0 => rfl
  | n + 1 => by
    have ih := cnF_split (P := P) (R := R) (p := p) n
    by_cases hp : P n
    · by_cases h1 : R n < p
      · rw [cnF_t ⟨hp, by omega⟩, cnF_t ⟨hp, h1⟩, cnF_f (fun q => by omega), ih]; omega
      · by_cases h2 : R n = p
        · rw [cnF_t ⟨hp, by omega⟩, cnF_f (fun q => by omega), cnF_t ⟨hp, h2⟩, ih]; omega
        · rw [cnF_f (fun q => by omega), cnF_f (fun q => by omega), cnF_f (fun q => by omega), ih]
    · rw [cnF_f (fun q => hp q.1), cnF_f (fun q => hp q.1), cnF_f (fun q => hp q.1), ih]
/-- an order of those that are in: one of two is ahead, and who is ahead of one that is ahead is ahead -/
def ORD (P : Nat → Prop) (A : Nat → Nat → Prop) : Prop := (∀ a b, a < 10 → b < 10 → a ≠ b → (A a b ↔ ¬ A b a)) ∧ ∀ a b c, a < 10 → b < 10 → c < 10 → a ≠ b → b ≠ c → a ≠ c → A a b → A b c → A a c
noncomputable def rnk (P : Nat → Prop) (A : Nat → Nat → Prop) (c : Nat) : Nat := cnF (fun o => o ≠ c ∧ P o ∧ A o c) 10
section ORDER
variable {P : Nat → Prop} {A : Nat → Nat → Prop}
theorem rnk_lt {a b : Nat} (hO : ORD P A) (ha : a < 10) (hb : b < 10) (hab : a ≠ b) (hp : P a) (h : A a b) : rnk P A a < rnk P A b := by
  refine cnF_lt (a := a) 10 (fun o ho q => ⟨?_, q.2.1, ?_⟩) ha ⟨hab, hp, h⟩ (fun q => q.1 rfl)
  · rintro rfl
    exact (hO.1 a o ha ho hab).mp h q.2.2
  · by_cases e : o = b
    · subst e
      exact absurd q.2.2 ((hO.1 a o ha ho hab).mp h)
    · exact hO.2 o a b ho ha hb q.1 hab e q.2.2 h
theorem rnk_inj {a b : Nat} (hO : ORD P A) (ha : a < 10) (hb : b < 10) (hpa : P a) (hpb : P b) (h : rnk P A a = rnk P A b) : a = b := by
  by_cases e : a = b
  · exact e
  · by_cases h1 : A a b
    · have := rnk_lt hO ha hb e hpa h1
      omega
    · have h2 : A b a := (hO.1 b a hb ha (fun q => e q.symm)).mpr h1
      have := rnk_lt hO hb ha (fun q => e q.symm) hpb h2
      omega
theorem rnk_m {c : Nat} (hc : c < 10) (hp : P c) : rnk P A c < cnF P 10 :=
  cnF_lt (a := c) 10 (fun o _ q => q.2.1) hc hp (fun q => q.1 rfl)
theorem rnk_ex {p : Nat} (hO : ORD P A) (hp : p < cnF P 10) : ∃ c, c < 10 ∧ P c ∧ rnk P A c = p := by
  refine Classical.byContradiction fun hn => ?_
  have h1 : ∀ k, cnF (fun c => P c ∧ rnk P A c < k) 10 ≤ k ∧ (p < k → cnF (fun c => P c ∧ rnk P A c < k) 10 + 1 ≤ k) := by
    intro k
    induction k with
    | zero =>
      rw [cnF_none 10 (fun o _ q => by omega)]
      omega
    | succ k ih =>
      have hs := cnF_split (P := P) (R := rnk P A) (p := k) 10
      have h1 : cnF (fun c => P c ∧ rnk P A c = k) 10 ≤ 1 := cnF_one 10 fun a b ha hb qa qb => rnk_inj hO ha hb qa.1 qb.1 (by rw [qa.2, qb.2])
      refine ⟨by omega, fun hk => ?_⟩
      by_cases e : p = k
      · subst e
        rw [cnF_none 10 (S := fun c => P c ∧ rnk P A c = p) (fun o ho q => hn ⟨o, ho, q.1, q.2⟩)] at hs
        omega
      · have := ih.2 (by omega)
        omega
  have h2 := (h1 (cnF P 10)).2 hp
  rw [cnF_congr (T := P) (fun o ho => ⟨fun q => q.1, fun q => ⟨q, rnk_m ho q⟩⟩)] at h2
  omega
end ORDER
/-- the value of a place: of those that are in, how many are ahead -/
noncomputable def plV (P : Nat → Prop) (A : Nat → Nat → Prop) (c n : Nat) : Int32 := haveI := Classical.propDecidable (P c); if P c then nI (cnF (fun o => o ≠ c ∧ P o ∧ A o c) n) else -1
theorem plV_t {P : Nat → Prop} {A : Nat → Nat → Prop} {c n : Nat} (h : P c) : plV P A c n = nI (cnF (fun o => o ≠ c ∧ P o ∧ A o c) n) := by unfold plV; exact if_pos h
theorem plV_f {P : Nat → Prop} {A : Nat → Nat → Prop} {c n : Nat} (h : ¬ P c) : plV P A c n = -1 := by unfold plV; exact if_neg h
theorem rkF_plV {z : Int32} {σ : Nat → Nat → Int32} {N c : Nat} : rkF z σ N c = plV (inP z σ) (ahdR σ N) c 10 := rfl
theorem plV_congr {P Q : Nat → Prop} {A B : Nat → Nat → Prop} {c n : Nat} (hc : P c ↔ Q c) (h : ∀ o, o < n → (P o ↔ Q o)) (h2 : ∀ o, o < n → o ≠ c → (A o c ↔ B o c)) : plV P A c n = plV Q B c n := by
  by_cases hp : P c
  · rw [plV_t hp, plV_t (hc.mp hp), cnF_congr (S := fun o => o ≠ c ∧ P o ∧ A o c) (T := fun o => o ≠ c ∧ Q o ∧ B o c) fun o ho => ⟨fun q => ⟨q.1, (h o ho).mp q.2.1, (h2 o ho q.1).mp q.2.2⟩, fun q => ⟨q.1, (h o ho).mpr q.2.1, (h2 o ho q.1).mpr q.2.2⟩⟩]
  · rw [plV_f hp, plV_f fun q => hp (hc.mpr q)]
theorem plV_nI {P : Nat → Prop} {A : Nat → Nat → Prop} {c p : Nat} (hp : p < 2 ^ 31) (h : plV P A c 10 = nI p) : P c ∧ rnk P A c = p := by
  by_cases h1 : P c
  · rw [plV_t h1] at h
    refine ⟨h1, ?_⟩
    have := cnF_le (fun o => o ≠ c ∧ P o ∧ A o c) 10
    exact (nI_eq (a := cnF (fun o => o ≠ c ∧ P o ∧ A o c) 10) (by omega) hp).mp h
  · rw [plV_f h1, m1_eq hp] at h
    exact h.elim
/-- the car with a place: there is one, if the place is under how many are in -/
theorem plc_ex {P : Nat → Prop} {A : Nat → Nat → Prop} {rk : Nat → Int32} {p : Nat} (hO : ORD P A) (hr : ∀ c, c < 10 → rk c = plV P A c 10) (hp : p < cnF P 10) : ∃ c, c < 10 ∧ P c ∧ rnk P A c = p ∧ plcF rk (nI p) 10 = nI c := by
  obtain ⟨c, hc, h1, h2⟩ := rnk_ex hO hp
  have hm := cnF_le P 10
  refine ⟨c, hc, h1, h2, plcF_at ?_ 10 hc fun k hk hq => ?_⟩
  · rw [hr c hc, plV_t h1]
    exact congrArg nI h2
  · rw [hr k hk] at hq
    obtain ⟨q1, q2⟩ := plV_nI (by omega) hq
    exact rnk_inj hO hk hc q1 h1 (by rw [q2, h2])
theorem plc_no {P : Nat → Prop} {A : Nat → Nat → Prop} {rk : Nat → Int32} {p : Nat} (hr : ∀ c, c < 10 → rk c = plV P A c 10) (hp : ¬ p < cnF P 10) (hp2 : p < 2 ^ 31) : plcF rk (nI p) 10 = -1 := by
  refine plcF_none 10 fun k hk hq => ?_
  rw [hr k hk] at hq
  obtain ⟨q1, q2⟩ := plV_nI hp2 hq
  have := rnk_m (A := A) hk q1
  omega
theorem plc_uni {P : Nat → Prop} {A : Nat → Nat → Prop} {rk : Nat → Int32} {p : Nat} (hO : ORD P A) (hr : ∀ c, c < 10 → rk c = plV P A c 10) (hp2 : p < 2 ^ 31) : ∀ a b, a < 10 → b < 10 → rk a = nI p → rk b = nI p → a = b := fun a b ha hb h1 h2 => by
  rw [hr a ha] at h1
  rw [hr b hb] at h2
  obtain ⟨q1, q2⟩ := plV_nI hp2 h1
  obtain ⟨q3, q4⟩ := plV_nI hp2 h2
  exact rnk_inj hO ha hb q1 q3 (by rw [q2, q4])
/-! times compared -/
/-- a time is better than another one -/
def bet (x y : Int32) : Prop := ¬ x = -1 ∧ (y = -1 ∨ x < y)
theorem bet_tr {x y z : Int32} (h1 : bet x y) (h2 : bet y z) : bet x z := by
  obtain ⟨a1, a2⟩ := h1
  obtain ⟨b1, b2⟩ := h2
  refine ⟨a1, ?_⟩
  rcases b2 with b2 | b2
  · exact Or.inl b2
  · rcases a2 with a2 | a2
    · exact absurd a2 b1
    · exact Or.inr (Int32.lt_trans a2 b2)
theorem bet_irr {x : Int32} (h : bet x x) : False := by
  obtain ⟨a1, a2⟩ := h
  rcases a2 with a2 | a2
  · exact a1 a2
  · exact Int32.lt_irrefl a2
theorem bet_tot {x y : Int32} (h : x ≠ y) : bet x y ↔ ¬ bet y x := by
  constructor
  · intro h1 h2
    exact bet_irr (bet_tr h1 h2)
  · intro h1
    by_cases hx : x = -1
    · refine absurd ⟨fun hy => h (by rw [hx, hy]), Or.inl hx⟩ h1
    · refine ⟨hx, ?_⟩
      by_cases hy : y = -1
      · exact Or.inl hy
      · refine Or.inr ?_
        have h2 : ¬ y < x := fun q => h1 ⟨hy, Or.inr q⟩
        by_cases h3 : x < y
        · exact h3
        · exact absurd (Int32.le_antisymm (Int32.not_lt.mp h2) (Int32.not_lt.mp h3)) h
theorem cmp_t {tm : Nat → Int32} {a b j n : Nat} (h : tm (10 * j + a) = tm (10 * j + b)) : cmpF tm a b j (n + 1) = cmpF tm a b (j + 1) n := by rw [cmpF, if_pos h]
theorem cmp_b {tm : Nat → Int32} {a b j n : Nat} (h : bet (tm (10 * j + a)) (tm (10 * j + b))) : cmpF tm a b j (n + 1) = -1 := by
  rw [cmpF, if_neg (fun q => by rw [q] at h; exact bet_irr h)]
  by_cases h1 : tm (10 * j + b) = -1
  · rw [if_pos h1]
  · rw [if_neg h1, if_neg h.1, if_pos (h.2.resolve_left h1)]
theorem cmp_w {tm : Nat → Int32} {a b j n : Nat} (h : bet (tm (10 * j + b)) (tm (10 * j + a))) : cmpF tm a b j (n + 1) = nI 1 := by
  rw [cmpF, if_neg (fun q => by rw [q] at h; exact bet_irr h), if_neg h.1]
  by_cases h1 : tm (10 * j + a) = -1
  · rw [if_pos h1]
  · rw [if_neg h1, if_neg (Int32.lt_asymm (h.2.resolve_left h1))]
theorem cmp_cases (tm : Nat → Int32) (a b : Nat) (j : Nat) : tm (10 * j + a) = tm (10 * j + b) ∨ bet (tm (10 * j + a)) (tm (10 * j + b)) ∨ bet (tm (10 * j + b)) (tm (10 * j + a)) := by
  by_cases h : tm (10 * j + a) = tm (10 * j + b)
  · exact Or.inl h
  · by_cases h1 : bet (tm (10 * j + a)) (tm (10 * j + b))
    · exact Or.inr (Or.inl h1)
    · refine Or.inr (Or.inr ((bet_tot (fun q => h q.symm)).mpr h1))
theorem m1_1 : ¬ (-1 : Int32) = nI 1 := by decide +kernel
theorem m1_0 : ¬ (-1 : Int32) = nI 0 := by decide +kernel
theorem n1_0 : ¬ nI 1 = nI 0 := by decide +kernel
theorem cmp_anti {tm : Nat → Int32} {a b : Nat} : ∀ n j, (cmpF tm a b j n = -1 ↔ cmpF tm b a j n = nI 1) ∧ (cmpF tm a b j n = nI 1 ↔ cmpF tm b a j n = -1) ∧ (cmpF tm a b j n = nI 0 ↔ cmpF tm b a j n = nI 0)
  | 0, j => by
    have h1 : ¬ nI 0 = -1 := fun q => m1_0 q.symm
    have h2 : ¬ nI 0 = nI 1 := fun q => n1_0 q.symm
    unfold cmpF
    simp only [h1, h2, iff_self, and_self]
  | n + 1, j => by
    rcases cmp_cases tm a b j with h | h | h
    · rw [cmp_t h, cmp_t h.symm]
      exact cmp_anti n (j + 1)
    · rw [cmp_b h, cmp_w h]
      exact ⟨⟨fun _ => rfl, fun _ => rfl⟩, ⟨fun q => absurd q m1_1, fun q => absurd q.symm m1_1⟩, ⟨fun q => absurd q m1_0, fun q => absurd q n1_0⟩⟩
    · rw [cmp_w h, cmp_b h]
      exact ⟨⟨fun q => absurd q.symm m1_1, fun q => absurd q m1_1⟩, ⟨fun _ => rfl, fun _ => rfl⟩, ⟨fun q => absurd q n1_0, fun q => absurd q m1_0⟩⟩
theorem cmp_val {tm : Nat → Int32} {a b : Nat} : ∀ n j, cmpF tm a b j n = -1 ∨ cmpF tm a b j n = nI 0 ∨ cmpF tm a b j n = nI 1
  | 0, j => Or.inr (Or.inl rfl)
  | n + 1, j => by
    rcases cmp_cases tm a b j with h | h | h
    · rw [cmp_t h]; exact cmp_val n (j + 1)
    · exact Or.inl (cmp_b h)
    · exact Or.inr (Or.inr (cmp_w h))
theorem cmp_tr {tm : Nat → Int32} {a b c : Nat} : ∀ n j, (cmpF tm a b j n = -1 → cmpF tm b c j n = -1 → cmpF tm a c j n = -1) ∧ (cmpF tm a b j n = nI 0 → cmpF tm a c j n = cmpF tm b c j n) ∧ (cmpF tm b c j n = nI 0 → cmpF tm a c j n = cmpF tm a b j n)
  | 0, j => ⟨fun q => absurd q.symm m1_0, fun _ => rfl, fun _ => rfl⟩
  | n + 1, j => by
    have ih := cmp_tr (tm := tm) (a := a) (b := b) (c := c) n (j + 1)
    rcases cmp_cases tm a b j with h | h | h
    · rcases cmp_cases tm b c j with g | g | g
      · rw [cmp_t h, cmp_t g, cmp_t (h.trans g)]
        exact ih
      · have f : bet (tm (10 * j + a)) (tm (10 * j + c)) := by rw [h]; exact g
        rw [cmp_b g, cmp_b f, cmp_t h]
        exact ⟨fun _ _ => rfl, fun _ => rfl, fun q => absurd q m1_0⟩
      · have f : bet (tm (10 * j + c)) (tm (10 * j + a)) := by rw [h]; exact g
        rw [cmp_w g, cmp_w f, cmp_t h]
        exact ⟨fun _ q => absurd q.symm m1_1, fun _ => rfl, fun q => absurd q n1_0⟩
    · rw [cmp_b h]
      refine ⟨fun _ q => ?_, fun q => absurd q m1_0, fun q => ?_⟩
      · rcases cmp_cases tm b c j with g | g | g
        · exact cmp_b (by rw [← g]; exact h)
        · exact cmp_b (bet_tr h g)
        · rw [cmp_w g] at q
          exact absurd q.symm m1_1
      · rcases cmp_cases tm b c j with g | g | g
        · exact cmp_b (by rw [← g]; exact h)
        · exact cmp_b (bet_tr h g)
        · rw [cmp_w g] at q
          exact absurd q n1_0
    · rw [cmp_w h]
      refine ⟨fun q => absurd q.symm m1_1, fun q => absurd q n1_0, fun q => ?_⟩
      rcases cmp_cases tm b c j with g | g | g
      · exact cmp_w (by rw [← g]; exact h)
      · rw [cmp_b g] at q
        exact absurd q m1_0
      · exact cmp_w (bet_tr g h)
/-- whether a car is ahead by the class's totals and times -/
def ahdC (tot tm : Nat → Int32) (N a b : Nat) : Prop := tot a < tot b ∨ (tot a = tot b ∧ (cmpF tm a b 0 N = -1 ∨ (cmpF tm a b 0 N = nI 0 ∧ a < b)))
theorem ahdC_ord (P : Nat → Prop) (tot tm : Nat → Int32) (N : Nat) : ORD P (ahdC tot tm N) := by
  constructor
  · intro a b ha hb hab
    obtain ⟨c1, c2, c3⟩ := cmp_anti (tm := tm) (a := a) (b := b) N 0
    constructor
    · rintro (h | ⟨h1, h2⟩) (g | ⟨g1, g2⟩)
      · exact Int32.lt_asymm h g
      · rw [g1] at h; exact Int32.lt_irrefl h
      · rw [h1] at g; exact Int32.lt_irrefl g
      · rcases h2 with h2 | ⟨h2, h3⟩
        · rw [c1.mp h2] at g2
          rcases g2 with g2 | ⟨g2, _⟩
          · exact m1_1 g2.symm
          · exact n1_0 g2
        · rw [c3.mp h2] at g2
          rcases g2 with g2 | ⟨_, g3⟩
          · exact m1_0 g2.symm
          · omega
    · intro h
      by_cases e : tot a = tot b
      · refine Or.inr ⟨e, ?_⟩
        rcases cmp_val (tm := tm) (a := a) (b := b) N 0 with g | g | g
        · exact Or.inl g
        · refine Or.inr ⟨g, ?_⟩
          by_cases l : a < b
          · exact l
          · exact absurd (Or.inr ⟨e.symm, Or.inr ⟨c3.mp g, by omega⟩⟩) h
        · exact absurd (Or.inr ⟨e.symm, Or.inl (c2.mp g)⟩) h
      · by_cases l : tot a < tot b
        · exact Or.inl l
        · refine absurd (Or.inl ?_) h
          by_cases l2 : tot b < tot a
          · exact l2
          · exact absurd (Int32.le_antisymm (Int32.not_lt.mp l2) (Int32.not_lt.mp l)) e
  · intro a b c ha hb hc _ _ _
    obtain ⟨c1, c2, c3⟩ := cmp_tr (tm := tm) (a := a) (b := b) (c := c) N 0
    rintro (h | ⟨h1, h2⟩) (g | ⟨g1, g2⟩)
    · exact Or.inl (Int32.lt_trans h g)
    · rw [g1] at h; exact Or.inl h
    · rw [← h1] at g; exact Or.inl g
    · refine Or.inr ⟨h1.trans g1, ?_⟩
      rcases h2 with h2 | ⟨h2, h3⟩
      · rcases g2 with g2 | ⟨g2, g3⟩
        · exact Or.inl (c1 h2 g2)
        · exact Or.inl (by rw [c3 g2]; exact h2)
      · rcases g2 with g2 | ⟨g2, g3⟩
        · exact Or.inl (by rw [c2 h2]; exact g2)
        · exact Or.inr ⟨by rw [c2 h2]; exact g2, by omega⟩
