/-! THE REFERENCE: ranks -/
section REF3
variable {X : rX} {h : rH} {σ : Nat → Nat → Int32} {t : rH}
/-- the whole row p replaced -/
def sA (σ : Nat → Nat → Int32) (p : Nat) (f : Nat → Int32) : Nat → Nat → Int32 := fun a => if a = p then f else σ a
theorem u2_sA {σ : Nat → Nat → Int32} {p i : Nat} {f : Nat → Int32} {x : Int32} : u2 (sA σ p f) p i x = sA σ p (upd f i x) := by
  funext a
  unfold u2 sA
  by_cases h : a = p <;> simp [h]
theorem u2_def {σ : Nat → Nat → Int32} {p i : Nat} {x : Int32} : u2 σ p i x = sA σ p (upd (σ p) i x) := rfl
theorem sA_self {σ : Nat → Nat → Int32} {p : Nat} : sA σ p (σ p) = σ := by
  funext a
  unfold sA
  by_cases h : a = p
  · rw [if_pos h, h]
  · rw [if_neg h]
theorem sA_eq {σ : Nat → Nat → Int32} {p : Nat} {f : Nat → Int32} : sA σ p f p = f := if_pos rfl
theorem sA_ne {σ : Nat → Nat → Int32} {p q : Nat} {f : Nat → Int32} (h : q ≠ p) : sA σ p f q = σ q := if_neg h
theorem sA_sA {σ : Nat → Nat → Int32} {p : Nat} {f g : Nat → Int32} : sA (sA σ p f) p g = sA σ p g := by
  funext a
  unfold sA
  by_cases h : a = p <;> simp [h]
/-- the first j of a, behind them b -/
def ltF (j : Nat) (a b : Nat → Int32) : Nat → Int32 := fun i => if i < j then a i else b i
theorem ltF_0 (a b : Nat → Int32) : ltF 0 a b = b := by
  funext i
  simp [ltF]
theorem upd_ltF (j : Nat) (a b : Nat → Int32) : upd (ltF j a b) j (a j) = ltF (j + 1) a b := by
  funext i
  unfold upd ltF
  by_cases h : i = j
  · subst h; simp
  · rw [if_neg h]
    by_cases h2 : i < j
    · rw [if_pos h2, if_pos (by omega)]
    · rw [if_neg h2, if_neg (by omega)]
theorem ltF_lt {j i : Nat} {a b : Nat → Int32} (h : i < j) : ltF j a b i = a i := if_pos h
theorem ltF_ge {j i : Nat} {a b : Nat → Int32} (h : ¬ i < j) : ltF j a b i = b i := if_neg h
/-- what the reference's times need of its state -/
def RK (σ : Nat → Nat → Int32) (N : Nat) : Prop := N ≤ 20 ∧ σ 35 1 = nI N ∧ (0 < N → σ 36 0 = nI 0) ∧ ∀ g, g < 20 → okO (σ 38) (σ 39) g
/-- the time of a car in a stage -/
def tmR (σ : Nat → Nat → Int32) (i c : Nat) : Int32 := timeF (σ 40) (σ 42) (σ 43) (σ 44) (σ 45) (σ 38) (σ 39) (legF (σ 36) i) c i
theorem stage_pos {N i : Nat} (hR : RK σ N) (hi : i < N) (hk : σ 36 i = nI 2) : 1 ≤ i := by
  by_cases e : i = 0
  · subst e
    rw [hR.2.2.1 hi, eq_f (by omega) (by omega) (by omega)] at hk
    exact hk.elim
  · omega
/-- the best of the first j -/
def bstF (tm : Nat → Int32) : Nat → Int32
  | 0 => -1
  | j + 1 => if tm j = -1 then bstF tm j else if bstF tm j = -1 then tm j else if tm j < bstF tm j then tm j else bstF tm j
/-- what a stage adds to a total -/
def addF (tm : Nat → Nat → Int32) (i c : Nat) : Int32 := if tm i c = -1 then (if bstF (tm i) 10 = -1 then nI 0 else bstF (tm i) 10 + nI 6000) else tm i c
def totF (kd : Nat → Int32) (tm : Nat → Nat → Int32) (pen : Int32) (c : Nat) : Nat → Int32
  | 0 => pen
  | i + 1 => if kd i = nI 2 then totF kd tm pen c i + addF tm i c else totF kd tm pen c i
/-- a car's total -/
def ttR (σ : Nat → Nat → Int32) (N c : Nat) : Int32 := totF (σ 36) (tmR σ) (σ 46 c) c N
/-- whether a car is ranked -/
def rkP (σ : Nat → Nat → Int32) (c : Nat) : Prop := ¬ σ 40 c = -1 ∧ σ 48 c = nI 0 ∧ σ 49 c = nI 0
def farF (x : Int32) : Int32 := if x = -1 then nI 1000000000 else x
/-- by how much a car is behind another one, of the first i items -/
def offF (kd : Nat → Int32) (tm : Nat → Nat → Int32) (o0 : Int32) (a b : Nat) : Nat → Int32
  | 0 => o0
  | i + 1 => if offF kd tm o0 a b i = nI 0 then (if kd i = nI 2 then farF (tm i a) - farF (tm i b) else offF kd tm o0 a b i) else offF kd tm o0 a b i
theorem offF_stay {kd : Nat → Int32} {tm : Nat → Nat → Int32} {o0 : Int32} {a b i : Nat} (h : ¬ offF kd tm o0 a b i = nI 0) : ∀ j, offF kd tm o0 a b (i + j) = offF kd tm o0 a b i
  | 0 => rfl
  | j + 1 => by
    rw [← Nat.add_assoc, offF, offF_stay h j, if_neg h]
def ahdR (σ : Nat → Nat → Int32) (N a b : Nat) : Prop := offF (σ 36) (tmR σ) (σ 56 a - σ 56 b) a b N < nI 0 ∨ (offF (σ 36) (tmR σ) (σ 56 a - σ 56 b) a b N = nI 0 ∧ a < b)
end REF3
