/-! THE REFERENCE: delays, stages, tyres, the table -/
section REF7
variable {X : rX} {h : rH} {σ : Nat → Nat → Int32} {t : rH}
theorem upd_self0 {f : Nat → Int32} {k : Nat} : upd f k (f k + nI 0) = f := by
  funext i
  unfold upd
  by_cases h : i = k
  · subst h; rw [if_pos rfl, ← nIz, Int32.add_zero]
  · rw [if_neg h]
/-- the delays after j places from place a on -/
def dlF (sp od f : Nat → Int32) (b : Int32) (i g a : Nat) : Nat → Nat → Int32
  | 0 => f
  | j + 1 => if sp (10 * i + carF od g (a + j)) = -1 then upd (dlF sp od f b i g a j) (10 * i + carF od g (a + j)) (dlF sp od f b i g a j (10 * i + carF od g (a + j)) + b) else dlF sp od f b i g a j
def dnF (sp od : Nat → Int32) (i g a : Nat) : Nat → Nat
  | 0 => 0
  | j + 1 => dnF sp od i g a j + if sp (10 * i + carF od g (a + j)) = -1 then 1 else 0
theorem dnF_le {sp od : Nat → Int32} {i g a : Nat} : ∀ j, dnF sp od i g a j ≤ j
  | 0 => Nat.le_refl _
  | j + 1 => by
    have := @dnF_le sp od i g a j
    unfold dnF
    split <;> omega
/-- a delay's minutes are right -/
def okD (m : Int32) : Prop := ∃ j, 1 ≤ j ∧ j ≤ 60 ∧ m = nI j
/-! what is told of a stage -/
/-- a minute, or none -/
def stM (x : Int32) : Prop := x = -1 ∨ ∃ m, m ≤ 2000 ∧ x = nI m
theorem startF_m {sp : Nat → Int32} {c i m : Nat} (h : sp (10 * (i - 1) + c) = nI m) (hm : m ≤ 2000) : startF sp c i = nI (600 * (m + 3)) := by
  unfold startF
  rw [h, if_neg (by rw [eq_m1 (by omega)]; exact id), nI_add, nI_mul]
/-- an award is in its range -/
def okW (x : Int32) : Prop := x = -1 ∨ inR x 100000
theorem upd_self {f : Nat → Int32} {k : Nat} {x : Int32} (h : f k = x) : upd f k x = f := by
  funext i
  unfold upd
  by_cases e : i = k
  · subst e; rw [if_pos rfl, h]
  · rw [if_neg e]
theorem u2_self {p k : Nat} {x : Int32} (h : σ p k = x) : u2 σ p k x = σ := by
  rw [u2_def, upd_self h, sA_self]
end REF7
