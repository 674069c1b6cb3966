/-! THE REFERENCE: times -/
section REF2
variable {X : rX} {h : rH} {σ : Nat → Nat → Int32} {t : rH}
/-- when a car starts in a stage -/
def startF (sp : Nat → Int32) (c i : Nat) : Int32 := if sp (10 * (i - 1) + c) = -1 then -1 else nI 600 * (sp (10 * (i - 1) + c) + nI 3)
def floorF (v b : Int32) : Int32 := if v < nI 0 then -((b - nI 1 - v) / b) else v / b
/-- the sum of what the beam is more than the hand, of the first j -/
def dsF (bm hd : Nat → Int32) (b : Nat) : Nat → Int32
  | 0 => nI 0
  | j + 1 => dsF bm hd b j + (if bm (b + j) = -1 then nI 0 else if hd (b + j) = -1 then nI 0 else bm (b + j) - hd (b + j))
def dcF (bm hd : Nat → Int32) (b : Nat) : Nat → Nat
  | 0 => 0
  | j + 1 => dcF bm hd b j + (if bm (b + j) = -1 then 0 else if hd (b + j) = -1 then 0 else 1)
theorem dcF_le (bm hd : Nat → Int32) (b : Nat) : ∀ j, dcF bm hd b j ≤ j
  | 0 => Nat.le_refl _
  | j + 1 => by
    unfold dcF
    have := dcF_le bm hd b j
    split
    · omega
    · split <;> omega
def meanF (bm hd : Nat → Int32) (i : Nat) : Int32 := if dcF bm hd (10 * i) 10 = 0 then nI 0 else floorF (dsF bm hd (10 * i) 10) (nI (dcF bm hd (10 * i) 10))
def ownF (sp bm hd : Nat → Int32) (c i : Nat) : Int32 :=
  if bm (10 * i + c) = -1 then (if hd (10 * i + c) = -1 then -1 else if hd (10 * i + c) + meanF bm hd i - startF sp c i < nI 0 then nI 0 else hd (10 * i + c) + meanF bm hd i - startF sp c i)
  else if bm (10 * i + c) - startF sp c i < nI 0 then nI 0 else bm (10 * i + c) - startF sp c i
/-- the car at a place of a leg, as a number -/
def carF (od : Nat → Int32) (g p : Nat) : Nat := cnt (od (10 * g + p))
/-- the own time of the car at a place, if it was not held up; none -/
def freF (sp bm hd hl od : Nat → Int32) (i g p : Nat) : Int32 := if hl (10 * i + carF od g p) = nI 0 then ownF sp bm hd (carF od g p) i else -1
def nxdF (fr : Nat → Int32) : Nat → Int32
  | 0 => -1
  | k + 1 => if fr k = -1 then nxdF fr k else fr k
/-- from k on, j places -/
def nxuF (fr : Nat → Int32) : Nat → Nat → Int32
  | _, 0 => -1
  | k, j + 1 => if fr k = -1 then nxuF fr (k + 1) j else fr k
/-- the order of a leg holds cars -/
def okO (od mn : Nat → Int32) (g : Nat) : Prop := okM (mn g) ∧ ∀ p, p < cnt (mn g) → od (10 * g + p) = nI (carF od g p) ∧ carF od g p < 10
theorem nz1 : nI 0 + (-1) = -1 := by decide +kernel
theorem n2m : (-1 : Int32) + -1 < nI 0 := by decide +kernel
theorem n0m : (-1 : Int32) + nI 1 = nI 0 := by decide +kernel
/-- the notional time -/
def notF (sp bm hd hl od mn : Nat → Int32) (g c i : Nat) : Int32 :=
  let p := plcF (fun k => od (10 * g + k)) (nI c) (cnt (mn g))
  let u := nxdF (freF sp bm hd hl od i g) (cnt p)
  let v := if p = -1 then nxuF (freF sp bm hd hl od i g) 0 (cnt (mn g)) else nxuF (freF sp bm hd hl od i g) (cnt p + 1) (cnt (mn g) - (cnt p + 1))
  if u = -1 then v else if v = -1 then u else (u + v) / nI 2
theorem plcF_or (o : Nat → Int32) (car : Int32) : ∀ n, plcF o car n = -1 ∨ ∃ a, a < n ∧ plcF o car n = nI a
  | 0 => Or.inl rfl
  | n + 1 => by
    unfold plcF
    split
    · exact Or.inr ⟨n, by omega, rfl⟩
    · rcases plcF_or o car n with h | ⟨a, ha, h⟩
      · exact Or.inl h
      · exact Or.inr ⟨a, by omega, h⟩
def timeF (sp bm hd hl aw od mn : Nat → Int32) (g c i : Nat) : Int32 :=
  if aw (10 * i + c) = -1 then (if hl (10 * i + c) = nI 0 then ownF sp bm hd c i else notF sp bm hd hl od mn g c i) else aw (10 * i + c)
end REF2
