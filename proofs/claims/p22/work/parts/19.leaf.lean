/-! THE REFERENCE: leaves -/
section REF1
variable {X : rX} {h : rH} {σ : Nat → Nat → Int32} {t : rH}
/-- what a call answers, making nothing -/
abbrev ans (x : Int32) (h : rH) : Option rR := some (.inl (some (.int x)), h, 0, 0)
abbrev ansV (h : rH) : Option rR := some (.inl none, h, 0, 0)
/-- the last place under n where o holds the car; none -/
def plcF (o : Nat → Int32) (car : Int32) : Nat → Int32
  | 0 => -1
  | k + 1 => if o k = car then nI k else plcF o car k
/-- the leg of an item -/
def legF (kd : Nat → Int32) : Nat → Nat
  | 0 => 0
  | i + 1 => if kd (i + 1) = nI 0 then i + 1 else legF kd i
theorem legF_le (kd : Nat → Int32) : ∀ i, legF kd i ≤ i
  | 0 => Nat.le_refl _
  | i + 1 => by
    unfold legF
    split
    · exact Nat.le_refl _
    · exact Nat.le_succ_of_le (legF_le kd i)
/-- the control ahead -/
def ahdF (kd : Nat → Int32) (i : Nat) : Nat := if kd (i - 1) = nI 2 then i - 2 else i - 1
/-- when a car is due by its card alone; none -/
def dueF (kd mi od mn sp dl : Nat → Int32) (c i : Nat) : Int32 :=
  if kd i = nI 0 then (if plcF (fun k => od (10 * i + k)) (nI c) (cnt (mn i)) = -1 then -1 else mi i + nI 2 * plcF (fun k => od (10 * i + k)) (nI c) (cnt (mn i)))
  else (if sp (10 * ahdF kd i + c) = -1 then -1 else sp (10 * ahdF kd i + c) + (if kd (i - 1) = nI 2 then nI 3 else nI 0) + mi i + dl (10 * i + c))
theorem sub12 : nI 1 - nI 2 = -1 := by decide +kernel
end REF1
