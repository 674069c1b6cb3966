/-! THE REFERENCE: legs opened, the rally closed -/
section REF9
variable {X : rX} {h : rH} {σ : Nat → Nat → Int32} {t : rH}
/-- whether a car comes back -/
def retB (σ : Nat → Nat → Int32) (c : Nat) : Bool := decide (¬ σ 49 c = nI 0 ∧ ¬ σ 50 c = nI 0 ∧ σ 48 c = nI 0 ∧ ¬ σ 40 c = -1)
def retL (σ : Nat → Nat → Int32) (j : Nat) : List Nat := (List.range j).filter (retB σ)
theorem retL_t {j : Nat} (h : retB σ j = true) : retL σ (j + 1) = retL σ j ++ [j] := by
  unfold retL
  rw [List.range_succ, List.filter_append]
  simp [h]
theorem retL_f {j : Nat} (h : retB σ j = false) : retL σ (j + 1) = retL σ j := by
  unfold retL
  rw [List.range_succ, List.filter_append]
  simp [h]
theorem retL_mono {j : Nat} : ∀ n, (retL σ j).length ≤ (retL σ (j + n)).length
  | 0 => Nat.le_refl _
  | n + 1 => by
    have := retL_mono (j := j) n
    rw [← Nat.add_assoc]
    by_cases h : retB σ (j + n) = true
    · rw [retL_t h, List.length_append]
      omega
    · rw [retL_f (by simpa using h)]
      exact this
/-- who is retired after j cars came back -/
def rtF (σ : Nat → Nat → Int32) (j : Nat) : Nat → Int32 := fun c => if c < j ∧ retB σ c = true then nI 0 else σ 49 c
theorem rtF_0 : rtF σ 0 = σ 49 := by
  funext c
  unfold rtF
  rw [if_neg (by omega)]
theorem rtF_t {j : Nat} (h : retB σ j = true) : upd (rtF σ j) j (nI 0) = rtF σ (j + 1) := by
  funext c
  unfold upd rtF
  by_cases h1 : c = j
  · subst h1; rw [if_pos rfl, if_pos ⟨by omega, h⟩]
  · rw [if_neg h1]
    by_cases h2 : c < j ∧ retB σ c = true
    · rw [if_pos h2, if_pos ⟨by omega, h2.2⟩]
    · rw [if_neg h2, if_neg (fun q => h2 ⟨by omega, q.2⟩)]
theorem rtF_f {j : Nat} (h : retB σ j = false) : rtF σ j = rtF σ (j + 1) := by
  funext c
  unfold rtF
  by_cases h2 : c < j ∧ retB σ c = true
  · rw [if_pos h2, if_pos ⟨by omega, h2.2⟩]
  · rw [if_neg h2, if_neg (fun q => h2 ⟨by
      by_cases e : c = j
      · subst e; rw [h] at q; exact absurd q.2 (by decide)
      · omega, q.2⟩)]
theorem rtF_at {j : Nat} : rtF σ j j = σ 49 j := by
  unfold rtF
  rw [if_neg (by omega)]
theorem JO_sA {i : Nat} {L : List Nat} {f g : Nat → Int32} : sA (sA (JO σ i L) 49 f) 49 g = sA (JO σ i L) 49 g := sA_sA
theorem JO_swap {i : Nat} {L : List Nat} {f : Nat → Int32} : JO (sA σ 49 f) i L = sA (JO σ i L) 49 f := by
  funext p
  unfold sA JO
  by_cases h1 : p = 38
  · subst h1; rfl
  · by_cases h2 : p = 39
    · subst h2; rfl
    · simp [h1, h2]
/-- who returns to a leg -/
def rtL (σ : Nat → Nat → Int32) (i : Nat) : List Nat := if i = 0 then [] else retL σ 10
def rt49 (σ : Nat → Nat → Int32) (i : Nat) : Nat → Int32 := if i = 0 then σ 49 else rtF σ 10
/-- the order of the ranks, by the way -/
def ordL (rk : Nat → Int32) (w : Nat) : List Nat := if w = 0 then numL rk 10 else if w = 1 then rkL rk 10 else rev5 (rkL rk 10)
theorem ordL_le {rk : Nat → Int32} {w : Nat} : (ordL rk w).length ≤ 10 := by
  unfold ordL
  split
  · exact numL_le
  · split
    · exact rkL_le
    · rw [rev5_len]; exact rkL_le
/-- what an opening makes of the state -/
noncomputable def opnR (σ : Nat → Nat → Int32) (N i w : Nat) : Nat → Nat → Int32 :=
  sA (JO (layR (if i = 0 then nI 1 else nI 0) (u2 σ 35 0 (nI 0)) N) i (ordL (layR (if i = 0 then nI 1 else nI 0) (u2 σ 35 0 (nI 0)) N 55) w ++ rtL σ i)) 49 (rt49 σ i)
end REF9
