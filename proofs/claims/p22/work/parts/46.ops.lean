/-! CALLS: tyres, retirements, ranks, the season -/
section OPS3
variable {X : rX} {σ σ' : Nat → Nat → Int32} {t : rH} {N r n : Nat}
theorem ty_upd {fn : Nat → Int32} {c k : Nat} (h0 : fn (100 * c + k) = nI 0) : ∀ m, tyF (upd fn (100 * c + k) (nI 1)) c m = if k < m then tyF fn c m + nI 600 else tyF fn c m
  | 0 => rfl
  | m + 1 => by
    have ih := ty_upd h0 m
    by_cases q : m = k
    · subst q
      rw [if_neg (by omega)] at ih
      rw [if_pos (by omega)]
      unfold tyF
      rw [upd_eq, if_neg n1_0, if_pos h0, ih]
    · by_cases q2 : k < m
      · rw [if_pos q2] at ih
        rw [if_pos (by omega)]
        unfold tyF
        rw [upd_ne (by omega), ih]
        split
        · rfl
        · ac_rfl
      · rw [if_neg q2] at ih
        rw [if_neg (by omega)]
        unfold tyF
        rw [upd_ne (by omega), ih]
theorem ty_congr {fn fn' : Nat → Int32} {c : Nat} : ∀ m, (∀ j, j < m → fn' (100 * c + j) = fn (100 * c + j)) → tyF fn' c m = tyF fn c m
  | 0, _ => rfl
  | m + 1, h => by
    unfold tyF
    rw [h m (by omega), ty_congr m fun j hj => h j (by omega)]
end OPS3
