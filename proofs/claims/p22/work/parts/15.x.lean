/-! THE MACHINE'S STEPS AS EQUATIONS -/
section XEQ
variable {X : rX} {M pc : Nat} {cc : ByteArray} {ls : rL} {st : List Value} {h : rH} {k s : Nat}
theorem in_nI {j n : Nat} (hj : j < n) (hn : n < 2 ^ 31) : ¬ (nI j < 0 ∨ n ≤ (nI j).toNatClampNeg) := vp_in_nI hj hn
theorem in_nJ {j n : Nat} (hj : j < n) (hn : n < 2 ^ 31) : ¬ (nI j < 0 ∨ n ≤ j) := fun z => z.elim (nI_pos (Nat.lt_trans hj hn)) (Nat.not_le.mpr hj)
theorem x_const {i : Instr} {len pc' : Nat} {v : Int32} (hm : mb M = cc) (hd : decode cc pc = .ok (i, len)) (hs : (if okl i len = true then stepI X M pc i ls st h k s else stepW pc len i ls st h k s) = nx pc' ls (.int v :: st) h k s) : exM X M pc ls st h k s = exM X M pc' ls (.int v :: st) h k s := ex_nx (by unfold stepM; dsimp only; rw [hm, hd]; exact hs)
theorem x_nx {i : Instr} {len pc' : Nat} {ls' : rL} {st' : List Value} {h' : rH} {k' s' : Nat} (hm : mb M = cc) (hd : decode cc pc = .ok (i, len)) (hs : (if okl i len = true then stepI X M pc i ls st h k s else stepW pc len i ls st h k s) = nx pc' ls' st' h' k' s') : exM X M pc ls st h k s = exM X M pc' ls' st' h' k' s' := ex_nx (by unfold stepM; dsimp only; rw [hm, hd]; exact hs)
theorem x_jmp {i : Instr} {len t : Nat} {q : Bool} {cnd : Prop} [Decidable cnd] {st' : List Value} (hm : mb M = cc) (hd : decode cc pc = .ok (i, len)) (hs : (if okl i len = true then stepI X M pc i ls st h k s else stepW pc len i ls st h k s) = nx (if q = true then t else pc + 3) ls st' h k s) (hq : q = decide cnd) : exM X M pc ls st h k s = if cnd then exM X M t ls st' h k s else exM X M (pc + 3) ls st' h k s := by
  rw [x_nx hm hd hs, hq]
  by_cases hc : cnd
  · simp [hc]
  · simp [hc]
theorem x_jmpN {i : Instr} {len t : Nat} {q : Bool} {cnd : Prop} [Decidable cnd] {st' : List Value} (hm : mb M = cc) (hd : decode cc pc = .ok (i, len)) (hs : (if okl i len = true then stepI X M pc i ls st h k s else stepW pc len i ls st h k s) = nx (if q = true then t else pc + 3) ls st' h k s) (hq : q = !decide cnd) : exM X M pc ls st h k s = if cnd then exM X M (pc + 3) ls st' h k s else exM X M t ls st' h k s := by
  rw [x_nx hm hd hs, hq]
  by_cases hc : cnd
  · simp [hc]
  · simp [hc]
theorem dN_ne (x y : Int32) : decide (¬ x = y) = !decide (x = y) := by by_cases h : x = y <;> simp [h]
theorem dN_ge (x y : Int32) : decide (y ≤ x) = !decide (x < y) := by
  by_cases h : x < y
  · simp [h, Int32.not_le.mpr h]
  · simp [h, Int32.not_lt.mp h]
theorem x_iald {j n p : Nat} {f : Nat → Int32} (hm : mb M = cc) (hd : decode cc pc = .ok (.iaload, 1)) (hp : lk h p = some (.inl (0, n, .inl f))) (hj : j < n) (hn : n < 2 ^ 31) : exM X M pc ls (.int (nI j) :: .ref p :: st) h k s = exM X M (pc + 1) ls (.int (f j) :: st) h k s := by
  refine x_nx hm hd ?_
  show aget X 0 pc ls (.int (nI j) :: .ref p :: st) h k s = _
  simp only [aget, hp, if_true, nI_clamp (Nat.lt_trans hj hn), if_neg (in_nJ hj hn)]
theorem x_zald {j n p : Nat} {f : Nat → Int32} (hm : mb M = cc) (hd : decode cc pc = .ok (.baload, 1)) (hp : lk h p = some (.inl (1, n, .inl f))) (hj : j < n) (hn : n < 2 ^ 31) : exM X M pc ls (.int (nI j) :: .ref p :: st) h k s = exM X M (pc + 1) ls (.int (f j) :: st) h k s := by
  refine x_nx hm hd ?_
  show aget X 1 pc ls (.int (nI j) :: .ref p :: st) h k s = _
  simp only [aget, hp, if_true, nI_clamp (Nat.lt_trans hj hn), if_neg (in_nJ hj hn)]
theorem x_xald {j n p : Nat} {f : Nat → Int32} (hm : mb M = cc) (hd : decode cc pc = .ok (.iaload, 1)) (hp : lk h p = none) (hx : xar X p = some (n, f)) (hj : j < n) (hn : n < 2 ^ 31) : exM X M pc ls (.int (nI j) :: .ref p :: st) h k s = exM X M (pc + 1) ls (.int (f j) :: st) h k s := by
  refine x_nx hm hd ?_
  show aget X 0 pc ls (.int (nI j) :: .ref p :: st) h k s = _
  simp only [aget, hp, hx, if_true, nI_clamp (Nat.lt_trans hj hn), if_neg (in_nJ hj hn)]
theorem x_iast {j n p : Nat} {x : Int32} {f : Nat → Int32} {h' : rH} (hm : mb M = cc) (hd : decode cc pc = .ok (.iastore, 1)) (hp : lk h p = some (.inl (0, n, .inl f))) (hj : j < n) (hn : n < 2 ^ 31) (hh : h.set p (.inl (0, n, .inl (upd f j x))) = h') : exM X M pc ls (.int x :: .int (nI j) :: .ref p :: st) h k s = exM X M (pc + 1) ls st h' k s := by
  refine x_nx hm hd ?_
  show aput pc ls (.int x :: .int (nI j) :: .ref p :: st) h k s = _
  simp only [aput, hp, if_true, nI_clamp (Nat.lt_trans hj hn), if_neg (in_nJ hj hn), hh]
theorem x_zast {j n p : Nat} {x : Int32} {f : Nat → Int32} {h' : rH} (hm : mb M = cc) (hd : decode cc pc = .ok (.bastore, 1)) (hp : lk h p = some (.inl (1, n, .inl f))) (hj : j < n) (hn : n < 2 ^ 31) (hx : vp_nar .boolean x = x) (hh : h.set p (.inl (1, n, .inl (upd f j x))) = h') : exM X M pc ls (.int x :: .int (nI j) :: .ref p :: st) h k s = exM X M (pc + 1) ls st h' k s := by
  refine x_nx hm hd ?_
  show aputZ pc ls (.int x :: .int (nI j) :: .ref p :: st) h k s = _
  simp only [aputZ, hp, if_true, nI_clamp (Nat.lt_trans hj hn), if_neg (in_nJ hj hn), hx, hh]
theorem x_getf {ix p ci kf : Nat} {ne : Bool} {fs : List Value} {v : Value} (hm : mb M = cc) (hd : decode cc pc = .ok (.getfield ix, 3)) (hf : asc fldT (ow M) ix = some (ci, kf, ne)) (hp : lk h p = some (.inr (ci, fs))) (hv : fs[kf]? = some v) : exM X M pc ls (.ref p :: st) h k s = exM X M (pc + 3) ls (v :: st) h k s := by
  refine x_nx hm hd ?_
  show fget M ix pc ls (.ref p :: st) h k s = _
  simp only [fget, hf, hp, if_true, hv]
theorem x_putf {ix p ci kf : Nat} {fs : List Value} {v : Value} {h' : rH} (hm : mb M = cc) (hd : decode cc pc = .ok (.putfield ix, 3)) (hf : asc fldT (ow M) ix = some (ci, kf, false)) (hp : lk h p = some (.inr (ci, fs))) (hl : kf < fs.length) (ht : fits (tyC ci kf) v = true ∧ narrow (tyC ci kf) v = v) (hfin : ((clC ci).2.1 kf).2.2.2 = true → (my M).name = "<init>" ∧ ((clC ci).2.1 kf).1 = rn (ow M)) (hh : h.set p (.inr (ci, fs.set kf v)) = h') : exM X M pc ls (v :: .ref p :: st) h k s = exM X M (pc + 3) ls st h' k s := by
  refine x_nx hm hd ?_
  show fput M ix pc ls (v :: .ref p :: st) h k s = _
  simp only [fput, hf, hp]
  rw [if_pos ⟨trivial, hl, ht.1, ht.2, trivial, hfin⟩, hh]
theorem x_call {i : Instr} {len y : Nat} {as rest : List Value} (hm : mb M = cc) (hd : decode cc pc = .ok (i, len)) (hh : mh M = []) (hs : (if okl i len = true then stepI X M pc i ls st h k s else stepW pc len i ls st h k s) = some (.inr (.inl (y, as, rest)))) :
    exM X M pc ls st h k s = bnd (exC X y as h) (fun v h1 k1 s1 => exM X M (pc + 3) ls (v.toList ++ rest) h1 (k + k1) (s + s1)) (fun E h1 k1 s1 => some (.inr E, h1, k + k1, s + s1)) := by
  rw [ex_call (y := y) (as := as) (rest := rest) (by unfold stepM; dsimp only; rw [hm, hd]; exact hs)]
  congr 1
  funext E h1 k1 s1
  simp only [thr, hh, hnd, if_true]
theorem x_callH {i : Instr} {len y : Nat} {as rest : List Value} (hm : mb M = cc) (hd : decode cc pc = .ok (i, len)) (hs : (if okl i len = true then stepI X M pc i ls st h k s else stepW pc len i ls st h k s) = some (.inr (.inl (y, as, rest)))) :
    exM X M pc ls st h k s = bnd (exC X y as h) (fun v h1 k1 s1 => exM X M (pc + 3) ls (v.toList ++ rest) h1 (k + k1) (s + s1)) (fun E h1 k1 s1 => match thr M E pc ls h1 (k + k1) (s + s1) with
      | some (.inl g) => exM X M g.1 g.2.1 g.2.2.1 g.2.2.2.1 g.2.2.2.2.1 g.2.2.2.2.2
      | some (.inr r) => some r
      | none => none) := ex_call (by unfold stepM; dsimp only; rw [hm, hd]; exact hs)
theorem x_end {i : Instr} {len : Nat} {r : rR} (hm : mb M = cc) (hd : decode cc pc = .ok (i, len)) (hs : (if okl i len = true then stepI X M pc i ls st h k s else stepW pc len i ls st h k s) = some (.inr (.inr r))) : exM X M pc ls st h k s = some r := ex_done (by unfold stepM; dsimp only; rw [hm, hd]; exact hs)
theorem x_zret {v : Int32} (hm : mb M = cc) (hd : decode cc pc = .ok (.ireturn, 1)) (hr : mr M = some .boolean) (hv : v = nI 0 ∨ v = nI 1) : exM X M pc ls [.int v] h k s = some (.inl (some (.int v)), h, k, s) := by
  refine x_end hm hd ?_
  show retI M [.int v] h k s = _
  rcases hv with rfl | rfl <;> (simp only [retI, hr]; rfl)
theorem nar0 : vp_nar .boolean (nI 0) = nI 0 := by decide +kernel
theorem nar1 : vp_nar .boolean (nI 1) = nI 1 := by decide +kernel
end XEQ
