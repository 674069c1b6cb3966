section XEQ2
variable {X : rX} {M pc : Nat} {cc : ByteArray} {ls : rL} {st : List Value} {h : rH} {k s : Nat}
theorem x_idiv {x y : Int32} (hm : mb M = cc) (hd : decode cc pc = .ok (.idiv, 1)) (hy : ¬ y = 0) : exM X M pc ls (.int y :: .int x :: st) h k s = exM X M (pc + 1) ls (.int (x / y) :: st) h k s := by
  refine x_nx hm hd ?_
  show (if y = 0 then none else nx (pc + 1) ls (.int (x / y) :: st) h k s) = _
  rw [if_neg hy]
theorem x_iret {v : Int32} (hm : mb M = cc) (hd : decode cc pc = .ok (.ireturn, 1)) (hr : mr M = some .int) : exM X M pc ls [.int v] h k s = some (.inl (some (.int v)), h, k, s) := by
  refine x_end hm hd ?_
  show retI M [.int v] h k s = _
  simp only [retI, hr]
  exact if_pos rfl
theorem x_tsw {x : Int32} {d lo hi : Int} {offs : Array Int} {len t : Nat} (hm : mb M = cc) (hd : decode cc pc = .ok (.tableswitch d lo hi offs, len)) (hx : x.toInt < lo ∨ hi < x.toInt) (ht : tgt pc d = some t) : exM X M pc ls (.int x :: st) h k s = exM X M t ls st h k s := by
  refine x_nx hm hd ?_
  show tsw d lo hi offs pc ls (.int x :: st) h k s = _
  simp only [tsw]
  rw [if_pos hx, ht]
theorem x_throw {ix n : Nat} (hm : mb M = cc) (hd : decode cc pc = .ok (.new ix, 3)) (hex : exRow excT M ix pc = some n) (hd3 : decode cc (pc + 3) = .ok (.dup, 1)) (hd9 : decode cc (pc + 9) = .ok (.athrow, 1)) (hc : asc clsT (ow M) ix = none) (hh : mh M = []) (hr : 6 ≤ fr M ∧ vcat st + 82 ≤ lo M) : exM X M pc ls st h k s = some (.inr n, h, k + 1, s + 6) := by
  refine x_end hm hd ?_
  show newo M ix pc ls st h k s = _
  simp only [newo, hc, hex]
  rw [if_pos ⟨by rw [hm]; exact hd3, by rw [hm]; exact hd9, hh, hr.1, hr.2⟩]
theorem x_newo {ix ci : Nat} (hm : mb M = cc) (hd : decode cc pc = .ok (.new ix, 3)) (hc : asc clsT (ow M) ix = some ci) (hl : h.length < 99999) : exM X M pc ls st h k s = exM X M (pc + 3) ls (.ref h.length :: st) (h ++ [.inr (ci, dfl ci)]) (k + 1) (s + (clC ci).2.2) := by
  refine x_nx hm hd ?_
  show newo M ix pc ls st h k s = _
  simp only [newo, hc]
  rw [if_pos hl]
theorem x_newa0 {n : Nat} (hm : mb M = cc) (hd : decode cc pc = .ok (.newarray .int, 2)) (hn : n < 1000000) (hl : h.length < 99999) : exM X M pc ls (.int (nI n) :: st) h k s = exM X M (pc + 2) ls (.ref h.length :: st) (h ++ [.inl (0, n, .inl fun _ => 0)]) (k + 1) (s + n) := by
  refine x_nx hm hd ?_
  show newa .int pc ls (.int (nI n) :: st) h k s = _
  simp only [newa, nI_clamp (show n < 2 ^ 31 by omega)]
  rw [if_neg (fun z => z.elim (nI_pos (by omega)) (fun z => z.elim (fun z => by omega) (fun z => by omega)))]
theorem x_newa1 {n : Nat} (hm : mb M = cc) (hd : decode cc pc = .ok (.newarray .boolean, 2)) (hn : n < 1000000) (hl : h.length < 99999) : exM X M pc ls (.int (nI n) :: st) h k s = exM X M (pc + 2) ls (.ref h.length :: st) (h ++ [.inl (1, n, .inl fun _ => 0)]) (k + 1) (s + n) := by
  refine x_nx hm hd ?_
  show newa .boolean pc ls (.int (nI n) :: st) h k s = _
  simp only [newa, nI_clamp (show n < 2 ^ 31 by omega)]
  rw [if_neg (fun z => z.elim (nI_pos (by omega)) (fun z => z.elim (fun z => by omega) (fun z => by omega)))]
theorem x_alen {n p : Nat} {f : Nat → Int32} (hm : mb M = cc) (hd : decode cc pc = .ok (.arraylength, 1)) (hp : lk h p = some (.inl (0, n, .inl f))) : exM X M pc ls (.ref p :: st) h k s = exM X M (pc + 1) ls (.int (nI n) :: st) h k s := by
  refine x_nx hm hd ?_
  show alen X pc ls (.ref p :: st) h k s = _
  simp only [alen, hp]
  rfl
theorem x_xlen {n p : Nat} {f : Nat → Int32} (hm : mb M = cc) (hd : decode cc pc = .ok (.arraylength, 1)) (hp : lk h p = none) (hx : xar X p = some (n, f)) : exM X M pc ls (.ref p :: st) h k s = exM X M (pc + 1) ls (.int (nI n) :: st) h k s := by
  refine x_nx hm hd ?_
  show alen X pc ls (.ref p :: st) h k s = _
  simp only [alen, hp, hx]
  rfl
theorem nI_div {a b : Nat} (ha : a < 2 ^ 31) (hb : b < 2 ^ 31) : nI a / nI b = nI (a / b) := by
  refine Int32.toInt_inj.mp ?_
  have h1 : a / b < 2 ^ 31 := Nat.lt_of_le_of_lt (Nat.div_le_self a b) ha
  rw [Int32.toInt_div, nI_toInt ha, nI_toInt hb, nI_toInt h1]
  have e : ((a : Int).tdiv (b : Int)) = ((a / b : Nat) : Int) := by
    exact (Int.ofNat_tdiv a b).symm
  rw [e]
  generalize a / b = q at *
  exact Int.bmod_eq_of_le (by omega) (by omega)
theorem nI_subJ {a b : Nat} (h : b ≤ a) : nI a - nI b = nI (a - b) := by
  have e : nI (a - b) + nI b = nI a := by rw [nI_add]; congr 1; omega
  rw [← e, Int32.add_sub_cancel]
theorem nI_zJ {n : Nat} (h : 0 < n) (hn : n < 2 ^ 31) : ¬ nI n = 0 := fun e => by
  have := congrArg Int32.toInt e
  rw [nI_toInt hn] at this
  have h0 : (0 : Int32).toInt = 0 := by decide +kernel
  omega
theorem nI_divN {x y : Nat} (hx : x < 2 ^ 31) (hy : y < 2 ^ 31) : nI x / nI y = nI (x / y) := nI_div hx hy
theorem nI_remN {x y : Nat} (hx : x < 2 ^ 31) (hy2 : y < 2 ^ 31) : nI x - nI x / nI y * nI y = nI (x % y) := by
  rw [nI_divN hx hy2, show nI (x / y) * nI y = nI (x / y * y) from (Int32.ofNat_mul _ _).symm, nI_subJ (Nat.div_mul_le_self x y)]
  congr 1
  have := Nat.div_add_mod x y
  rw [Nat.mul_comm] at this
  omega
theorem x_idivN {x y : Nat} (hm : mb M = cc) (hd : decode cc pc = .ok (.idiv, 1)) (hx : x < 2 ^ 31) (hy : 0 < y) (hy2 : y < 2 ^ 31) : exM X M pc ls (.int (nI y) :: .int (nI x) :: st) h k s = exM X M (pc + 1) ls (.int (nI (x / y)) :: st) h k s := by
  rw [x_idiv hm hd (nI_zJ hy hy2), nI_divN hx hy2]
theorem x_iremN {x y : Nat} (hm : mb M = cc) (hd : decode cc pc = .ok (.irem, 1)) (hx : x < 2 ^ 31) (hy : 0 < y) (hy2 : y < 2 ^ 31) : exM X M pc ls (.int (nI y) :: .int (nI x) :: st) h k s = exM X M (pc + 1) ls (.int (nI (x % y)) :: st) h k s := by
  refine x_nx hm hd ?_
  show (if nI y = 0 then none else nx (pc + 1) ls (.int (nI x - nI x / nI y * nI y) :: st) h k s) = _
  rw [if_neg (nI_zJ hy hy2), nI_remN hx hy2]
theorem nI_or (x y : Nat) : nI x ||| nI y = nI (x ||| y) := by
  apply Int32.toBitVec_inj.mp
  show BitVec.ofNat 32 x ||| BitVec.ofNat 32 y = BitVec.ofNat 32 (x ||| y)
  exact BitVec.ofNat_or.symm
theorem nI_and (x y : Nat) : nI x &&& nI y = nI (x &&& y) := by
  apply Int32.toBitVec_inj.mp
  show BitVec.ofNat 32 x &&& BitVec.ofNat 32 y = BitVec.ofNat 32 (x &&& y)
  exact BitVec.ofNat_and.symm
theorem nI_shl {y : Nat} (hy : y < 31) : nI 1 <<< (nI y &&& 31) = nI (2 ^ y) := by
  have h1 : ∀ y, y < 31 → nI 1 <<< (nI y &&& 31) = nI (2 ^ y) := by decide +kernel
  exact h1 y hy
theorem nI_shr {x y : Nat} (hx : x < 1024) (hy : y < 10) : nI x >>> (nI y &&& 31) = nI (x / 2 ^ y) := by
  have h1 : ∀ x, x < 1024 → ∀ y, y < 10 → nI x >>> (nI y &&& 31) = nI (x / 2 ^ y) := by decide +kernel
  exact h1 x hx y hy
theorem x_iorN {x y : Nat} (hm : mb M = cc) (hd : decode cc pc = .ok (.ior, 1)) : exM X M pc ls (.int (nI y) :: .int (nI x) :: st) h k s = exM X M (pc + 1) ls (.int (nI (x ||| y)) :: st) h k s := by
  refine x_nx hm hd ?_
  show nx (pc + 1) ls (.int (nI x ||| nI y) :: st) h k s = _
  rw [nI_or]
theorem x_iandN {x y : Nat} (hm : mb M = cc) (hd : decode cc pc = .ok (.iand, 1)) : exM X M pc ls (.int (nI y) :: .int (nI x) :: st) h k s = exM X M (pc + 1) ls (.int (nI (x &&& y)) :: st) h k s := by
  refine x_nx hm hd ?_
  show nx (pc + 1) ls (.int (nI x &&& nI y) :: st) h k s = _
  rw [nI_and]
theorem x_ishlN {y : Nat} (hm : mb M = cc) (hd : decode cc pc = .ok (.ishl, 1)) (hy : y < 31) : exM X M pc ls (.int (nI y) :: .int (nI 1) :: st) h k s = exM X M (pc + 1) ls (.int (nI (2 ^ y)) :: st) h k s := by
  refine x_nx hm hd ?_
  show nx (pc + 1) ls (.int (nI 1 <<< (nI y &&& 31)) :: st) h k s = _
  rw [nI_shl hy]
theorem x_ishrN {x y : Nat} (hm : mb M = cc) (hd : decode cc pc = .ok (.ishr, 1)) (hx : x < 1024) (hy : y < 10) : exM X M pc ls (.int (nI y) :: .int (nI x) :: st) h k s = exM X M (pc + 1) ls (.int (nI (x / 2 ^ y)) :: st) h k s := by
  refine x_nx hm hd ?_
  show nx (pc + 1) ls (.int (nI x >>> (nI y &&& 31)) :: st) h k s = _
  rw [nI_shr hx hy]
end XEQ2
/-! THE WORLD: the class (RallyCard at 0), in the order in which its cells are made; σ p: what the cell p holds of numbers; behind it the law's three rows (at 35, 36, 37) -/
-- 0: RallyCard season=ref 1 rally=ref 30
-- 1: RallyCard$Season results=ref 2 over=σ 1 1
-- 3: RallyCard$Itinerary kinds=ref 4 minutes=ref 5 legs=ref 6 size=σ 3 3
-- 7: RallyCard$Orders cars=ref 8 sizes=ref 9
-- 10: RallyCard$Cards itinerary=ref 3 orders=ref 7 stamps=ref 11 delays=ref 12 penalties=ref 13 late=ref 14 retired=ref 15 askedAgain=ref 16
-- 17: RallyCard$Stages itinerary=ref 3 orders=ref 7 cards=ref 10 beams=ref 18 hands=ref 19 awards=ref 20 heldUp=ref 21 ownTimes=ref 22 times=ref 23 bestTimes=ref 24
-- 25: RallyCard$Tyres allocated=ref 26 fined=ref 27 counts=ref 28 penalties=ref 29
-- 30: RallyCard$Rally itinerary=ref 3 orders=ref 7 cards=ref 10 stages=ref 17 tyres=ref 25 ranks=ref 31
-- 31: RallyCard$Ranks cards=ref 10 stages=ref 17 tyres=ref 25 totals=ref 32 isIn=ref 33 places=ref 34
def dA (δ : Nat → Int32) : rE := .inl (0, 3, .inl δ)
def kA (κ : Nat → Int32) : rE := .inl (0, 20, .inl κ)
def tA (τ : Nat → Int32) : rE := .inl (0, 10, .inl τ)
/-- t: what lies behind -/
def WW (σ : Nat → Nat → Int32) (t : rH) : rH := (.inr (8, [.ref 1, .ref 30])) ::
  (.inr (5, [.ref 2, .int (σ 1 1)])) ::
  (.inl (0, 60, .inl (σ 2))) ::
  (.inr (1, [.ref 4, .ref 5, .ref 6, .int (σ 3 3)])) ::
  (.inl (0, 20, .inl (σ 4))) ::
  (.inl (0, 20, .inl (σ 5))) ::
  (.inl (0, 20, .inl (σ 6))) ::
  (.inr (2, [.ref 8, .ref 9])) ::
  (.inl (0, 200, .inl (σ 8))) ::
  (.inl (0, 20, .inl (σ 9))) ::
  (.inr (0, [.ref 3, .ref 7, .ref 11, .ref 12, .ref 13, .ref 14, .ref 15, .ref 16])) ::
  (.inl (0, 200, .inl (σ 11))) ::
  (.inl (0, 200, .inl (σ 12))) ::
  (.inl (0, 10, .inl (σ 13))) ::
  (.inl (0, 10, .inl (σ 14))) ::
  (.inl (1, 10, .inl (σ 15))) ::
  (.inl (1, 10, .inl (σ 16))) ::
  (.inr (6, [.ref 3, .ref 7, .ref 10, .ref 18, .ref 19, .ref 20, .ref 21, .ref 22, .ref 23, .ref 24])) ::
  (.inl (0, 200, .inl (σ 18))) ::
  (.inl (0, 200, .inl (σ 19))) ::
  (.inl (0, 200, .inl (σ 20))) ::
  (.inl (1, 200, .inl (σ 21))) ::
  (.inl (0, 200, .inl (σ 22))) ::
  (.inl (0, 200, .inl (σ 23))) ::
  (.inl (0, 20, .inl (σ 24))) ::
  (.inr (7, [.ref 26, .ref 27, .ref 28, .ref 29])) ::
  (.inl (1, 1000, .inl (σ 26))) ::
  (.inl (1, 1000, .inl (σ 27))) ::
  (.inl (0, 10, .inl (σ 28))) ::
  (.inl (0, 10, .inl (σ 29))) ::
  (.inr (3, [.ref 3, .ref 7, .ref 10, .ref 17, .ref 25, .ref 31])) ::
  (.inr (4, [.ref 10, .ref 17, .ref 25, .ref 32, .ref 33, .ref 34])) ::
  (.inl (0, 10, .inl (σ 32))) ::
  (.inl (1, 10, .inl (σ 33))) ::
  (.inl (0, 10, .inl (σ 34))) :: t
def u2 (σ : Nat → Nat → Int32) (p i : Nat) (x : Int32) : Nat → Nat → Int32 := fun a => if a = p then upd (σ p) i x else σ a
theorem wg0 {σ : Nat → Nat → Int32} {t : rH} : lk (WW σ t) 0 = some (.inr (8, [.ref 1, .ref 30])) := rfl
theorem wg1 {σ : Nat → Nat → Int32} {t : rH} : lk (WW σ t) 1 = some (.inr (5, [.ref 2, .int (σ 1 1)])) := rfl
theorem wu1_1 {σ : Nat → Nat → Int32} {t : rH} {x : Int32} : (WW σ t).set 1 (.inr (5, [.ref 2, .int x])) = WW (u2 σ 1 1 x) t := rfl
theorem wg2 {σ : Nat → Nat → Int32} {t : rH} : lk (WW σ t) 2 = some (.inl (0, 60, .inl (σ 2))) := rfl
theorem wu2 {σ : Nat → Nat → Int32} {t : rH} {i : Nat} {x : Int32} : (WW σ t).set 2 (.inl (0, 60, .inl (upd (σ 2) i x))) = WW (u2 σ 2 i x) t := rfl
theorem wg3 {σ : Nat → Nat → Int32} {t : rH} : lk (WW σ t) 3 = some (.inr (1, [.ref 4, .ref 5, .ref 6, .int (σ 3 3)])) := rfl
theorem wu3_3 {σ : Nat → Nat → Int32} {t : rH} {x : Int32} : (WW σ t).set 3 (.inr (1, [.ref 4, .ref 5, .ref 6, .int x])) = WW (u2 σ 3 3 x) t := rfl
theorem wg4 {σ : Nat → Nat → Int32} {t : rH} : lk (WW σ t) 4 = some (.inl (0, 20, .inl (σ 4))) := rfl
theorem wu4 {σ : Nat → Nat → Int32} {t : rH} {i : Nat} {x : Int32} : (WW σ t).set 4 (.inl (0, 20, .inl (upd (σ 4) i x))) = WW (u2 σ 4 i x) t := rfl
theorem wg5 {σ : Nat → Nat → Int32} {t : rH} : lk (WW σ t) 5 = some (.inl (0, 20, .inl (σ 5))) := rfl
theorem wu5 {σ : Nat → Nat → Int32} {t : rH} {i : Nat} {x : Int32} : (WW σ t).set 5 (.inl (0, 20, .inl (upd (σ 5) i x))) = WW (u2 σ 5 i x) t := rfl
theorem wg6 {σ : Nat → Nat → Int32} {t : rH} : lk (WW σ t) 6 = some (.inl (0, 20, .inl (σ 6))) := rfl
theorem wu6 {σ : Nat → Nat → Int32} {t : rH} {i : Nat} {x : Int32} : (WW σ t).set 6 (.inl (0, 20, .inl (upd (σ 6) i x))) = WW (u2 σ 6 i x) t := rfl
theorem wg7 {σ : Nat → Nat → Int32} {t : rH} : lk (WW σ t) 7 = some (.inr (2, [.ref 8, .ref 9])) := rfl
theorem wg8 {σ : Nat → Nat → Int32} {t : rH} : lk (WW σ t) 8 = some (.inl (0, 200, .inl (σ 8))) := rfl
theorem wu8 {σ : Nat → Nat → Int32} {t : rH} {i : Nat} {x : Int32} : (WW σ t).set 8 (.inl (0, 200, .inl (upd (σ 8) i x))) = WW (u2 σ 8 i x) t := rfl
theorem wg9 {σ : Nat → Nat → Int32} {t : rH} : lk (WW σ t) 9 = some (.inl (0, 20, .inl (σ 9))) := rfl
theorem wu9 {σ : Nat → Nat → Int32} {t : rH} {i : Nat} {x : Int32} : (WW σ t).set 9 (.inl (0, 20, .inl (upd (σ 9) i x))) = WW (u2 σ 9 i x) t := rfl
theorem wg10 {σ : Nat → Nat → Int32} {t : rH} : lk (WW σ t) 10 = some (.inr (0, [.ref 3, .ref 7, .ref 11, .ref 12, .ref 13, .ref 14, .ref 15, .ref 16])) := rfl
theorem wg11 {σ : Nat → Nat → Int32} {t : rH} : lk (WW σ t) 11 = some (.inl (0, 200, .inl (σ 11))) := rfl
theorem wu11 {σ : Nat → Nat → Int32} {t : rH} {i : Nat} {x : Int32} : (WW σ t).set 11 (.inl (0, 200, .inl (upd (σ 11) i x))) = WW (u2 σ 11 i x) t := rfl
theorem wg12 {σ : Nat → Nat → Int32} {t : rH} : lk (WW σ t) 12 = some (.inl (0, 200, .inl (σ 12))) := rfl
theorem wu12 {σ : Nat → Nat → Int32} {t : rH} {i : Nat} {x : Int32} : (WW σ t).set 12 (.inl (0, 200, .inl (upd (σ 12) i x))) = WW (u2 σ 12 i x) t := rfl
theorem wg13 {σ : Nat → Nat → Int32} {t : rH} : lk (WW σ t) 13 = some (.inl (0, 10, .inl (σ 13))) := rfl
theorem wu13 {σ : Nat → Nat → Int32} {t : rH} {i : Nat} {x : Int32} : (WW σ t).set 13 (.inl (0, 10, .inl (upd (σ 13) i x))) = WW (u2 σ 13 i x) t := rfl
theorem wg14 {σ : Nat → Nat → Int32} {t : rH} : lk (WW σ t) 14 = some (.inl (0, 10, .inl (σ 14))) := rfl
theorem wu14 {σ : Nat → Nat → Int32} {t : rH} {i : Nat} {x : Int32} : (WW σ t).set 14 (.inl (0, 10, .inl (upd (σ 14) i x))) = WW (u2 σ 14 i x) t := rfl
theorem wg15 {σ : Nat → Nat → Int32} {t : rH} : lk (WW σ t) 15 = some (.inl (1, 10, .inl (σ 15))) := rfl
theorem wu15 {σ : Nat → Nat → Int32} {t : rH} {i : Nat} {x : Int32} : (WW σ t).set 15 (.inl (1, 10, .inl (upd (σ 15) i x))) = WW (u2 σ 15 i x) t := rfl
theorem wg16 {σ : Nat → Nat → Int32} {t : rH} : lk (WW σ t) 16 = some (.inl (1, 10, .inl (σ 16))) := rfl
theorem wu16 {σ : Nat → Nat → Int32} {t : rH} {i : Nat} {x : Int32} : (WW σ t).set 16 (.inl (1, 10, .inl (upd (σ 16) i x))) = WW (u2 σ 16 i x) t := rfl
theorem wg17 {σ : Nat → Nat → Int32} {t : rH} : lk (WW σ t) 17 = some (.inr (6, [.ref 3, .ref 7, .ref 10, .ref 18, .ref 19, .ref 20, .ref 21, .ref 22, .ref 23, .ref 24])) := rfl
theorem wg18 {σ : Nat → Nat → Int32} {t : rH} : lk (WW σ t) 18 = some (.inl (0, 200, .inl (σ 18))) := rfl
theorem wu18 {σ : Nat → Nat → Int32} {t : rH} {i : Nat} {x : Int32} : (WW σ t).set 18 (.inl (0, 200, .inl (upd (σ 18) i x))) = WW (u2 σ 18 i x) t := rfl
theorem wg19 {σ : Nat → Nat → Int32} {t : rH} : lk (WW σ t) 19 = some (.inl (0, 200, .inl (σ 19))) := rfl
theorem wu19 {σ : Nat → Nat → Int32} {t : rH} {i : Nat} {x : Int32} : (WW σ t).set 19 (.inl (0, 200, .inl (upd (σ 19) i x))) = WW (u2 σ 19 i x) t := rfl
theorem wg20 {σ : Nat → Nat → Int32} {t : rH} : lk (WW σ t) 20 = some (.inl (0, 200, .inl (σ 20))) := rfl
theorem wu20 {σ : Nat → Nat → Int32} {t : rH} {i : Nat} {x : Int32} : (WW σ t).set 20 (.inl (0, 200, .inl (upd (σ 20) i x))) = WW (u2 σ 20 i x) t := rfl
theorem wg21 {σ : Nat → Nat → Int32} {t : rH} : lk (WW σ t) 21 = some (.inl (1, 200, .inl (σ 21))) := rfl
theorem wu21 {σ : Nat → Nat → Int32} {t : rH} {i : Nat} {x : Int32} : (WW σ t).set 21 (.inl (1, 200, .inl (upd (σ 21) i x))) = WW (u2 σ 21 i x) t := rfl
theorem wg22 {σ : Nat → Nat → Int32} {t : rH} : lk (WW σ t) 22 = some (.inl (0, 200, .inl (σ 22))) := rfl
theorem wu22 {σ : Nat → Nat → Int32} {t : rH} {i : Nat} {x : Int32} : (WW σ t).set 22 (.inl (0, 200, .inl (upd (σ 22) i x))) = WW (u2 σ 22 i x) t := rfl
theorem wg23 {σ : Nat → Nat → Int32} {t : rH} : lk (WW σ t) 23 = some (.inl (0, 200, .inl (σ 23))) := rfl
theorem wu23 {σ : Nat → Nat → Int32} {t : rH} {i : Nat} {x : Int32} : (WW σ t).set 23 (.inl (0, 200, .inl (upd (σ 23) i x))) = WW (u2 σ 23 i x) t := rfl
theorem wg24 {σ : Nat → Nat → Int32} {t : rH} : lk (WW σ t) 24 = some (.inl (0, 20, .inl (σ 24))) := rfl
theorem wu24 {σ : Nat → Nat → Int32} {t : rH} {i : Nat} {x : Int32} : (WW σ t).set 24 (.inl (0, 20, .inl (upd (σ 24) i x))) = WW (u2 σ 24 i x) t := rfl
theorem wg25 {σ : Nat → Nat → Int32} {t : rH} : lk (WW σ t) 25 = some (.inr (7, [.ref 26, .ref 27, .ref 28, .ref 29])) := rfl
theorem wg26 {σ : Nat → Nat → Int32} {t : rH} : lk (WW σ t) 26 = some (.inl (1, 1000, .inl (σ 26))) := rfl
theorem wu26 {σ : Nat → Nat → Int32} {t : rH} {i : Nat} {x : Int32} : (WW σ t).set 26 (.inl (1, 1000, .inl (upd (σ 26) i x))) = WW (u2 σ 26 i x) t := rfl
theorem wg27 {σ : Nat → Nat → Int32} {t : rH} : lk (WW σ t) 27 = some (.inl (1, 1000, .inl (σ 27))) := rfl
theorem wu27 {σ : Nat → Nat → Int32} {t : rH} {i : Nat} {x : Int32} : (WW σ t).set 27 (.inl (1, 1000, .inl (upd (σ 27) i x))) = WW (u2 σ 27 i x) t := rfl
theorem wg28 {σ : Nat → Nat → Int32} {t : rH} : lk (WW σ t) 28 = some (.inl (0, 10, .inl (σ 28))) := rfl
theorem wu28 {σ : Nat → Nat → Int32} {t : rH} {i : Nat} {x : Int32} : (WW σ t).set 28 (.inl (0, 10, .inl (upd (σ 28) i x))) = WW (u2 σ 28 i x) t := rfl
theorem wg29 {σ : Nat → Nat → Int32} {t : rH} : lk (WW σ t) 29 = some (.inl (0, 10, .inl (σ 29))) := rfl
theorem wu29 {σ : Nat → Nat → Int32} {t : rH} {i : Nat} {x : Int32} : (WW σ t).set 29 (.inl (0, 10, .inl (upd (σ 29) i x))) = WW (u2 σ 29 i x) t := rfl
theorem wg30 {σ : Nat → Nat → Int32} {t : rH} : lk (WW σ t) 30 = some (.inr (3, [.ref 3, .ref 7, .ref 10, .ref 17, .ref 25, .ref 31])) := rfl
theorem wg31 {σ : Nat → Nat → Int32} {t : rH} : lk (WW σ t) 31 = some (.inr (4, [.ref 10, .ref 17, .ref 25, .ref 32, .ref 33, .ref 34])) := rfl
theorem wg32 {σ : Nat → Nat → Int32} {t : rH} : lk (WW σ t) 32 = some (.inl (0, 10, .inl (σ 32))) := rfl
theorem wu32 {σ : Nat → Nat → Int32} {t : rH} {i : Nat} {x : Int32} : (WW σ t).set 32 (.inl (0, 10, .inl (upd (σ 32) i x))) = WW (u2 σ 32 i x) t := rfl
theorem wg33 {σ : Nat → Nat → Int32} {t : rH} : lk (WW σ t) 33 = some (.inl (1, 10, .inl (σ 33))) := rfl
theorem wu33 {σ : Nat → Nat → Int32} {t : rH} {i : Nat} {x : Int32} : (WW σ t).set 33 (.inl (1, 10, .inl (upd (σ 33) i x))) = WW (u2 σ 33 i x) t := rfl
theorem wg34 {σ : Nat → Nat → Int32} {t : rH} : lk (WW σ t) 34 = some (.inl (0, 10, .inl (σ 34))) := rfl
theorem wu34 {σ : Nat → Nat → Int32} {t : rH} {i : Nat} {x : Int32} : (WW σ t).set 34 (.inl (0, 10, .inl (upd (σ 34) i x))) = WW (u2 σ 34 i x) t := rfl
theorem wg35 {σ : Nat → Nat → Int32} {δ κ τ : Nat → Int32} {t : rH} : lk (WW σ (dA δ :: kA κ :: tA τ :: t)) 35 = some (.inl (0, 3, .inl δ)) := rfl
theorem wu35 {σ : Nat → Nat → Int32} {δ κ τ : Nat → Int32} {t : rH} {i : Nat} {x : Int32} : (WW σ (dA δ :: kA κ :: tA τ :: t)).set 35 (.inl (0, 3, .inl (upd δ i x))) = WW σ (dA (upd δ i x) :: kA κ :: tA τ :: t) := rfl
theorem wg36 {σ : Nat → Nat → Int32} {δ κ τ : Nat → Int32} {t : rH} : lk (WW σ (dA δ :: kA κ :: tA τ :: t)) 36 = some (.inl (0, 20, .inl κ)) := rfl
theorem wu36 {σ : Nat → Nat → Int32} {δ κ τ : Nat → Int32} {t : rH} {i : Nat} {x : Int32} : (WW σ (dA δ :: kA κ :: tA τ :: t)).set 36 (.inl (0, 20, .inl (upd κ i x))) = WW σ (dA δ :: kA (upd κ i x) :: tA τ :: t) := rfl
theorem wg37 {σ : Nat → Nat → Int32} {δ κ τ : Nat → Int32} {t : rH} : lk (WW σ (dA δ :: kA κ :: tA τ :: t)) 37 = some (.inl (0, 10, .inl τ)) := rfl
theorem wu37 {σ : Nat → Nat → Int32} {δ κ τ : Nat → Int32} {t : rH} {i : Nat} {x : Int32} : (WW σ (dA δ :: kA κ :: tA τ :: t)).set 37 (.inl (0, 10, .inl (upd τ i x))) = WW σ (dA δ :: kA κ :: tA (upd τ i x) :: t) := rfl
