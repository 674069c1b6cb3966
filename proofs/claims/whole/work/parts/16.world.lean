section XEQ2
variable {X : rX} {M pc : Nat} {cc : ByteArray} {ls : rL} {st : List Value} {h : rH} {k s : Nat}
theorem x_idiv {x y : Int32} (hm : mb M = cc) (hd : decode cc pc = .ok (.idiv, 1)) (hy : ¬ y = 0) : exM X M pc ls (.int y :: .int x :: st) h k s = exM X M (pc + 1) ls (.int (x / y) :: st) h k s := by
  refine x_nx hm hd ?_
  show (if y = 0 then none else nx (pc + 1) ls (.int (x / y) :: st) h k s) = _
  rw [if_neg hy]
theorem x_iret {v : Int32} (hm : mb M = cc) (hd : decode cc pc = .ok (.ireturn, 1)) (hr : mr M = some .int) : exM X M pc ls [.int v] h k s = some (.inl (some (.int v)), h, k, s) := by
  refine x_end hm hd ?_
  show retI M [.int v] h k s = _
  simp only [retI, hr]
  exact if_pos rfl
theorem x_tsw {x : Int32} {d lo hi : Int} {offs : Array Int} {len t : Nat} (hm : mb M = cc) (hd : decode cc pc = .ok (.tableswitch d lo hi offs, len)) (hx : x.toInt < lo ∨ hi < x.toInt) (ht : tgt pc d = some t) : exM X M pc ls (.int x :: st) h k s = exM X M t ls st h k s := by
  refine x_nx hm hd ?_
  show tsw d lo hi offs pc ls (.int x :: st) h k s = _
  simp only [tsw]
  rw [if_pos hx, ht]
theorem x_throw {ix n : Nat} (hm : mb M = cc) (hd : decode cc pc = .ok (.new ix, 3)) (hex : exRow excT M ix pc = some n) (hd3 : decode cc (pc + 3) = .ok (.dup, 1)) (hd9 : decode cc (pc + 9) = .ok (.athrow, 1)) (hc : asc clsT (ow M) ix = none) (hh : mh M = []) (hr : 6 ≤ fr M ∧ vcat st + 82 ≤ lo M) : exM X M pc ls st h k s = some (.inr n, h, k + 1, s + 6) := by
  refine x_end hm hd ?_
  show newo M ix pc ls st h k s = _
  simp only [newo, hc, hex]
  rw [if_pos ⟨by rw [hm]; exact hd3, by rw [hm]; exact hd9, hh, hr.1, hr.2⟩]
theorem x_newo {ix ci : Nat} (hm : mb M = cc) (hd : decode cc pc = .ok (.new ix, 3)) (hc : asc clsT (ow M) ix = some ci) (hl : h.length < 99999) : exM X M pc ls st h k s = exM X M (pc + 3) ls (.ref h.length :: st) (h ++ [.inr (ci, dfl ci)]) (k + 1) (s + (clC ci).2.2) := by
  refine x_nx hm hd ?_
  show newo M ix pc ls st h k s = _
  simp only [newo, hc]
  rw [if_pos hl]
theorem x_newa0 {n : Nat} (hm : mb M = cc) (hd : decode cc pc = .ok (.newarray .int, 2)) (hn : n < 1000000) (hl : h.length < 99999) : exM X M pc ls (.int (nI n) :: st) h k s = exM X M (pc + 2) ls (.ref h.length :: st) (h ++ [.inl (0, n, .inl fun _ => 0)]) (k + 1) (s + n) := by
  refine x_nx hm hd ?_
  show newa .int pc ls (.int (nI n) :: st) h k s = _
  simp only [newa, nI_clamp (show n < 2 ^ 31 by omega)]
  rw [if_neg (fun z => z.elim (nI_pos (by omega)) (fun z => z.elim (fun z => by omega) (fun z => by omega)))]
theorem x_newa1 {n : Nat} (hm : mb M = cc) (hd : decode cc pc = .ok (.newarray .boolean, 2)) (hn : n < 1000000) (hl : h.length < 99999) : exM X M pc ls (.int (nI n) :: st) h k s = exM X M (pc + 2) ls (.ref h.length :: st) (h ++ [.inl (1, n, .inl fun _ => 0)]) (k + 1) (s + n) := by
  refine x_nx hm hd ?_
  show newa .boolean pc ls (.int (nI n) :: st) h k s = _
  simp only [newa, nI_clamp (show n < 2 ^ 31 by omega)]
  rw [if_neg (fun z => z.elim (nI_pos (by omega)) (fun z => z.elim (fun z => by omega) (fun z => by omega)))]
theorem x_newa2 {n : Nat} (hm : mb M = cc) (hd : decode cc pc = .ok (.newarray .long, 2)) (hn : n < 1000000) (hl : h.length < 99999) : exM X M pc ls (.int (nI n) :: st) h k s = exM X M (pc + 2) ls (.ref h.length :: st) (h ++ [.inl (2, n, .inr (.inl fun _ => 0))]) (k + 1) (s + n) := by
  refine x_nx hm hd ?_
  show newa .long pc ls (.int (nI n) :: st) h k s = _
  simp only [newa, nI_clamp (show n < 2 ^ 31 by omega)]
  rw [if_neg (fun z => z.elim (nI_pos (by omega)) (fun z => z.elim (fun z => by omega) (fun z => by omega)))]
theorem x_alen {n p : Nat} {f : Nat → Int32} (hm : mb M = cc) (hd : decode cc pc = .ok (.arraylength, 1)) (hp : lk h p = some (.inl (0, n, .inl f))) : exM X M pc ls (.ref p :: st) h k s = exM X M (pc + 1) ls (.int (nI n) :: st) h k s := by
  refine x_nx hm hd ?_
  show alen X pc ls (.ref p :: st) h k s = _
  simp only [alen, hp]
  rfl
theorem x_xlen {n p : Nat} {f : Nat → Int32} (hm : mb M = cc) (hd : decode cc pc = .ok (.arraylength, 1)) (hp : lk h p = none) (hx : xar X p = some (n, f)) : exM X M pc ls (.ref p :: st) h k s = exM X M (pc + 1) ls (.int (nI n) :: st) h k s := by
  refine x_nx hm hd ?_
  show alen X pc ls (.ref p :: st) h k s = _
  simp only [alen, hp, hx]
  rfl
end XEQ2
/-! THE WORLD: the class (RallyCard at 0), the reference (at 35), the law's out (at 57), in the order in which they are made; σ p: what the cell p holds of numbers -/
-- 0: RallyCard season=ref 1 rally=ref 30
-- 1: RallyCard$Season results=ref 2 over=σ 1 1
-- 3: RallyCard$Itinerary kinds=ref 4 minutes=ref 5 legs=ref 6 size=σ 3 3
-- 7: RallyCard$Orders cars=ref 8 sizes=ref 9
-- 10: RallyCard$Cards itinerary=ref 3 orders=ref 7 stamps=ref 11 delays=ref 12 penalties=ref 13 late=ref 14 retired=ref 15 askedAgain=ref 16
-- 17: RallyCard$Stages itinerary=ref 3 orders=ref 7 cards=ref 10 beams=ref 18 hands=ref 19 awards=ref 20 heldUp=ref 21 ownTimes=ref 22 times=ref 23 bestTimes=ref 24
-- 25: RallyCard$Tyres allocated=ref 26 fined=ref 27 counts=ref 28 penalties=ref 29
-- 30: RallyCard$Rally itinerary=ref 3 orders=ref 7 cards=ref 10 stages=ref 17 tyres=ref 25 ranks=ref 31
-- 31: RallyCard$Ranks cards=ref 10 stages=ref 17 tyres=ref 25 totals=ref 32 isIn=ref 33 places=ref 34
-- 35: RallyCardModel thrown=σ 35 0 items=σ 35 1 kind=ref 36 minutes=ref 37 order=ref 38 many=ref 39 stamped=ref 40 delays=ref 41 beam=ref 42 hand=ref 43 isHeld=ref 44 award=ref 45 penalty=ref 46 late=ref 47 isOut=ref 48 isRetired=ref 49 asks=ref 50 isOwn=ref 51 isSeen=ref 52 tyres=ref 53 rallies=σ 35 20 place=ref 54 rank=ref 55 total=ref 56
def outc (τ : Nat → Int64) : rE := .inl (2, 1, .inr (.inl τ))
/-- t: what lies behind: the out row [outc τ] (at 57), and what is made later -/
def WW (σ : Nat → Nat → Int32) (t : rH) : rH := (.inr (8, [.ref 1, .ref 30])) ::
  (.inr (5, [.ref 2, .int (σ 1 1)])) ::
  (.inl (0, 60, .inl (σ 2))) ::
  (.inr (1, [.ref 4, .ref 5, .ref 6, .int (σ 3 3)])) ::
  (.inl (0, 20, .inl (σ 4))) ::
  (.inl (0, 20, .inl (σ 5))) ::
  (.inl (0, 20, .inl (σ 6))) ::
  (.inr (2, [.ref 8, .ref 9])) ::
  (.inl (0, 200, .inl (σ 8))) ::
  (.inl (0, 20, .inl (σ 9))) ::
  (.inr (0, [.ref 3, .ref 7, .ref 11, .ref 12, .ref 13, .ref 14, .ref 15, .ref 16])) ::
  (.inl (0, 200, .inl (σ 11))) ::
  (.inl (0, 200, .inl (σ 12))) ::
  (.inl (0, 10, .inl (σ 13))) ::
  (.inl (0, 10, .inl (σ 14))) ::
  (.inl (1, 10, .inl (σ 15))) ::
  (.inl (1, 10, .inl (σ 16))) ::
  (.inr (6, [.ref 3, .ref 7, .ref 10, .ref 18, .ref 19, .ref 20, .ref 21, .ref 22, .ref 23, .ref 24])) ::
  (.inl (0, 200, .inl (σ 18))) ::
  (.inl (0, 200, .inl (σ 19))) ::
  (.inl (0, 200, .inl (σ 20))) ::
  (.inl (1, 200, .inl (σ 21))) ::
  (.inl (0, 200, .inl (σ 22))) ::
  (.inl (0, 200, .inl (σ 23))) ::
  (.inl (0, 20, .inl (σ 24))) ::
  (.inr (7, [.ref 26, .ref 27, .ref 28, .ref 29])) ::
  (.inl (1, 1000, .inl (σ 26))) ::
  (.inl (1, 1000, .inl (σ 27))) ::
  (.inl (0, 10, .inl (σ 28))) ::
  (.inl (0, 10, .inl (σ 29))) ::
  (.inr (3, [.ref 3, .ref 7, .ref 10, .ref 17, .ref 25, .ref 31])) ::
  (.inr (4, [.ref 10, .ref 17, .ref 25, .ref 32, .ref 33, .ref 34])) ::
  (.inl (0, 10, .inl (σ 32))) ::
  (.inl (1, 10, .inl (σ 33))) ::
  (.inl (0, 10, .inl (σ 34))) ::
  (.inr (9, [.int (σ 35 0), .int (σ 35 1), .ref 36, .ref 37, .ref 38, .ref 39, .ref 40, .ref 41, .ref 42, .ref 43, .ref 44, .ref 45, .ref 46, .ref 47, .ref 48, .ref 49, .ref 50, .ref 51, .ref 52, .ref 53, .int (σ 35 20), .ref 54, .ref 55, .ref 56])) ::
  (.inl (0, 20, .inl (σ 36))) ::
  (.inl (0, 20, .inl (σ 37))) ::
  (.inl (0, 200, .inl (σ 38))) ::
  (.inl (0, 20, .inl (σ 39))) ::
  (.inl (0, 200, .inl (σ 40))) ::
  (.inl (0, 200, .inl (σ 41))) ::
  (.inl (0, 200, .inl (σ 42))) ::
  (.inl (0, 200, .inl (σ 43))) ::
  (.inl (1, 200, .inl (σ 44))) ::
  (.inl (0, 200, .inl (σ 45))) ::
  (.inl (0, 10, .inl (σ 46))) ::
  (.inl (0, 10, .inl (σ 47))) ::
  (.inl (1, 10, .inl (σ 48))) ::
  (.inl (1, 10, .inl (σ 49))) ::
  (.inl (1, 10, .inl (σ 50))) ::
  (.inl (1, 1000, .inl (σ 51))) ::
  (.inl (1, 1000, .inl (σ 52))) ::
  (.inl (0, 10, .inl (σ 53))) ::
  (.inl (0, 60, .inl (σ 54))) ::
  (.inl (0, 10, .inl (σ 55))) ::
  (.inl (0, 10, .inl (σ 56))) :: t
def u2 (σ : Nat → Nat → Int32) (p i : Nat) (x : Int32) : Nat → Nat → Int32 := fun a => if a = p then upd (σ p) i x else σ a
theorem wg0 {σ : Nat → Nat → Int32} {t : rH} : lk (WW σ t) 0 = some (.inr (8, [.ref 1, .ref 30])) := rfl
theorem wg1 {σ : Nat → Nat → Int32} {t : rH} : lk (WW σ t) 1 = some (.inr (5, [.ref 2, .int (σ 1 1)])) := rfl
theorem wu1_1 {σ : Nat → Nat → Int32} {t : rH} {x : Int32} : (WW σ t).set 1 (.inr (5, [.ref 2, .int x])) = WW (u2 σ 1 1 x) t := rfl
theorem wg2 {σ : Nat → Nat → Int32} {t : rH} : lk (WW σ t) 2 = some (.inl (0, 60, .inl (σ 2))) := rfl
theorem wu2 {σ : Nat → Nat → Int32} {t : rH} {i : Nat} {x : Int32} : (WW σ t).set 2 (.inl (0, 60, .inl (upd (σ 2) i x))) = WW (u2 σ 2 i x) t := rfl
theorem wg3 {σ : Nat → Nat → Int32} {t : rH} : lk (WW σ t) 3 = some (.inr (1, [.ref 4, .ref 5, .ref 6, .int (σ 3 3)])) := rfl
theorem wu3_3 {σ : Nat → Nat → Int32} {t : rH} {x : Int32} : (WW σ t).set 3 (.inr (1, [.ref 4, .ref 5, .ref 6, .int x])) = WW (u2 σ 3 3 x) t := rfl
theorem wg4 {σ : Nat → Nat → Int32} {t : rH} : lk (WW σ t) 4 = some (.inl (0, 20, .inl (σ 4))) := rfl
theorem wu4 {σ : Nat → Nat → Int32} {t : rH} {i : Nat} {x : Int32} : (WW σ t).set 4 (.inl (0, 20, .inl (upd (σ 4) i x))) = WW (u2 σ 4 i x) t := rfl
theorem wg5 {σ : Nat → Nat → Int32} {t : rH} : lk (WW σ t) 5 = some (.inl (0, 20, .inl (σ 5))) := rfl
theorem wu5 {σ : Nat → Nat → Int32} {t : rH} {i : Nat} {x : Int32} : (WW σ t).set 5 (.inl (0, 20, .inl (upd (σ 5) i x))) = WW (u2 σ 5 i x) t := rfl
theorem wg6 {σ : Nat → Nat → Int32} {t : rH} : lk (WW σ t) 6 = some (.inl (0, 20, .inl (σ 6))) := rfl
theorem wu6 {σ : Nat → Nat → Int32} {t : rH} {i : Nat} {x : Int32} : (WW σ t).set 6 (.inl (0, 20, .inl (upd (σ 6) i x))) = WW (u2 σ 6 i x) t := rfl
theorem wg7 {σ : Nat → Nat → Int32} {t : rH} : lk (WW σ t) 7 = some (.inr (2, [.ref 8, .ref 9])) := rfl
theorem wg8 {σ : Nat → Nat → Int32} {t : rH} : lk (WW σ t) 8 = some (.inl (0, 200, .inl (σ 8))) := rfl
theorem wu8 {σ : Nat → Nat → Int32} {t : rH} {i : Nat} {x : Int32} : (WW σ t).set 8 (.inl (0, 200, .inl (upd (σ 8) i x))) = WW (u2 σ 8 i x) t := rfl
theorem wg9 {σ : Nat → Nat → Int32} {t : rH} : lk (WW σ t) 9 = some (.inl (0, 20, .inl (σ 9))) := rfl
theorem wu9 {σ : Nat → Nat → Int32} {t : rH} {i : Nat} {x : Int32} : (WW σ t).set 9 (.inl (0, 20, .inl (upd (σ 9) i x))) = WW (u2 σ 9 i x) t := rfl
theorem wg10 {σ : Nat → Nat → Int32} {t : rH} : lk (WW σ t) 10 = some (.inr (0, [.ref 3, .ref 7, .ref 11, .ref 12, .ref 13, .ref 14, .ref 15, .ref 16])) := rfl
theorem wg11 {σ : Nat → Nat → Int32} {t : rH} : lk (WW σ t) 11 = some (.inl (0, 200, .inl (σ 11))) := rfl
theorem wu11 {σ : Nat → Nat → Int32} {t : rH} {i : Nat} {x : Int32} : (WW σ t).set 11 (.inl (0, 200, .inl (upd (σ 11) i x))) = WW (u2 σ 11 i x) t := rfl
theorem wg12 {σ : Nat → Nat → Int32} {t : rH} : lk (WW σ t) 12 = some (.inl (0, 200, .inl (σ 12))) := rfl
theorem wu12 {σ : Nat → Nat → Int32} {t : rH} {i : Nat} {x : Int32} : (WW σ t).set 12 (.inl (0, 200, .inl (upd (σ 12) i x))) = WW (u2 σ 12 i x) t := rfl
theorem wg13 {σ : Nat → Nat → Int32} {t : rH} : lk (WW σ t) 13 = some (.inl (0, 10, .inl (σ 13))) := rfl
theorem wu13 {σ : Nat → Nat → Int32} {t : rH} {i : Nat} {x : Int32} : (WW σ t).set 13 (.inl (0, 10, .inl (upd (σ 13) i x))) = WW (u2 σ 13 i x) t := rfl
theorem wg14 {σ : Nat → Nat → Int32} {t : rH} : lk (WW σ t) 14 = some (.inl (0, 10, .inl (σ 14))) := rfl
theorem wu14 {σ : Nat → Nat → Int32} {t : rH} {i : Nat} {x : Int32} : (WW σ t).set 14 (.inl (0, 10, .inl (upd (σ 14) i x))) = WW (u2 σ 14 i x) t := rfl
theorem wg15 {σ : Nat → Nat → Int32} {t : rH} : lk (WW σ t) 15 = some (.inl (1, 10, .inl (σ 15))) := rfl
theorem wu15 {σ : Nat → Nat → Int32} {t : rH} {i : Nat} {x : Int32} : (WW σ t).set 15 (.inl (1, 10, .inl (upd (σ 15) i x))) = WW (u2 σ 15 i x) t := rfl
theorem wg16 {σ : Nat → Nat → Int32} {t : rH} : lk (WW σ t) 16 = some (.inl (1, 10, .inl (σ 16))) := rfl
theorem wu16 {σ : Nat → Nat → Int32} {t : rH} {i : Nat} {x : Int32} : (WW σ t).set 16 (.inl (1, 10, .inl (upd (σ 16) i x))) = WW (u2 σ 16 i x) t := rfl
theorem wg17 {σ : Nat → Nat → Int32} {t : rH} : lk (WW σ t) 17 = some (.inr (6, [.ref 3, .ref 7, .ref 10, .ref 18, .ref 19, .ref 20, .ref 21, .ref 22, .ref 23, .ref 24])) := rfl
theorem wg18 {σ : Nat → Nat → Int32} {t : rH} : lk (WW σ t) 18 = some (.inl (0, 200, .inl (σ 18))) := rfl
theorem wu18 {σ : Nat → Nat → Int32} {t : rH} {i : Nat} {x : Int32} : (WW σ t).set 18 (.inl (0, 200, .inl (upd (σ 18) i x))) = WW (u2 σ 18 i x) t := rfl
theorem wg19 {σ : Nat → Nat → Int32} {t : rH} : lk (WW σ t) 19 = some (.inl (0, 200, .inl (σ 19))) := rfl
theorem wu19 {σ : Nat → Nat → Int32} {t : rH} {i : Nat} {x : Int32} : (WW σ t).set 19 (.inl (0, 200, .inl (upd (σ 19) i x))) = WW (u2 σ 19 i x) t := rfl
theorem wg20 {σ : Nat → Nat → Int32} {t : rH} : lk (WW σ t) 20 = some (.inl (0, 200, .inl (σ 20))) := rfl
theorem wu20 {σ : Nat → Nat → Int32} {t : rH} {i : Nat} {x : Int32} : (WW σ t).set 20 (.inl (0, 200, .inl (upd (σ 20) i x))) = WW (u2 σ 20 i x) t := rfl
theorem wg21 {σ : Nat → Nat → Int32} {t : rH} : lk (WW σ t) 21 = some (.inl (1, 200, .inl (σ 21))) := rfl
theorem wu21 {σ : Nat → Nat → Int32} {t : rH} {i : Nat} {x : Int32} : (WW σ t).set 21 (.inl (1, 200, .inl (upd (σ 21) i x))) = WW (u2 σ 21 i x) t := rfl
theorem wg22 {σ : Nat → Nat → Int32} {t : rH} : lk (WW σ t) 22 = some (.inl (0, 200, .inl (σ 22))) := rfl
theorem wu22 {σ : Nat → Nat → Int32} {t : rH} {i : Nat} {x : Int32} : (WW σ t).set 22 (.inl (0, 200, .inl (upd (σ 22) i x))) = WW (u2 σ 22 i x) t := rfl
theorem wg23 {σ : Nat → Nat → Int32} {t : rH} : lk (WW σ t) 23 = some (.inl (0, 200, .inl (σ 23))) := rfl
theorem wu23 {σ : Nat → Nat → Int32} {t : rH} {i : Nat} {x : Int32} : (WW σ t).set 23 (.inl (0, 200, .inl (upd (σ 23) i x))) = WW (u2 σ 23 i x) t := rfl
theorem wg24 {σ : Nat → Nat → Int32} {t : rH} : lk (WW σ t) 24 = some (.inl (0, 20, .inl (σ 24))) := rfl
theorem wu24 {σ : Nat → Nat → Int32} {t : rH} {i : Nat} {x : Int32} : (WW σ t).set 24 (.inl (0, 20, .inl (upd (σ 24) i x))) = WW (u2 σ 24 i x) t := rfl
theorem wg25 {σ : Nat → Nat → Int32} {t : rH} : lk (WW σ t) 25 = some (.inr (7, [.ref 26, .ref 27, .ref 28, .ref 29])) := rfl
theorem wg26 {σ : Nat → Nat → Int32} {t : rH} : lk (WW σ t) 26 = some (.inl (1, 1000, .inl (σ 26))) := rfl
theorem wu26 {σ : Nat → Nat → Int32} {t : rH} {i : Nat} {x : Int32} : (WW σ t).set 26 (.inl (1, 1000, .inl (upd (σ 26) i x))) = WW (u2 σ 26 i x) t := rfl
theorem wg27 {σ : Nat → Nat → Int32} {t : rH} : lk (WW σ t) 27 = some (.inl (1, 1000, .inl (σ 27))) := rfl
theorem wu27 {σ : Nat → Nat → Int32} {t : rH} {i : Nat} {x : Int32} : (WW σ t).set 27 (.inl (1, 1000, .inl (upd (σ 27) i x))) = WW (u2 σ 27 i x) t := rfl
theorem wg28 {σ : Nat → Nat → Int32} {t : rH} : lk (WW σ t) 28 = some (.inl (0, 10, .inl (σ 28))) := rfl
theorem wu28 {σ : Nat → Nat → Int32} {t : rH} {i : Nat} {x : Int32} : (WW σ t).set 28 (.inl (0, 10, .inl (upd (σ 28) i x))) = WW (u2 σ 28 i x) t := rfl
theorem wg29 {σ : Nat → Nat → Int32} {t : rH} : lk (WW σ t) 29 = some (.inl (0, 10, .inl (σ 29))) := rfl
theorem wu29 {σ : Nat → Nat → Int32} {t : rH} {i : Nat} {x : Int32} : (WW σ t).set 29 (.inl (0, 10, .inl (upd (σ 29) i x))) = WW (u2 σ 29 i x) t := rfl
theorem wg30 {σ : Nat → Nat → Int32} {t : rH} : lk (WW σ t) 30 = some (.inr (3, [.ref 3, .ref 7, .ref 10, .ref 17, .ref 25, .ref 31])) := rfl
theorem wg31 {σ : Nat → Nat → Int32} {t : rH} : lk (WW σ t) 31 = some (.inr (4, [.ref 10, .ref 17, .ref 25, .ref 32, .ref 33, .ref 34])) := rfl
theorem wg32 {σ : Nat → Nat → Int32} {t : rH} : lk (WW σ t) 32 = some (.inl (0, 10, .inl (σ 32))) := rfl
theorem wu32 {σ : Nat → Nat → Int32} {t : rH} {i : Nat} {x : Int32} : (WW σ t).set 32 (.inl (0, 10, .inl (upd (σ 32) i x))) = WW (u2 σ 32 i x) t := rfl
theorem wg33 {σ : Nat → Nat → Int32} {t : rH} : lk (WW σ t) 33 = some (.inl (1, 10, .inl (σ 33))) := rfl
theorem wu33 {σ : Nat → Nat → Int32} {t : rH} {i : Nat} {x : Int32} : (WW σ t).set 33 (.inl (1, 10, .inl (upd (σ 33) i x))) = WW (u2 σ 33 i x) t := rfl
theorem wg34 {σ : Nat → Nat → Int32} {t : rH} : lk (WW σ t) 34 = some (.inl (0, 10, .inl (σ 34))) := rfl
theorem wu34 {σ : Nat → Nat → Int32} {t : rH} {i : Nat} {x : Int32} : (WW σ t).set 34 (.inl (0, 10, .inl (upd (σ 34) i x))) = WW (u2 σ 34 i x) t := rfl
theorem wg35 {σ : Nat → Nat → Int32} {t : rH} : lk (WW σ t) 35 = some (.inr (9, [.int (σ 35 0), .int (σ 35 1), .ref 36, .ref 37, .ref 38, .ref 39, .ref 40, .ref 41, .ref 42, .ref 43, .ref 44, .ref 45, .ref 46, .ref 47, .ref 48, .ref 49, .ref 50, .ref 51, .ref 52, .ref 53, .int (σ 35 20), .ref 54, .ref 55, .ref 56])) := rfl
theorem wu35_0 {σ : Nat → Nat → Int32} {t : rH} {x : Int32} : (WW σ t).set 35 (.inr (9, [.int x, .int (σ 35 1), .ref 36, .ref 37, .ref 38, .ref 39, .ref 40, .ref 41, .ref 42, .ref 43, .ref 44, .ref 45, .ref 46, .ref 47, .ref 48, .ref 49, .ref 50, .ref 51, .ref 52, .ref 53, .int (σ 35 20), .ref 54, .ref 55, .ref 56])) = WW (u2 σ 35 0 x) t := rfl
theorem wu35_1 {σ : Nat → Nat → Int32} {t : rH} {x : Int32} : (WW σ t).set 35 (.inr (9, [.int (σ 35 0), .int x, .ref 36, .ref 37, .ref 38, .ref 39, .ref 40, .ref 41, .ref 42, .ref 43, .ref 44, .ref 45, .ref 46, .ref 47, .ref 48, .ref 49, .ref 50, .ref 51, .ref 52, .ref 53, .int (σ 35 20), .ref 54, .ref 55, .ref 56])) = WW (u2 σ 35 1 x) t := rfl
theorem wu35_20 {σ : Nat → Nat → Int32} {t : rH} {x : Int32} : (WW σ t).set 35 (.inr (9, [.int (σ 35 0), .int (σ 35 1), .ref 36, .ref 37, .ref 38, .ref 39, .ref 40, .ref 41, .ref 42, .ref 43, .ref 44, .ref 45, .ref 46, .ref 47, .ref 48, .ref 49, .ref 50, .ref 51, .ref 52, .ref 53, .int x, .ref 54, .ref 55, .ref 56])) = WW (u2 σ 35 20 x) t := rfl
theorem wg36 {σ : Nat → Nat → Int32} {t : rH} : lk (WW σ t) 36 = some (.inl (0, 20, .inl (σ 36))) := rfl
theorem wu36 {σ : Nat → Nat → Int32} {t : rH} {i : Nat} {x : Int32} : (WW σ t).set 36 (.inl (0, 20, .inl (upd (σ 36) i x))) = WW (u2 σ 36 i x) t := rfl
theorem wg37 {σ : Nat → Nat → Int32} {t : rH} : lk (WW σ t) 37 = some (.inl (0, 20, .inl (σ 37))) := rfl
theorem wu37 {σ : Nat → Nat → Int32} {t : rH} {i : Nat} {x : Int32} : (WW σ t).set 37 (.inl (0, 20, .inl (upd (σ 37) i x))) = WW (u2 σ 37 i x) t := rfl
theorem wg38 {σ : Nat → Nat → Int32} {t : rH} : lk (WW σ t) 38 = some (.inl (0, 200, .inl (σ 38))) := rfl
theorem wu38 {σ : Nat → Nat → Int32} {t : rH} {i : Nat} {x : Int32} : (WW σ t).set 38 (.inl (0, 200, .inl (upd (σ 38) i x))) = WW (u2 σ 38 i x) t := rfl
theorem wg39 {σ : Nat → Nat → Int32} {t : rH} : lk (WW σ t) 39 = some (.inl (0, 20, .inl (σ 39))) := rfl
theorem wu39 {σ : Nat → Nat → Int32} {t : rH} {i : Nat} {x : Int32} : (WW σ t).set 39 (.inl (0, 20, .inl (upd (σ 39) i x))) = WW (u2 σ 39 i x) t := rfl
theorem wg40 {σ : Nat → Nat → Int32} {t : rH} : lk (WW σ t) 40 = some (.inl (0, 200, .inl (σ 40))) := rfl
theorem wu40 {σ : Nat → Nat → Int32} {t : rH} {i : Nat} {x : Int32} : (WW σ t).set 40 (.inl (0, 200, .inl (upd (σ 40) i x))) = WW (u2 σ 40 i x) t := rfl
theorem wg41 {σ : Nat → Nat → Int32} {t : rH} : lk (WW σ t) 41 = some (.inl (0, 200, .inl (σ 41))) := rfl
theorem wu41 {σ : Nat → Nat → Int32} {t : rH} {i : Nat} {x : Int32} : (WW σ t).set 41 (.inl (0, 200, .inl (upd (σ 41) i x))) = WW (u2 σ 41 i x) t := rfl
theorem wg42 {σ : Nat → Nat → Int32} {t : rH} : lk (WW σ t) 42 = some (.inl (0, 200, .inl (σ 42))) := rfl
theorem wu42 {σ : Nat → Nat → Int32} {t : rH} {i : Nat} {x : Int32} : (WW σ t).set 42 (.inl (0, 200, .inl (upd (σ 42) i x))) = WW (u2 σ 42 i x) t := rfl
theorem wg43 {σ : Nat → Nat → Int32} {t : rH} : lk (WW σ t) 43 = some (.inl (0, 200, .inl (σ 43))) := rfl
theorem wu43 {σ : Nat → Nat → Int32} {t : rH} {i : Nat} {x : Int32} : (WW σ t).set 43 (.inl (0, 200, .inl (upd (σ 43) i x))) = WW (u2 σ 43 i x) t := rfl
theorem wg44 {σ : Nat → Nat → Int32} {t : rH} : lk (WW σ t) 44 = some (.inl (1, 200, .inl (σ 44))) := rfl
theorem wu44 {σ : Nat → Nat → Int32} {t : rH} {i : Nat} {x : Int32} : (WW σ t).set 44 (.inl (1, 200, .inl (upd (σ 44) i x))) = WW (u2 σ 44 i x) t := rfl
theorem wg45 {σ : Nat → Nat → Int32} {t : rH} : lk (WW σ t) 45 = some (.inl (0, 200, .inl (σ 45))) := rfl
theorem wu45 {σ : Nat → Nat → Int32} {t : rH} {i : Nat} {x : Int32} : (WW σ t).set 45 (.inl (0, 200, .inl (upd (σ 45) i x))) = WW (u2 σ 45 i x) t := rfl
theorem wg46 {σ : Nat → Nat → Int32} {t : rH} : lk (WW σ t) 46 = some (.inl (0, 10, .inl (σ 46))) := rfl
theorem wu46 {σ : Nat → Nat → Int32} {t : rH} {i : Nat} {x : Int32} : (WW σ t).set 46 (.inl (0, 10, .inl (upd (σ 46) i x))) = WW (u2 σ 46 i x) t := rfl
theorem wg47 {σ : Nat → Nat → Int32} {t : rH} : lk (WW σ t) 47 = some (.inl (0, 10, .inl (σ 47))) := rfl
theorem wu47 {σ : Nat → Nat → Int32} {t : rH} {i : Nat} {x : Int32} : (WW σ t).set 47 (.inl (0, 10, .inl (upd (σ 47) i x))) = WW (u2 σ 47 i x) t := rfl
theorem wg48 {σ : Nat → Nat → Int32} {t : rH} : lk (WW σ t) 48 = some (.inl (1, 10, .inl (σ 48))) := rfl
theorem wu48 {σ : Nat → Nat → Int32} {t : rH} {i : Nat} {x : Int32} : (WW σ t).set 48 (.inl (1, 10, .inl (upd (σ 48) i x))) = WW (u2 σ 48 i x) t := rfl
theorem wg49 {σ : Nat → Nat → Int32} {t : rH} : lk (WW σ t) 49 = some (.inl (1, 10, .inl (σ 49))) := rfl
theorem wu49 {σ : Nat → Nat → Int32} {t : rH} {i : Nat} {x : Int32} : (WW σ t).set 49 (.inl (1, 10, .inl (upd (σ 49) i x))) = WW (u2 σ 49 i x) t := rfl
theorem wg50 {σ : Nat → Nat → Int32} {t : rH} : lk (WW σ t) 50 = some (.inl (1, 10, .inl (σ 50))) := rfl
theorem wu50 {σ : Nat → Nat → Int32} {t : rH} {i : Nat} {x : Int32} : (WW σ t).set 50 (.inl (1, 10, .inl (upd (σ 50) i x))) = WW (u2 σ 50 i x) t := rfl
theorem wg51 {σ : Nat → Nat → Int32} {t : rH} : lk (WW σ t) 51 = some (.inl (1, 1000, .inl (σ 51))) := rfl
theorem wu51 {σ : Nat → Nat → Int32} {t : rH} {i : Nat} {x : Int32} : (WW σ t).set 51 (.inl (1, 1000, .inl (upd (σ 51) i x))) = WW (u2 σ 51 i x) t := rfl
theorem wg52 {σ : Nat → Nat → Int32} {t : rH} : lk (WW σ t) 52 = some (.inl (1, 1000, .inl (σ 52))) := rfl
theorem wu52 {σ : Nat → Nat → Int32} {t : rH} {i : Nat} {x : Int32} : (WW σ t).set 52 (.inl (1, 1000, .inl (upd (σ 52) i x))) = WW (u2 σ 52 i x) t := rfl
theorem wg53 {σ : Nat → Nat → Int32} {t : rH} : lk (WW σ t) 53 = some (.inl (0, 10, .inl (σ 53))) := rfl
theorem wu53 {σ : Nat → Nat → Int32} {t : rH} {i : Nat} {x : Int32} : (WW σ t).set 53 (.inl (0, 10, .inl (upd (σ 53) i x))) = WW (u2 σ 53 i x) t := rfl
theorem wg54 {σ : Nat → Nat → Int32} {t : rH} : lk (WW σ t) 54 = some (.inl (0, 60, .inl (σ 54))) := rfl
theorem wu54 {σ : Nat → Nat → Int32} {t : rH} {i : Nat} {x : Int32} : (WW σ t).set 54 (.inl (0, 60, .inl (upd (σ 54) i x))) = WW (u2 σ 54 i x) t := rfl
theorem wg55 {σ : Nat → Nat → Int32} {t : rH} : lk (WW σ t) 55 = some (.inl (0, 10, .inl (σ 55))) := rfl
theorem wu55 {σ : Nat → Nat → Int32} {t : rH} {i : Nat} {x : Int32} : (WW σ t).set 55 (.inl (0, 10, .inl (upd (σ 55) i x))) = WW (u2 σ 55 i x) t := rfl
theorem wg56 {σ : Nat → Nat → Int32} {t : rH} : lk (WW σ t) 56 = some (.inl (0, 10, .inl (σ 56))) := rfl
theorem wu56 {σ : Nat → Nat → Int32} {t : rH} {i : Nat} {x : Int32} : (WW σ t).set 56 (.inl (0, 10, .inl (upd (σ 56) i x))) = WW (u2 σ 56 i x) t := rfl
theorem wg57 {σ : Nat → Nat → Int32} {τ : Nat → Int64} {t : rH} : lk (WW σ (outc τ :: t)) 57 = some (.inl (2, 1, .inr (.inl τ))) := rfl
theorem wu57 {σ : Nat → Nat → Int32} {τ : Nat → Int64} {t : rH} {i : Nat} {x : Int64} : (WW σ (outc τ :: t)).set 57 (.inl (2, 1, .inr (.inl (vp_updL τ i x)))) = WW σ (outc (vp_updL τ i x) :: t) := rfl
