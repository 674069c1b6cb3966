/-! THE MACHINE OF PICTURES: what a method computes over an abstract heap, a list of cells; a reference is a place in that list -/
abbrev rE : Type := (Nat × vp_A) ⊕ (Nat × List Value)
abbrev rH : Type := List rE
abbrev rL : Type := List (Option Value)
/-- returned, with what; or thrown, the class's number -/
abbrev rO : Type := Option Value ⊕ Nat
abbrev rR : Type := rO × rH × Nat × Nat
/-- a frame: pc, locals, stack, heap, cells and slots made so far -/
abbrev rF : Type := Nat × rL × List Value × rH × Nat × Nat
abbrev rS : Type := Option (rF ⊕ ((Nat × List Value × List Value) ⊕ rR))
abbrev rX : Type := Nat × (Nat → Int32)
def nx (pc : Nat) (ls : rL) (st : List Value) (h : rH) (k s : Nat) : rS := some (.inl (pc, ls, st, h, k, s))
def lk (h : rH) (p : Nat) : Option rE := if p < 99999 then h[p]? else none
def pts : List Int32 := [25, 18, 15, 12, 10, 8, 6, 4, 2, 1]
def ptf (j : Nat) : Int32 := pts.getD j 0
/-- the arrays that nobody writes: the script, the points -/
def xar (X : rX) (p : Nat) : Option rX := if p = 100000 then some X else if p = 100001 then some (10, ptf) else none
def vcat (st : List Value) : Nat := (st.map fun v => v.category).sum
def tgt (pc : Nat) (off : Int) : Option Nat := if 0 ≤ (pc : Int) + off then some ((pc : Int) + off).toNat else none
def jmp (t : Option Nat) (a b : Nat) (q : Bool) (ls : rL) (st : List Value) (h : rH) (k s : Nat) : rS := match t with
  | some t => nx (if q = true then t else b) ls st h k s
  | none => none
def ldI (ls : rL) (i pc : Nat) (st : List Value) (h : rH) (k s : Nat) : rS := match ls[i]? with
  | some (some (.int x)) => nx pc ls (.int x :: st) h k s
  | _ => none
def ldA (ls : rL) (i pc : Nat) (st : List Value) (h : rH) (k s : Nat) : rS := match ls[i]? with
  | some (some (.ref x)) => nx pc ls (.ref x :: st) h k s
  | _ => none
def stI (ls : rL) (i pc : Nat) (st : List Value) (h : rH) (k s : Nat) : rS := match st with
  | .int x :: r => if i < ls.length then nx pc (ls.set i (some (.int x))) r h k s else none
  | _ => none
def stA (ls : rL) (i pc : Nat) (st : List Value) (h : rH) (k s : Nat) : rS := match st with
  | .ref x :: r => if i < ls.length then nx pc (ls.set i (some (.ref x))) r h k s else none
  | _ => none
def bin (f : Int32 → Int32 → Int32) (pc : Nat) (ls : rL) (st : List Value) (h : rH) (k s : Nat) : rS := match st with
  | .int y :: .int x :: r => nx pc ls (.int (f x y) :: r) h k s
  | _ => none
def icmp (f : Int32 → Int32 → Bool) (t : Option Nat) (pc : Nat) (ls : rL) (st : List Value) (h : rH) (k s : Nat) : rS := match st with
  | .int y :: .int x :: r => jmp t pc (pc + 3) (f x y) ls r h k s
  | _ => none
def icm0 (f : Int32 → Bool) (t : Option Nat) (pc : Nat) (ls : rL) (st : List Value) (h : rH) (k s : Nat) : rS := match st with
  | .int x :: r => jmp t pc (pc + 3) (f x) ls r h k s
  | _ => none
def aget (X : rX) (ty pc : Nat) (ls : rL) (st : List Value) (h : rH) (k s : Nat) : rS := match st with
  | .int i :: .ref p :: r => match lk h p with
    | some (.inl (t, n, .inl f)) => if t = ty then (if i < 0 ∨ n ≤ i.toNatClampNeg then none else nx (pc + 1) ls (.int (f i.toNatClampNeg) :: r) h k s) else none
    | some _ => none
    | none => match xar X p with
      | some (n, f) => if ty = 0 then (if i < 0 ∨ n ≤ i.toNatClampNeg then none else nx (pc + 1) ls (.int (f i.toNatClampNeg) :: r) h k s) else none
      | none => none
  | _ => none
def aput (pc : Nat) (ls : rL) (st : List Value) (h : rH) (k s : Nat) : rS := match st with
  | .int x :: .int i :: .ref p :: r => match lk h p with
    | some (.inl (t, n, .inl f)) => if t = 0 then (if i < 0 ∨ n ≤ i.toNatClampNeg then none else nx (pc + 1) ls r (h.set p (.inl (0, n, .inl (upd f i.toNatClampNeg x)))) k s) else none
    | _ => none
  | _ => none
def aputZ (pc : Nat) (ls : rL) (st : List Value) (h : rH) (k s : Nat) : rS := match st with
  | .int x :: .int i :: .ref p :: r => match lk h p with
    | some (.inl (t, n, .inl f)) => if t = 1 then (if i < 0 ∨ n ≤ i.toNatClampNeg then none else nx (pc + 1) ls r (h.set p (.inl (1, n, .inl (upd f i.toNatClampNeg (vp_nar .boolean x))))) k s) else none
    | _ => none
  | _ => none
def alen (X : rX) (pc : Nat) (ls : rL) (st : List Value) (h : rH) (k s : Nat) : rS := match st with
  | .ref p :: r => match lk h p with
    | some (.inl (t, x)) => if t < 2 then nx (pc + 1) ls (.int (Int32.ofNat x.1) :: r) h k s else none
    | some _ => none
    | none => match xar X p with
      | some (n, _) => nx (pc + 1) ls (.int (Int32.ofNat n) :: r) h k s
      | none => none
  | _ => none
def tyC (ci : Nat) : Nat → FieldType := match ci with
  | 0 => tyX0
  | 1 => tyX1
  | 2 => tyX2
  | 3 => tyX3
  | 4 => tyX4
  | 5 => tyX5
  | 6 => tyX6
  | 7 => tyX7
  | 8 => tyX8
  | _ => tyX9
def dfl (ci : Nat) : List Value := (List.range (clC ci).2.2).map fun k => defaultValue (tyC ci k)
def fget (M ix pc : Nat) (ls : rL) (st : List Value) (h : rH) (k s : Nat) : rS := match st with
  | .ref p :: r => match asc fldT (ow M) ix with
    | some (ci, kf, _) => match lk h p with
      | some (.inr (c2, fs)) => if c2 = ci then (match fs[kf]? with
        | some v => nx (pc + 3) ls (v :: r) h k s
        | none => none) else none
      | _ => none
    | none => none
  | _ => none
def fput (M ix pc : Nat) (ls : rL) (st : List Value) (h : rH) (k s : Nat) : rS := match st with
  | v :: .ref p :: r => match asc fldT (ow M) ix with
    | some (ci, kf, ne) => match lk h p with
      | some (.inr (c2, fs)) =>
        if c2 = ci ∧ kf < fs.length ∧ fits (tyC ci kf) v = true ∧ narrow (tyC ci kf) v = v ∧ ne = false ∧ (((clC ci).2.1 kf).2.2.2 = true → (my M).name = "<init>" ∧ ((clC ci).2.1 kf).1 = rn (ow M)) then nx (pc + 3) ls r (h.set p (.inr (ci, fs.set kf v))) k s else none
      | _ => none
    | none => none
  | _ => none
def sget (M ix pc : Nat) (ls : rL) (st : List Value) (h : rH) (k s : Nat) : rS := match asc staT (ow M) ix with
  | some e => nx (pc + 3) ls (.ref e :: st) h k s
  | none => none
/-- the row of excT of a 'throw new E("text")' at pc -/
def exRow (t : List (Nat × Nat × Nat × Nat × Nat × String)) (M ix pc : Nat) : Option Nat := match t with
  | [] => none
  | q :: t => if q.1 = ow M ∧ q.2.1 = ix ∧ decode (mb M) (pc + 4) = .ok (.ldc q.2.2.1, 2) ∧ decode (mb M) (pc + 6) = .ok (.invokespecial q.2.2.2.1, 3) then some q.2.2.2.2.1 else exRow t M ix pc
def newo (M ix pc : Nat) (ls : rL) (st : List Value) (h : rH) (k s : Nat) : rS := match asc clsT (ow M) ix with
  | some ci => if h.length < 99999 then nx (pc + 3) ls (.ref h.length :: st) (h ++ [.inr (ci, dfl ci)]) (k + 1) (s + (clC ci).2.2) else none
  | none => match exRow excT M ix pc with
    | some e => if decode (mb M) (pc + 3) = .ok (.dup, 1) ∧ decode (mb M) (pc + 9) = .ok (.athrow, 1) ∧ mh M = [] ∧ 6 ≤ fr M ∧ vcat st + 82 ≤ lo M then some (.inr (.inr (.inr e, h, k + 1, s + 6))) else none
    | none => none
def newa (t : ArrayType) (pc : Nat) (ls : rL) (st : List Value) (h : rH) (k s : Nat) : rS := match st with
  | .int n :: r => if n < 0 ∨ 1000000 < n.toNatClampNeg ∨ 99999 ≤ h.length then none else (match t with
    | .int => nx (pc + 2) ls (.ref h.length :: r) (h ++ [.inl (0, n.toNatClampNeg, .inl fun _ => 0)]) (k + 1) (s + n.toNatClampNeg)
    | .boolean => nx (pc + 2) ls (.ref h.length :: r) (h ++ [.inl (1, n.toNatClampNeg, .inl fun _ => 0)]) (k + 1) (s + n.toNatClampNeg)
    | _ => none)
  | _ => none
def okA (y : Nat) (as : List Value) : Bool := as.all (fun v => v.category == 1) && as.length ≤ ml y
def rooms (M y : Nat) (rest : List Value) : Bool := fr y + 1 ≤ fr M && 8 + (ml y + 11) + lo y ≤ lo M && vcat rest ≤ 8
def invS (M ix : Nat) (st : List Value) : rS := match asc mthT (ow M) ix with
  | some (y, ne) => if mst y = true ∧ ne = false ∧ mna y ≤ st.length ∧ okA y (st.take (mna y)).reverse = true ∧ rooms M y (st.drop (mna y)) = true then some (.inr (.inl (y, (st.take (mna y)).reverse, st.drop (mna y)))) else none
  | none => none
def invV (M ix : Nat) (st : List Value) (h : rH) : rS := match asc mthT (ow M) ix with
  | some (y, ne) => match st.drop (mna y) with
    | .ref p :: r => match lk h p with
      | some (.inr (c2, _)) => if mst y = false ∧ ne = false ∧ (my y).name ≠ "<init>" ∧ c2 = ow y ∧ c2 < 9 ∧ mh y = [] ∧ okA y (.ref p :: (st.take (mna y)).reverse) = true ∧ rooms M y r = true then some (.inr (.inl (y, .ref p :: (st.take (mna y)).reverse, r))) else none
      | _ => none
    | _ => none
  | none => none
def invI (M ix pc : Nat) (ls : rL) (st : List Value) (h : rH) (k s : Nat) : rS := match asc objT (ow M) ix with
  | some _ => match st with
    | .ref _ :: r => if 1 ≤ fr M ∧ vcat r + 12 ≤ lo M then nx (pc + 3) ls r h k s else none
    | _ => none
  | none => match asc mthT (ow M) ix with
    | some (y, _) => match st.drop (mna y) with
      | .ref p :: r => if mst y = false ∧ (my y).name = "<init>" ∧ mr y = none ∧ mh y = [] ∧ okA y (.ref p :: (st.take (mna y)).reverse) = true ∧ rooms M y r = true then some (.inr (.inl (y, .ref p :: (st.take (mna y)).reverse, r))) else none
      | _ => none
    | none => none
def done (r : rO) (h : rH) (k s : Nat) : rS := some (.inr (.inr (r, h, k, s)))
def retI (M : Nat) (st : List Value) (h : rH) (k s : Nat) : rS := match st with
  | [.int v] => match mr M with
    | some ty => if narrow ty (.int v) = .int v then done (.inl (some (.int v))) h k s else none
    | none => none
  | _ => none
def retA (M : Nat) (st : List Value) (h : rH) (k s : Nat) : rS := match st with
  | [.ref p] => match mr M with
    | some (.object _) => done (.inl (some (.ref p))) h k s
    | _ => none
  | _ => none
def retV (M : Nat) (st : List Value) (h : rH) (k s : Nat) : rS := match st with
  | [] => match mr M with
    | none => done (.inl none) h k s
    | some _ => none
  | _ => none
def tsw (d lo hi : Int) (offs : Array Int) (pc : Nat) (ls : rL) (st : List Value) (h : rH) (k s : Nat) : rS := match st with
  | .int x :: r => if x.toInt < lo ∨ hi < x.toInt then (match tgt pc d with
      | some t => nx t ls r h k s
      | none => none) else (match offs[(x.toInt - lo).toNat]? with
      | some off => (match tgt pc off with
        | some t => nx t ls r h k s
        | none => none)
      | none => none)
  | _ => none
/-- the instruction, of its written length -/
def okl (i : Instr) (len : Nat) : Bool := match i with
  | .tableswitch _ _ _ _ => true
  | .bipush _ => len == 2
  | .iload _ => len == 2
  | .aload _ => len == 2
  | .istore _ => len == 2
  | .astore _ => len == 2
  | .ldc _ => len == 2
  | .newarray _ => len == 2
  | .sipush _ => len == 3
  | .ldc_w _ => len == 3
  | .goto _ => len == 3
  | .ifCond _ _ => len == 3
  | .if_icmp _ _ => len == 3
  | .iinc _ _ => len == 3
  | .getfield _ => len == 3
  | .putfield _ => len == 3
  | .getstatic _ => len == 3
  | .new _ => len == 3
  | .invokestatic _ => len == 3
  | .invokevirtual _ => len == 3
  | .invokespecial _ => len == 3
  | _ => len == 1
def stepI (X : rX) (M pc : Nat) (i : Instr) (ls : rL) (st : List Value) (h : rH) (k s : Nat) : rS := match i with
  | .iconst n => nx (pc + 1) ls (.int (Int32.ofInt n) :: st) h k s
  | .bipush n => nx (pc + 2) ls (.int (Int8.ofInt n).toInt32 :: st) h k s
  | .sipush n => nx (pc + 3) ls (.int (Int16.ofInt n).toInt32 :: st) h k s
  | .ldc ix => (match asc cstT (ow M) ix with
    | some v => nx (pc + 2) ls (.int v :: st) h k s
    | none => none)
  | .ldc_w ix => (match asc cstT (ow M) ix with
    | some v => nx (pc + 3) ls (.int v :: st) h k s
    | none => none)
  | .iload_n i => ldI ls i.val (pc + 1) st h k s
  | .iload i => ldI ls i (pc + 2) st h k s
  | .aload_n i => ldA ls i.val (pc + 1) st h k s
  | .aload i => ldA ls i (pc + 2) st h k s
  | .istore_n i => stI ls i.val (pc + 1) st h k s
  | .istore i => stI ls i (pc + 2) st h k s
  | .astore_n i => stA ls i.val (pc + 1) st h k s
  | .astore i => stA ls i (pc + 2) st h k s
  | .iinc i n => (match ls[i]? with
    | some (some (.int x)) => nx (pc + 3) (ls.set i (some (.int (x + Int32.ofInt n)))) st h k s
    | _ => none)
  | .iadd => bin (fun x y => x + y) (pc + 1) ls st h k s
  | .isub => bin (fun x y => x - y) (pc + 1) ls st h k s
  | .imul => bin (fun x y => x * y) (pc + 1) ls st h k s
  | .iand => bin (fun x y => x &&& y) (pc + 1) ls st h k s
  | .ixor => bin (fun x y => x ^^^ y) (pc + 1) ls st h k s
  | .ior => bin (fun x y => x ||| y) (pc + 1) ls st h k s
  | .ishl => bin (fun x y => x <<< (y &&& 31)) (pc + 1) ls st h k s
  | .ishr => bin (fun x y => x >>> (y &&& 31)) (pc + 1) ls st h k s
  | .irem => (match st with
    | .int y :: .int x :: r => if y = 0 then none else nx (pc + 1) ls (.int (x - x / y * y) :: r) h k s
    | _ => none)
  | .idiv => (match st with
    | .int y :: .int x :: r => if y = 0 then none else nx (pc + 1) ls (.int (x / y) :: r) h k s
    | _ => none)
  | .ineg => (match st with
    | .int x :: r => nx (pc + 1) ls (.int (-x) :: r) h k s
    | _ => none)
  | .i2l => (match st with
    | .int x :: r => nx (pc + 1) ls (.long x.toInt64 :: r) h k s
    | _ => none)
  | .lcmp => (match st with
    | .long y :: .long x :: r => nx (pc + 1) ls (.int (lg_cmp x y) :: r) h k s
    | _ => none)
  | .dup => (match st with
    | .int x :: r => nx (pc + 1) ls (.int x :: .int x :: r) h k s
    | .ref x :: r => nx (pc + 1) ls (.ref x :: .ref x :: r) h k s
    | _ => none)
  | .dup2 => (match st with
    | .int y :: .ref x :: r => nx (pc + 1) ls (.int y :: .ref x :: .int y :: .ref x :: r) h k s
    | _ => none)
  | .ifCond .eq o => icm0 (fun x => decide (x = 0)) (tgt pc o) pc ls st h k s
  | .ifCond .ne o => icm0 (fun x => decide (¬ x = 0)) (tgt pc o) pc ls st h k s
  | .ifCond .lt o => icm0 (fun x => decide (x < 0)) (tgt pc o) pc ls st h k s
  | .ifCond .ge o => icm0 (fun x => decide (0 ≤ x)) (tgt pc o) pc ls st h k s
  | .ifCond .gt o => icm0 (fun x => decide (0 < x)) (tgt pc o) pc ls st h k s
  | .ifCond .le o => icm0 (fun x => decide (x ≤ 0)) (tgt pc o) pc ls st h k s
  | .if_icmp .eq o => icmp (fun x y => decide (x = y)) (tgt pc o) pc ls st h k s
  | .if_icmp .ne o => icmp (fun x y => decide (¬ x = y)) (tgt pc o) pc ls st h k s
  | .if_icmp .lt o => icmp (fun x y => decide (x < y)) (tgt pc o) pc ls st h k s
  | .if_icmp .ge o => icmp (fun x y => decide (y ≤ x)) (tgt pc o) pc ls st h k s
  | .if_icmp .gt o => icmp (fun x y => decide (y < x)) (tgt pc o) pc ls st h k s
  | .if_icmp .le o => icmp (fun x y => decide (x ≤ y)) (tgt pc o) pc ls st h k s
  | .goto o => (match tgt pc o with
    | some t => nx t ls st h k s
    | none => none)
  | .tableswitch d lo hi offs => tsw d lo hi offs pc ls st h k s
  | .iaload => aget X 0 pc ls st h k s
  | .baload => aget X 1 pc ls st h k s
  | .iastore => aput pc ls st h k s
  | .bastore => aputZ pc ls st h k s
  | .arraylength => alen X pc ls st h k s
  | .getfield ix => fget M ix pc ls st h k s
  | .putfield ix => fput M ix pc ls st h k s
  | .getstatic ix => sget M ix pc ls st h k s
  | .new ix => newo M ix pc ls st h k s
  | .newarray t => newa t pc ls st h k s
  | .invokestatic ix => invS M ix st
  | .invokevirtual ix => invV M ix st h
  | .invokespecial ix => invI M ix pc ls st h k s
  | .ireturn => retI M st h k s
  | .areturn => retA M st h k s
  | .return_ => retV M st h k s
  | _ => none
/-- the wide iinc -/
def stepW (pc len : Nat) (i : Instr) (ls : rL) (st : List Value) (h : rH) (k s : Nat) : rS := if len = 6 then (match i with
  | .iinc i n => (match ls[i]? with
    | some (some (.int x)) => nx (pc + 6) (ls.set i (some (.int (x + Int32.ofInt n)))) st h k s
    | _ => none)
  | _ => none) else none
def stepM (X : rX) (M : Nat) (f : rF) : rS := match decode (mb M) f.1 with
  | .ok (i, len) => if okl i len = true then stepI X M f.1 i f.2.1 f.2.2.1 f.2.2.2.1 f.2.2.2.2.1 f.2.2.2.2.2 else stepW f.1 len i f.2.1 f.2.2.1 f.2.2.2.1 f.2.2.2.2.1 f.2.2.2.2.2
  | .error _ => none
def ent (y : Nat) (as : List Value) (h : rH) : rF := (0, as.map some ++ List.replicate (ml y - as.length) none, [], h, 0, 0)
/-- the handler of a class that is thrown at pc -/
def hnd (o E pc : Nat) : List (Nat × Nat × Nat × Nat) → Option Nat
  | [] => none
  | q :: hs => match asc ctT o q.2.2.2 with
    | some c => if c = E then (if q.1 ≤ pc ∧ pc < q.2.1 then some q.2.2.1 else none) else hnd o E pc hs
    | none => none
/-- behind a callee's throw: caught here, or on to the caller -/
def thr (M E pc : Nat) (ls : rL) (h : rH) (k s : Nat) : Option (rF ⊕ rR) := match hnd (ow M) E pc (mh M) with
  | some t => some (.inl (t, ls, [.ref 99999], h, k, s))
  | none => if mh M = [] then some (.inr (.inr E, h, k, s)) else none
def run (X : rX) : Nat → Nat → rF → Option rR
  | 0, _, _ => none
  | n + 1, M, f => match stepM X M f with
    | none => none
    | some (.inl g) => run X n M g
    | some (.inr (.inr r)) => some r
    | some (.inr (.inl (y, as, rest))) => match run X n y (ent y as f.2.2.2.1) with
      | some (.inl v, h, k, s) => run X n M (f.1 + 3, f.2.1, v.toList ++ rest, h, f.2.2.2.2.1 + k, f.2.2.2.2.2 + s)
      | some (.inr E, h, k, s) => (match thr M E f.1 f.2.1 h (f.2.2.2.2.1 + k) (f.2.2.2.2.2 + s) with
        | some (.inl g) => run X n M g
        | some (.inr r) => some r
        | none => none)
      | none => none
theorem run_mono (X : rX) : ∀ (n M : Nat) (f : rF) (r : rR), run X n M f = some r → run X (n + 1) M f = some r := by
  intro n
  induction n with
  | zero => intro M f r h; simp [run] at h
  | succ n ih =>
    intro M f r h
    rw [run] at h ⊢
    cases hs : stepM X M f with
    | none => rw [hs] at h; exact absurd h (by simp)
    | some q =>
      rw [hs] at h
      rcases q with g | ⟨y, as, rest⟩ | r'
      · exact ih M g r h
      · dsimp only at h ⊢
        cases hc : run X n y (ent y as f.2.2.2.1) with
        | none => rw [hc] at h; exact absurd h (by simp)
        | some q =>
          rw [hc] at h
          rw [ih y _ q hc]
          obtain ⟨o, h1, k, s⟩ := q
          cases o with
          | inl v => exact ih M _ r h
          | inr E =>
            dsimp only at h ⊢
            cases hh : thr M E f.1 f.2.1 h1 (f.2.2.2.2.1 + k) (f.2.2.2.2.2 + s) with
            | none => rw [hh] at h; exact h
            | some t =>
              rw [hh] at h
              rcases t with g | r'
              · exact ih M _ r h
              · exact h
      · exact h
theorem run_le {X : rX} {n n' M : Nat} {f : rF} {r : rR} (h : run X n M f = some r) (hn : n ≤ n') : run X n' M f = some r := by
  induction hn with
  | refl => exact h
  | step _ ih => exact run_mono X _ M f r ih
theorem run_det {X : rX} {n n' M : Nat} {f : rF} {r r' : rR} (h : run X n M f = some r) (h' : run X n' M f = some r') : r = r' := by
  have a := run_le h (Nat.le_max_left n n')
  have b := run_le h' (Nat.le_max_right n n')
  exact Option.some.inj (a.symm.trans b)


noncomputable def exM (X : rX) (M pc : Nat) (ls : rL) (st : List Value) (h : rH) (k s : Nat) : Option rR :=
  haveI := Classical.propDecidable (∃ r, ∃ n, run X n M (pc, ls, st, h, k, s) = some r)
  if q : ∃ r, ∃ n, run X n M (pc, ls, st, h, k, s) = some r then some (Classical.choose q) else none
theorem exM_iff {X : rX} {M pc : Nat} {ls : rL} {st : List Value} {h : rH} {k s : Nat} {r : rR} : exM X M pc ls st h k s = some r ↔ ∃ n, run X n M (pc, ls, st, h, k, s) = some r := by
  unfold exM
  constructor
  · intro e
    split at e
    · rename_i q
      obtain ⟨n, hn⟩ := Classical.choose_spec q
      cases e
      exact ⟨n, hn⟩
    · cases e
  · rintro ⟨n, hn⟩
    have q : ∃ r, ∃ n, run X n M (pc, ls, st, h, k, s) = some r := ⟨r, n, hn⟩
    rw [dif_pos q]
    obtain ⟨n', hn'⟩ := Classical.choose_spec q
    rw [run_det hn' hn]
theorem exM_eq {X : rX} {M pc : Nat} {ls : rL} {st : List Value} {h : rH} {k s : Nat} {M' pc' : Nat} {ls' : rL} {st' : List Value} {h' : rH} {k' s' : Nat}
    (e : ∀ r, (∃ n, run X n M (pc, ls, st, h, k, s) = some r) ↔ ∃ n, run X n M' (pc', ls', st', h', k', s') = some r) : exM X M pc ls st h k s = exM X M' pc' ls' st' h' k' s' := by
  apply Option.ext
  intro r
  rw [exM_iff, exM_iff]
  exact e r
/-- one step -/
theorem ex_nx {X : rX} {M pc : Nat} {ls : rL} {st : List Value} {h : rH} {k s : Nat} {pc' : Nat} {ls' : rL} {st' : List Value} {h' : rH} {k' s' : Nat} (e : stepM X M (pc, ls, st, h, k, s) = some (.inl (pc', ls', st', h', k', s'))) : exM X M pc ls st h k s = exM X M pc' ls' st' h' k' s' := by
  apply exM_eq
  intro r
  constructor
  · rintro ⟨n, hn⟩
    cases n with
    | zero => simp [run] at hn
    | succ n => rw [run, e] at hn; exact ⟨n, hn⟩
  · rintro ⟨n, hn⟩
    exact ⟨n + 1, by rw [run, e]; exact hn⟩
theorem ex_done {X : rX} {M pc : Nat} {ls : rL} {st : List Value} {h : rH} {k s : Nat} {r : rR} (e : stepM X M (pc, ls, st, h, k, s) = some (.inr (.inr r))) : exM X M pc ls st h k s = some r := exM_iff.mpr ⟨1, by rw [run, e]⟩
/-- what comes behind a call -/
def bnd (q : Option rR) (f : Option Value → rH → Nat → Nat → Option rR) (g : Nat → rH → Nat → Nat → Option rR) : Option rR := match q with
  | some (.inl v, h, k, s) => f v h k s
  | some (.inr E, h, k, s) => g E h k s
  | none => none
theorem bnd_l (v : Option Value) (h : rH) (k s : Nat) (f : Option Value → rH → Nat → Nat → Option rR) (g : Nat → rH → Nat → Nat → Option rR) : bnd (some (.inl v, h, k, s)) f g = f v h k s := rfl
theorem bnd_r (E : Nat) (h : rH) (k s : Nat) (f : Option Value → rH → Nat → Nat → Option rR) (g : Nat → rH → Nat → Nat → Option rR) : bnd (some (.inr E, h, k, s)) f g = g E h k s := rfl
noncomputable def exC (X : rX) (y : Nat) (as : List Value) (h : rH) : Option rR := exM X y 0 (as.map some ++ List.replicate (ml y - as.length) none) [] h 0 0
theorem ex_call {X : rX} {M pc : Nat} {ls : rL} {st : List Value} {h : rH} {k s : Nat} {y : Nat} {as rest : List Value} (e : stepM X M (pc, ls, st, h, k, s) = some (.inr (.inl (y, as, rest)))) :
    exM X M pc ls st h k s = bnd (exC X y as h) (fun v h1 k1 s1 => exM X M (pc + 3) ls (v.toList ++ rest) h1 (k + k1) (s + s1)) (fun E h1 k1 s1 => match thr M E pc ls h1 (k + k1) (s + s1) with
      | some (.inl g) => exM X M g.1 g.2.1 g.2.2.1 g.2.2.2.1 g.2.2.2.2.1 g.2.2.2.2.2
      | some (.inr r) => some r
      | none => none) := by
  apply Option.ext
  intro r
  rw [exM_iff]
  constructor
  · rintro ⟨n, hn⟩
    cases n with
    | zero => simp [run] at hn
    | succ n =>
      rw [run, e] at hn
      dsimp only at hn
      cases hc : run X n y (ent y as h) with
      | none => rw [hc] at hn; exact absurd hn (by simp)
      | some q =>
        rw [hc] at hn
        have hq : exC X y as h = some q := exM_iff.mpr ⟨n, hc⟩
        rw [hq]
        obtain ⟨o, h1, k1, s1⟩ := q
        cases o with
        | inl v => exact exM_iff.mpr ⟨n, hn⟩
        | inr E =>
          dsimp only [bnd] at hn ⊢
          cases hh : thr M E pc ls h1 (k + k1) (s + s1) with
          | none => rw [hh] at hn; exact hn
          | some t =>
            rw [hh] at hn
            rcases t with g | r'
            · exact exM_iff.mpr ⟨n, hn⟩
            · exact hn
  · intro hr
    cases hc : exC X y as h with
    | none => rw [hc] at hr; exact absurd hr (by simp [bnd])
    | some q =>
      rw [hc] at hr
      obtain ⟨n, hn⟩ := exM_iff.mp hc
      obtain ⟨o, h1, k1, s1⟩ := q
      have e2 : ∀ N, n ≤ N → run X N y (ent y as h) = some (o, h1, k1, s1) := fun N hN => run_le hn hN
      cases o with
      | inl v =>
        obtain ⟨n2, hn2⟩ := exM_iff.mp (show exM X M (pc + 3) ls (v.toList ++ rest) h1 (k + k1) (s + s1) = some r from hr)
        refine ⟨max n n2 + 1, ?_⟩
        rw [run, e]
        dsimp only
        rw [e2 _ (Nat.le_max_left _ _)]
        exact run_le hn2 (Nat.le_max_right _ _)
      | inr E =>
        dsimp only [bnd] at hr
        cases hh : thr M E pc ls h1 (k + k1) (s + s1) with
        | none => rw [hh] at hr; exact absurd hr (by simp)
        | some t =>
          rw [hh] at hr
          rcases t with g | r'
          · obtain ⟨n2, hn2⟩ := exM_iff.mp hr
            refine ⟨max n n2 + 1, ?_⟩
            rw [run, e]
            dsimp only
            rw [e2 _ (Nat.le_max_left _ _)]
            dsimp only
            rw [hh]
            exact run_le hn2 (Nat.le_max_right _ _)
          · refine ⟨n + 1, ?_⟩
            rw [run, e]
            dsimp only
            rw [e2 _ (Nat.le_refl _)]
            dsimp only
            rw [hh]
            exact hr
