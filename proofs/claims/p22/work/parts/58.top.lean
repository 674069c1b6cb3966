/-! THE CLAIM: from the machine's run to the law's end -/
section TOP
variable {p : Program} {l : Launch} {e : Env} {R : Room} {s : State} {m : MethodId} {args : Array Value} {below : List Frame} {meth : Method} {c : Code} {Q : State → Prop} {D : va_G} {dA : Nat → ClassId} {A : Nat → Prop} {xt : Nat → Option Nat} {X : rX} {M : Nat} {a0 : List Nat}
/-- a run that answers a number: the frame goes on to its return -/
theorem sound_top (hfl : l.stackTraces = false) (hmh : mh M = []) {v : Int32} {hf : rH} {kf sf : Nat} (hcap : kf ≤ R.cells ∧ sf ≤ R.slots) (cx : CX p l R s m args meth c D dA A xt X M)
    (K : ∀ (pc : Nat) (ls : rL), decode (mb M) pc = .ok (.ireturn, 1) → GO p l e R s m args below meth c Q D dA A xt a0 M (pc, ls, [.int v], hf, kf, sf)) :
    ∀ (n : Nat) (f : rF), run X n M f = some (.inl (some (.int v)), hf, kf, sf) → GO p l e R s m args below meth c Q D dA A xt a0 M f := by
  intro n
  induction n with
  | zero => intro f h; cases h
  | succ n ih =>
    intro f h0
    obtain ⟨pc, ls, st, h, ks, ss⟩ := f
    rw [run] at h0
    cases hs : stepM X M (pc, ls, st, h, ks, ss) with
    | none => rw [hs] at h0; cases h0
    | some q =>
      rw [hs] at h0
      rcases q with g | ⟨y, as, rest⟩ | r'
      · have b := run_cap n M g _ h0
        exact go_step cx hs ⟨Nat.le_trans b.1 hcap.1, Nat.le_trans b.2 hcap.2⟩ (ih g h0)
      · dsimp only at h0
        cases hc : run X n y (ent y as h) with
        | none => rw [hc] at h0; cases h0
        | some q =>
          rw [hc] at h0
          have hC : MF y → as.all (fun v => v.category == 1) = true → as.length ≤ ml y → CON l X y as h q := fun m1 m2 m3 => con_of hfl m1 m2 m3 (fun cx htab hcap h1 h2 => sound hfl n y (ent y as h) q hc cx htab hcap h1 h2)
          obtain ⟨o, hh, k1, s1⟩ := q
          cases o with
          | inl v' =>
            have b := run_cap n M _ _ h0
            dsimp only at b
            refine go_call cx hs hC ⟨by dsimp only; omega, by dsimp only; omega⟩ (fun v9 e1 => ?_) (fun n' e1 => by cases e1)
            cases e1
            exact ih _ h0
          | inr E =>
            exfalso
            dsimp only at h0
            cases ht : thr M E pc ls hh (ks + k1) (ss + s1) with
            | none => rw [ht] at h0; cases h0
            | some q =>
              rw [ht] at h0
              rcases thr_spec ht with ⟨t, hhn, rfl⟩ | ⟨hm, rfl⟩
              · rw [hmh] at hhn
                cases hhn
              · cases h0
      · have h1 := Option.some.inj h0
        subst h1
        rcases done_spec hs with ⟨v9, ty, hd, h2, -, -, h3⟩ | ⟨pa, n9, -, -, -, h3⟩ | ⟨-, -, -, h3⟩ | ⟨ix, n9, -, -, -, -, -, -, -, h3⟩
        · cases h3
          rw [h2]
          exact K pc ls hd
        · cases h3
        · cases h3
        · cases h3
theorem str_ok {own tx : String} {k : Nat} (h1 : (Cond.stringRef own k tx).before args s = true) (h2 : (Cond.exactly (.string own k) "java/lang/String").before args s = true) : ∃ sa, vk_R own k tx sa s := by
  obtain ⟨a, c, cA, kA, q1, -⟩ := Cond.exactly_spec (args := args) (first := s) (o := none) (s := s) (idx := []) (t := .string own k) (cls := "java/lang/String") h2
  exact ⟨a, vk_R.of h1 q1⟩
theorem inst_ok {k : Nat} {q : vw_C} (h : vwCl[k]? = some q) : Cond.instantiable q.1 q.2.2 ∈ lw_tbl := by
  match k, h with
  | 0, h => cases h; exact (tm1 _ (List.mem_of_getElem? (i := 79) rfl))
  | 1, h => cases h; exact (tm1 _ (List.mem_of_getElem? (i := 44) rfl))
  | 2, h => cases h; exact (tm1 _ (List.mem_of_getElem? (i := 63) rfl))
  | 3, h => cases h; exact (tm1 _ (List.mem_of_getElem? (i := 169) rfl))
  | 4, h => cases h; exact (tm1 _ (List.mem_of_getElem? (i := 171) rfl))
  | 5, h => cases h; exact (tm1 _ (List.mem_of_getElem? (i := 27) rfl))
  | 6, h => cases h; exact (tm1 _ (List.mem_of_getElem? (i := 112) rfl))
  | 7, h => cases h; exact (tm1 _ (List.mem_of_getElem? (i := 150) rfl))
  | 8, h => cases h; exact (tm1 _ (List.mem_of_getElem? (i := 19) rfl))
  | n + 9, h => simp at h
/-- each class's number and slots -/
theorem known_all (hts : ∀ w ∈ lw_tbl, w.before args s = true) : ∃ D : va_G, ∀ (k : Nat) (q : vw_C), vwCl[k]? = some q → u_Kn s q.1 q.2.1 q.2.2 (D.1 k) (D.2 k) := by
  have hT : ∀ w ∈ TBL, w.before args s = true := fun w hw => hts w (List.mem_filter.mp hw).1
  have h1 : ∀ k : Nat, ∃ d : ClassId × (Nat → Nat), ∀ q, vwCl[k]? = some q → u_Kn s q.1 q.2.1 q.2.2 d.1 d.2 := fun k => by
    cases hq : vwCl[k]? with
    | none => exact ⟨((0 : Nat), fun _ => 0), fun q h => by cases h⟩
    | some q =>
      obtain ⟨cC, iS, h⟩ := u_known hT (inC_ok hq) (hts _ (inst_ok hq))
      exact ⟨(cC, iS), fun q' h' => by cases h'; exact h⟩
  obtain ⟨f, hf⟩ := Classical.axiomOfChoice h1
  exact ⟨(fun k => (f k).1, fun k => (f k).2), fun k q hq => hf k q hq⟩
theorem arr_all (hts : ∀ w ∈ lw_tbl, w.before args s = true) : ∃ dA : Nat → ClassId, ∀ (k : Nat) (q : ClassId × FieldType), (tysA dA)[k]? = some q → ArrOfT s q.1 q.2 ∧ va_RA s q.1 q.2 := by
  have hT : ∀ w ∈ TBL, w.before args s = true := fun w hw => hts w (List.mem_filter.mp hw).1
  obtain ⟨cI, kI, pI, i1, i2, i3⟩ := Cond.arrayClass_spec (hT _ aci)
  obtain ⟨cZ, kZ, pZ, z1, z2, z3⟩ := Cond.arrayClass_spec (hT _ acz)
  refine ⟨fun k => if k = 0 then cI else cZ, fun k q h => ?_⟩
  match k, h with
  | 0, h => cases h; exact ⟨fun n z => ⟨fun k h => (by cases h), kI, i2, pI, i3⟩, i1⟩
  | 1, h => cases h; exact ⟨fun n z => ⟨fun k h => (by cases h), kZ, z2, pZ, z3⟩, z1⟩
  | n + 2, h => simp [tysA] at h
set_option maxRecDepth 100000 in
set_option maxHeartbeats 4000000 in
theorem str_all (hts : ∀ w ∈ lw_tbl, w.before args s = true) (hat : ∀ w ∈ flatC (Jvm.Cond.and given_1 narrow_1), w.before args s = true) : ∀ z ∈ excT, ∃ sa, vk_R (rn z.1) z.2.2.1 z.2.2.2.2.2 sa s :=
  List.forall_mem_cons.mpr ⟨str_ok (own := "RallyCard") (k := 46) (tx := "the itinerary does not take this item") (hts _ (tm3 _ (List.mem_of_getElem? (i := 1) rfl))) (hat _ (by decide +kernel)),
  List.forall_mem_cons.mpr ⟨str_ok (own := "RallyCard") (k := 66) (tx := "this leg is open, or an earlier one is not") (hts _ (tm3 _ (List.mem_of_getElem? (i := 40) rfl))) (hat _ (by decide +kernel)),
  List.forall_mem_cons.mpr ⟨str_ok (own := "RallyCard") (k := 102) (tx := "the car cannot be stamped there, or was") (hts _ (tm3 _ (List.mem_of_getElem? (i := 143) rfl))) (hat _ (by decide +kernel)),
  List.forall_mem_cons.mpr ⟨str_ok (own := "RallyCard") (k := 115) (tx := "the car is not in the order of the leg") (hts _ (tm3 _ (List.mem_of_getElem? (i := 164) rfl))) (hat _ (by decide +kernel)),
  List.forall_mem_cons.mpr ⟨str_ok (own := "RallyCard") (k := 128) (tx := "the finish is ahead of the start") (hts _ (tm4 _ (List.mem_of_getElem? (i := 7) rfl))) (hat _ (by decide +kernel)),
  List.forall_mem_cons.mpr ⟨str_ok (own := "RallyCard") (k := 159) (tx := "the car has this tyre, or has six") (hts _ (tm4 _ (List.mem_of_getElem? (i := 46) rfl))) (hat _ (by decide +kernel)),
  List.forall_mem_cons.mpr ⟨str_ok (own := "RallyCard") (k := 165) (tx := "the car is retired, or out") (hts _ (tm4 _ (List.mem_of_getElem? (i := 66) rfl))) (hat _ (by decide +kernel)),
  List.forall_mem_cons.mpr ⟨str_ok (own := "RallyCard") (k := 209) (tx := "six rallies are over, or no leg was opened") (hts _ (tm4 _ (List.mem_of_getElem? (i := 85) rfl))) (hat _ (by decide +kernel)),
  List.forall_mem_cons.mpr ⟨str_ok (own := "RallyCard") (k := 250) (tx := "the car was not stamped ahead of the stage") (hts _ (tm4 _ (List.mem_of_getElem? (i := 5) rfl))) (hat _ (by decide +kernel)),
  List.forall_mem_cons.mpr ⟨str_ok (own := "RallyCard") (k := 224) (tx := "there is no such car") (hts _ (tm2 _ (List.mem_of_getElem? (i := 146) rfl))) (hat _ (by decide +kernel)),
  List.forall_mem_cons.mpr ⟨str_ok (own := "RallyCard") (k := 230) (tx := "there is no such item") (hts _ (tm3 _ (List.mem_of_getElem? (i := 28) rfl))) (hat _ (by decide +kernel)),
  List.forall_mem_cons.mpr ⟨str_ok (own := "RallyCard") (k := 234) (tx := "an argument is out of its range") (hts _ (tm2 _ (List.mem_of_getElem? (i := 39) rfl))) (hat _ (by decide +kernel)),
  List.forall_mem_cons.mpr ⟨str_ok (own := "RallyCard") (k := 240) (tx := "the item is of another kind") (hts _ (tm3 _ (List.mem_of_getElem? (i := 34) rfl))) (hat _ (by decide +kernel)),
  List.forall_mem_cons.mpr ⟨str_ok (own := "RallyCard") (k := 242) (tx := "the item is a STAGE") (hts _ (tm3 _ (List.mem_of_getElem? (i := 105) rfl))) (hat _ (by decide +kernel)),
  fun _ h => absurd h List.not_mem_nil⟩⟩⟩⟩⟩⟩⟩⟩⟩⟩⟩⟩⟩⟩
set_option maxRecDepth 100000 in
set_option maxHeartbeats 4000000 in
theorem nc_all (hat : ∀ w ∈ flatC (Jvm.Cond.and given_1 narrow_1), w.before args s = true) : ∀ i j : Nat, i < 3 → j < 3 → i ≠ j → j = 0 → va_Nc (en i) (en j) s := by
  have n10 : va_Nc "java/lang/IllegalArgumentException" "java/lang/IllegalStateException" s := va_Nc.of (hat (Cond.not (.castable "java/lang/IllegalArgumentException" "java/lang/IllegalStateException")) (by decide +kernel))
  have n20 : va_Nc "java/lang/IndexOutOfBoundsException" "java/lang/IllegalStateException" s := va_Nc.of (hat (Cond.not (.castable "java/lang/IndexOutOfBoundsException" "java/lang/IllegalStateException")) (by decide +kernel))
  intro i j hi hj hij hj0
  subst hj0
  rcases (by omega : i = 1 ∨ i = 2) with rfl | rfl
  · exact n10
  · exact n20
set_option maxRecDepth 100000 in
set_option maxHeartbeats 4000000 in
/-- the points, as the start has them -/
theorem pts_all (hat : ∀ w ∈ flatC (Jvm.Cond.and given_1 narrow_1), w.before args s = true) (hA : ∀ a : Nat, a < s.heap.size → ¬ A a) : ∃ t : Nat, (Term.static "RallyCard" "POINTS" "[I").eval args s none [] s = some (.ref t) ∧ va_T .int t 10 (fun j => .int (ptf j)) A s s.heap := by
  have p0 := va_eqt (hat (Cond.eq (.elem (.static "RallyCard" "POINTS" "[I") (.int (Int32.ofNat 0))) (.int 25)) (by decide +kernel))
  have p1 := va_eqt (hat (Cond.eq (.elem (.static "RallyCard" "POINTS" "[I") (.int (Int32.ofNat 1))) (.int 18)) (by decide +kernel))
  have p2 := va_eqt (hat (Cond.eq (.elem (.static "RallyCard" "POINTS" "[I") (.int (Int32.ofNat 2))) (.int 15)) (by decide +kernel))
  have p3 := va_eqt (hat (Cond.eq (.elem (.static "RallyCard" "POINTS" "[I") (.int (Int32.ofNat 3))) (.int 12)) (by decide +kernel))
  have p4 := va_eqt (hat (Cond.eq (.elem (.static "RallyCard" "POINTS" "[I") (.int (Int32.ofNat 4))) (.int 10)) (by decide +kernel))
  have p5 := va_eqt (hat (Cond.eq (.elem (.static "RallyCard" "POINTS" "[I") (.int (Int32.ofNat 5))) (.int 8)) (by decide +kernel))
  have p6 := va_eqt (hat (Cond.eq (.elem (.static "RallyCard" "POINTS" "[I") (.int (Int32.ofNat 6))) (.int 6)) (by decide +kernel))
  have p7 := va_eqt (hat (Cond.eq (.elem (.static "RallyCard" "POINTS" "[I") (.int (Int32.ofNat 7))) (.int 4)) (by decide +kernel))
  have p8 := va_eqt (hat (Cond.eq (.elem (.static "RallyCard" "POINTS" "[I") (.int (Int32.ofNat 8))) (.int 2)) (by decide +kernel))
  have p9 := va_eqt (hat (Cond.eq (.elem (.static "RallyCard" "POINTS" "[I") (.int (Int32.ofNat 9))) (.int 1)) (by decide +kernel))
  refine va_Tof (tm := .static "RallyCard" "POINTS" "[I") (ty := .int) (N := 10) (f := fun j => .int (ptf j)) (A := A) (by decide) (hat _ (by decide +kernel)) (va_eqt (hat (Cond.eq (.length (.static "RallyCard" "POINTS" "[I")) (.int (Int32.ofNat 10))) (by decide +kernel))) (fun j hj => ?_) hA
  rcases (by omega : j = 0 ∨ j = 1 ∨ j = 2 ∨ j = 3 ∨ j = 4 ∨ j = 5 ∨ j = 6 ∨ j = 7 ∨ j = 8 ∨ j = 9) with rfl | rfl | rfl | rfl | rfl | rfl | rfl | rfl | rfl | rfl
  · exact p0
  · exact p1
  · exact p2
  · exact p3
  · exact p4
  · exact p5
  · exact p6
  · exact p7
  · exact p8
  · exact p9
end TOP
