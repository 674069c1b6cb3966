/-! ONE STEP OF THE MACHINE IS ONE STEP OF THE JVM -/
section SND
variable {p : Program} {l : Launch} {e : Env} {R : Room} {s : State} {m : MethodId} {args : Array Value} {below : List Frame} {meth : Method} {c : Code} {Q : State → Prop} {D : va_G} {dA : Nat → ClassId} {A : Nat → Prop} {xt : Nat → Option Nat} {X : rX} {M : Nat} {a0 : List Nat}
variable {pc ks ss : Nat} {ls : rL} {st : List Value} {h : rH} {g : rF}
def CX (p : Program) (l : Launch) (R : Room) (s : State) (m : MethodId) (args : Array Value) (meth : Method) (c : Code) (D : va_G) (dA : Nat → ClassId) (A : Nat → Prop) (xt : Nat → Option Nat) (X : rX) (M : Nat) : Prop :=
  (p.tables.exec = Jvm.exec ∧ c.code = mb M ∧ c.maxLocals = ml M ∧ s.vm.findClass (rn (ow M)) = some m.cls ∧ ∀ w ∈ TBL, w.before args s = true) ∧ va_K D vwCl (tysA dA) s ∧ (∀ q : Nat, s.heap.size ≤ q → A q) ∧ (fr M ≤ R.frames ∧ lo M ≤ R.locals) ∧ EXT X xt A s s.heap ∧ l.stackTraces = false ∧ meth.locks = false ∧ meth.sig.returnType = mr M ∧ ((my M).name = "<init>" → meth.name = "<init>")
def GO (p : Program) (l : Launch) (e : Env) (R : Room) (s : State) (m : MethodId) (args : Array Value) (below : List Frame) (meth : Method) (c : Code) (Q : State → Prop) (D : va_G) (dA : Nat → ClassId) (A : Nat → Prop) (xt : Nat → Option Nat) (a0 : List Nat) (M : Nat) (f : rF) : Prop :=
  ∀ (H : Heap) (locs : List Loc) (cls : Array Slot) (cst : List Value) (ws : va_W), HR xt dA a0 f.2.2.2.1 ws → va_P D vwCl ws H → va_D A ws → va_S A s.heap H locs → FR (VR xt (ws.map (·.1))) f.2.2.1 cst → LR (VR xt (ws.map (·.1))) f.2.1 cls (ml M) →
    W p l e R s m args below meth c H locs f.2.2.2.2.1 f.2.2.2.2.2 Q (F0 m f.1 cls cst)
theorem FRi {xt : Nat → Option Nat} {a : List Nat} {x : Int32} {vs cst : List Value} (h : FR (VR xt a) (.int x :: vs) cst) : ∃ cs, cst = .int x :: cs ∧ FR (VR xt a) vs cs := by
  obtain ⟨c, cs, e, h1, h2⟩ := h
  have h3 : c = .int x := h1
  exact ⟨cs, by rw [e, h3], h2⟩
theorem FRl {xt : Nat → Option Nat} {a : List Nat} {x : Int64} {vs cst : List Value} (h : FR (VR xt a) (.long x :: vs) cst) : ∃ cs, cst = .long x :: cs ∧ FR (VR xt a) vs cs := by
  obtain ⟨c, cs, e, h1, h2⟩ := h
  have h3 : c = .long x := h1
  exact ⟨cs, by rw [e, h3], h2⟩
theorem FRr {xt : Nat → Option Nat} {a : List Nat} {p : Nat} {vs cst : List Value} (h : FR (VR xt a) (.ref p :: vs) cst) : ∃ q cs, cst = .ref q :: cs ∧ VR xt a (.ref p) (.ref q) ∧ FR (VR xt a) vs cs := by
  obtain ⟨c, cs, e, h1, h2⟩ := h
  obtain ⟨q, h3, h4⟩ := h1
  exact ⟨q, cs, by rw [e, h3], ⟨q, rfl, h4⟩, h2⟩
theorem go_bin {fn : Int32 → Int32 → Int32} (hrow : ∀ {H : Heap} {locs : List Loc} {cells slots : Nat} {cls : Array Slot} {rest : List Value} {x y : Int32}, W p l e R s m args below meth c H locs cells slots Q (F0 m (pc + 1) cls (.int (fn x y) :: rest)) → W p l e R s m args below meth c H locs cells slots Q (F0 m pc cls (.int y :: .int x :: rest)))
    (he : bin fn (pc + 1) ls st h ks ss = some (.inl g)) (K : GO p l e R s m args below meth c Q D dA A xt a0 M g) : GO p l e R s m args below meth c Q D dA A xt a0 M (pc, ls, st, h, ks, ss) := by
  intro H locs cls cst ws hH hP hD hS hst hls
  unfold bin at he
  split at he
  · unfold nx at he
    cases he
    obtain ⟨c1, rfl, h1⟩ := FRi hst
    obtain ⟨c2, rfl, h2⟩ := FRi h1
    exact hrow (K H locs cls _ ws hH hP hD hS ⟨_, _, rfl, rfl, h2⟩ hls)
  · cases he
theorem tgt_spec {pc : Nat} {off : Int} {t : Nat} (h : tgt pc off = some t) : (pc : Int) + off = (t : Int) := by
  unfold tgt at h
  split at h
  · cases h
    omega
  · cases h
theorem go_icmp {fn : Int32 → Int32 → Bool} {off : Int} (hrow : ∀ {H : Heap} {locs : List Loc} {cells slots : Nat} {cls : Array Slot} {rest : List Value} {x y : Int32} {t : Nat}, (pc : Int) + off = (t : Int) → (fn x y = true → W p l e R s m args below meth c H locs cells slots Q (F0 m t cls rest)) → (fn x y = false → W p l e R s m args below meth c H locs cells slots Q (F0 m (pc + 3) cls rest)) → W p l e R s m args below meth c H locs cells slots Q (F0 m pc cls (.int y :: .int x :: rest)))
    (he : icmp fn (tgt pc off) pc ls st h ks ss = some (.inl g)) (K : GO p l e R s m args below meth c Q D dA A xt a0 M g) : GO p l e R s m args below meth c Q D dA A xt a0 M (pc, ls, st, h, ks, ss) := by
  intro H locs cls cst ws hH hP hD hS hst hls
  unfold icmp jmp at he
  split at he
  · split at he
    · rename_i ht
      unfold nx at he
      cases he
      obtain ⟨c1, rfl, h1⟩ := FRi hst
      obtain ⟨c2, rfl, h2⟩ := FRi h1
      have K' := K H locs cls _ ws hH hP hD hS h2 hls
      refine hrow (tgt_spec ht) (fun q => ?_) (fun q => ?_)
      · simpa only [q, if_true] using K'
      · simpa only [q, Bool.false_eq_true, if_false] using K'
    · cases he
  · cases he
theorem go_icm0 {fn : Int32 → Bool} {off : Int} (hrow : ∀ {H : Heap} {locs : List Loc} {cells slots : Nat} {cls : Array Slot} {rest : List Value} {x : Int32} {t : Nat}, (pc : Int) + off = (t : Int) → (fn x = true → W p l e R s m args below meth c H locs cells slots Q (F0 m t cls rest)) → (fn x = false → W p l e R s m args below meth c H locs cells slots Q (F0 m (pc + 3) cls rest)) → W p l e R s m args below meth c H locs cells slots Q (F0 m pc cls (.int x :: rest)))
    (he : icm0 fn (tgt pc off) pc ls st h ks ss = some (.inl g)) (K : GO p l e R s m args below meth c Q D dA A xt a0 M g) : GO p l e R s m args below meth c Q D dA A xt a0 M (pc, ls, st, h, ks, ss) := by
  intro H locs cls cst ws hH hP hD hS hst hls
  unfold icm0 jmp at he
  split at he
  · split at he
    · rename_i ht
      unfold nx at he
      cases he
      obtain ⟨c1, rfl, h1⟩ := FRi hst
      have K' := K H locs cls _ ws hH hP hD hS h1 hls
      refine hrow (tgt_spec ht) (fun q => ?_) (fun q => ?_)
      · simpa only [q, if_true] using K'
      · simpa only [q, Bool.false_eq_true, if_false] using K'
    · cases he
  · cases he
theorem go_psh {v : Value} {pc' : Nat} (hv : okv v = true) (hrow : ∀ {H : Heap} {locs : List Loc} {cells slots : Nat} {cls : Array Slot} {rest : List Value}, W p l e R s m args below meth c H locs cells slots Q (F0 m pc' cls (v :: rest)) → W p l e R s m args below meth c H locs cells slots Q (F0 m pc cls rest))
    (he : nx pc' ls (v :: st) h ks ss = some (.inl g)) (K : GO p l e R s m args below meth c Q D dA A xt a0 M g) : GO p l e R s m args below meth c Q D dA A xt a0 M (pc, ls, st, h, ks, ss) := by
  intro H locs cls cst ws hH hP hD hS hst hls
  unfold nx at he
  cases he
  exact hrow (K H locs cls _ ws hH hP hD hS ⟨_, _, rfl, VR_ok hv, hst⟩ hls)
theorem go_ldI {i pc' : Nat} (hrow : ∀ {H : Heap} {locs : List Loc} {cells slots : Nat} {cls : Array Slot} {rest : List Value} {x : Int32}, cls[i]? = some (.val (.int x)) → W p l e R s m args below meth c H locs cells slots Q (F0 m pc' cls (.int x :: rest)) → W p l e R s m args below meth c H locs cells slots Q (F0 m pc cls rest))
    (he : ldI ls i pc' st h ks ss = some (.inl g)) (K : GO p l e R s m args below meth c Q D dA A xt a0 M g) : GO p l e R s m args below meth c Q D dA A xt a0 M (pc, ls, st, h, ks, ss) := by
  intro H locs cls cst ws hH hP hD hS hst hls
  unfold ldI at he
  split at he
  · rename_i x hx
    unfold nx at he
    cases he
    obtain ⟨w, h1, h2⟩ := LR_get hls hx
    have h3 : w = .int x := h1
    subst h3
    exact hrow h2 (K H locs cls _ ws hH hP hD hS ⟨_, _, rfl, rfl, hst⟩ hls)
  · cases he
theorem go_ldA {i pc' : Nat} (hrow : ∀ {H : Heap} {locs : List Loc} {cells slots : Nat} {cls : Array Slot} {rest : List Value} {x : Nat}, cls[i]? = some (.val (.ref x)) → W p l e R s m args below meth c H locs cells slots Q (F0 m pc' cls (.ref x :: rest)) → W p l e R s m args below meth c H locs cells slots Q (F0 m pc cls rest))
    (he : ldA ls i pc' st h ks ss = some (.inl g)) (K : GO p l e R s m args below meth c Q D dA A xt a0 M g) : GO p l e R s m args below meth c Q D dA A xt a0 M (pc, ls, st, h, ks, ss) := by
  intro H locs cls cst ws hH hP hD hS hst hls
  unfold ldA at he
  split at he
  · rename_i x hx
    unfold nx at he
    cases he
    obtain ⟨w, h1, h2⟩ := LR_get hls hx
    obtain ⟨q, h3, h4⟩ := h1
    subst h3
    exact hrow h2 (K H locs cls _ ws hH hP hD hS ⟨_, _, rfl, ⟨q, rfl, h4⟩, hst⟩ hls)
  · cases he
theorem go_stI {i pc' : Nat} (hrow : ∀ {H : Heap} {locs : List Loc} {cells slots : Nat} {cls : Array Slot} {rest : List Value} {x : Int32} {lv lv' : List (Nat × Value)}, lv_has cls (ml M) lv → i < ml M → (i, Value.int x) :: lv.filter (fun q => !(q.1 == i) && !(q.1 + 1 == i && q.2.category == 2)) = lv' → (∀ cls' : Array Slot, lv_has cls' (ml M) lv' → W p l e R s m args below meth c H locs cells slots Q (F0 m pc' cls' rest)) → W p l e R s m args below meth c H locs cells slots Q (F0 m pc cls (.int x :: rest)))
    (he : stI ls i pc' st h ks ss = some (.inl g)) (K : GO p l e R s m args below meth c Q D dA A xt a0 M g) : GO p l e R s m args below meth c Q D dA A xt a0 M (pc, ls, st, h, ks, ss) := by
  intro H locs cls cst ws hH hP hD hS hst hls
  unfold stI at he
  split at he
  · split at he
    · rename_i hi
      unfold nx at he
      cases he
      obtain ⟨c1, rfl, h1⟩ := FRi hst
      obtain ⟨h0, lv, h2, h3⟩ := hls
      exact hrow h2 (by rw [← h0]; exact hi) rfl (fun cls' h' => K H locs cls' _ ws hH hP hD hS h1 (LR_set h0 h3 rfl rfl h'))
    · cases he
  · cases he
theorem go_stA {i pc' : Nat} (hrow : ∀ {H : Heap} {locs : List Loc} {cells slots : Nat} {cls : Array Slot} {rest : List Value} {x : Nat} {lv lv' : List (Nat × Value)}, lv_has cls (ml M) lv → i < ml M → (i, Value.ref x) :: lv.filter (fun q => !(q.1 == i) && !(q.1 + 1 == i && q.2.category == 2)) = lv' → (∀ cls' : Array Slot, lv_has cls' (ml M) lv' → W p l e R s m args below meth c H locs cells slots Q (F0 m pc' cls' rest)) → W p l e R s m args below meth c H locs cells slots Q (F0 m pc cls (.ref x :: rest)))
    (he : stA ls i pc' st h ks ss = some (.inl g)) (K : GO p l e R s m args below meth c Q D dA A xt a0 M g) : GO p l e R s m args below meth c Q D dA A xt a0 M (pc, ls, st, h, ks, ss) := by
  intro H locs cls cst ws hH hP hD hS hst hls
  unfold stA at he
  split at he
  · split at he
    · rename_i hi
      unfold nx at he
      cases he
      obtain ⟨q, c1, rfl, hv, h1⟩ := FRr hst
      obtain ⟨h0, lv, h2, h3⟩ := hls
      exact hrow h2 (by rw [← h0]; exact hi) rfl (fun cls' h' => K H locs cls' _ ws hH hP hD hS h1 (LR_set h0 h3 hv rfl h'))
    · cases he
  · cases he
theorem go_aget (cx : CX p l R s m args meth c D dA A xt X M) (hd : decode (mb M) pc = .ok (.iaload, 1)) (he : aget X 0 pc ls st h ks ss = some (.inl g)) (K : GO p l e R s m args below meth c Q D dA A xt a0 M g) : GO p l e R s m args below meth c Q D dA A xt a0 M (pc, ls, st, h, ks, ss) := by
  obtain ⟨⟨hx, hb, hml, hown, hts⟩, hK, hA, hR, hE, -⟩ := cx
  intro H locs cls cst ws hH hP hD hS hst hls
  unfold aget at he
  split at he
  · obtain ⟨c1, rfl, h1⟩ := FRi hst
    obtain ⟨q, c2, rfl, hv, h2⟩ := FRr h1
    split at he
    · rename_i hl
      split at he
      · split at he
        · cases he
        · rename_i ht hin
          subst ht
          unfold nx at he
          cases he
          obtain ⟨q', ce, e1, e2, e3, -⟩ := HR_get hH hl hv
          cases e1
          have e4 : ce = .inl (dA 0, _, .inl _) := e3
          subst e4
          exact va_iald hx hb hK hP _ 0 e2 rfl hin hd (K H locs cls _ ws hH hP hD hS ⟨_, _, rfl, rfl, h2⟩ hls)
      · cases he
    · cases he
    · rename_i hl
      split at he
      · rename_i hxa
        simp only [if_true] at he
        split at he
        · cases he
        · rename_i hin
          unfold nx at he
          cases he
          obtain ⟨q', e1, e2⟩ := hv
          cases e1
          rw [if_neg (xar_ge hxa).1] at e2
          rcases e2 with e2 | e2
          · exact absurd e2 (xar_ge hxa).2
          · obtain ⟨n2, f2, e3, e4⟩ := hE.1 _ _ e2
            rw [hxa] at e3
            cases e3
            exact va_ti hx hb e4 hS hin rfl hd (K H locs cls _ ws hH hP hD hS ⟨_, _, rfl, rfl, h2⟩ hls)
      · cases he
  · cases he
theorem go_agetZ (cx : CX p l R s m args meth c D dA A xt X M) (hd : decode (mb M) pc = .ok (.baload, 1)) (he : aget X 1 pc ls st h ks ss = some (.inl g)) (K : GO p l e R s m args below meth c Q D dA A xt a0 M g) : GO p l e R s m args below meth c Q D dA A xt a0 M (pc, ls, st, h, ks, ss) := by
  obtain ⟨⟨hx, hb, hml, hown, hts⟩, hK, hA, hR, hE, -⟩ := cx
  intro H locs cls cst ws hH hP hD hS hst hls
  unfold aget at he
  split at he
  · obtain ⟨c1, rfl, h1⟩ := FRi hst
    obtain ⟨q, c2, rfl, hv, h2⟩ := FRr h1
    split at he
    · rename_i hl
      split at he
      · split at he
        · cases he
        · rename_i ht hin
          subst ht
          unfold nx at he
          cases he
          obtain ⟨q', ce, e1, e2, e3, -⟩ := HR_get hH hl hv
          cases e1
          have e4 : ce = .inl (dA 1, _, .inl _) := e3
          subst e4
          exact va_zald hx hb hK hP _ 1 e2 rfl hin hd (K H locs cls _ ws hH hP hD hS ⟨_, _, rfl, rfl, h2⟩ hls)
      · cases he
    · cases he
    · split at he
      · simp at he
      · cases he
  · cases he
theorem go_aput (cx : CX p l R s m args meth c D dA A xt X M) (hd : decode (mb M) pc = .ok (.iastore, 1)) (he : aput pc ls st h ks ss = some (.inl g)) (K : GO p l e R s m args below meth c Q D dA A xt a0 M g) : GO p l e R s m args below meth c Q D dA A xt a0 M (pc, ls, st, h, ks, ss) := by
  obtain ⟨⟨hx, hb, hml, hown, hts⟩, hK, hA, hR, hE, -⟩ := cx
  intro H locs cls cst ws hH hP hD hS hst hls
  unfold aput at he
  split at he
  · obtain ⟨c0, rfl, h0⟩ := FRi hst
    obtain ⟨c1, rfl, h1⟩ := FRi h0
    obtain ⟨q, c2, rfl, hv, h2⟩ := FRr h1
    split at he
    · rename_i hl
      split at he
      · split at he
        · cases he
        · rename_i ht hin
          subst ht
          unfold nx at he
          cases he
          obtain ⟨q', ce, e1, e2, e3, -⟩ := HR_get hH hl hv
          cases e1
          have e4 : ce = .inl (dA 0, _, .inl _) := e3
          subst e4
          refine va_iast hx hb hK hP hD hS _ 0 e2 rfl hin hd fun H1 locs1 hP1 hD1 hS1 => ?_
          refine K H1 locs1 cls _ _ (HR_set hH e2 rfl) hP1 hD1 hS1 ?_ ?_
          · rw [adr_set e2]; exact h2
          · rw [adr_set e2]; exact hls
      · cases he
    · cases he
  · cases he
theorem go_aputZ (cx : CX p l R s m args meth c D dA A xt X M) (hd : decode (mb M) pc = .ok (.bastore, 1)) (he : aputZ pc ls st h ks ss = some (.inl g)) (K : GO p l e R s m args below meth c Q D dA A xt a0 M g) : GO p l e R s m args below meth c Q D dA A xt a0 M (pc, ls, st, h, ks, ss) := by
  obtain ⟨⟨hx, hb, hml, hown, hts⟩, hK, hA, hR, hE, -⟩ := cx
  intro H locs cls cst ws hH hP hD hS hst hls
  unfold aputZ at he
  split at he
  · obtain ⟨c0, rfl, h0⟩ := FRi hst
    obtain ⟨c1, rfl, h1⟩ := FRi h0
    obtain ⟨q, c2, rfl, hv, h2⟩ := FRr h1
    split at he
    · rename_i hl
      split at he
      · split at he
        · cases he
        · rename_i ht hin
          subst ht
          unfold nx at he
          cases he
          obtain ⟨q', ce, e1, e2, e3, -⟩ := HR_get hH hl hv
          cases e1
          have e4 : ce = .inl (dA 1, _, .inl _) := e3
          subst e4
          refine va_zast hx hb hK hP hD hS _ 1 e2 rfl hin hd fun H1 locs1 hP1 hD1 hS1 => ?_
          refine K H1 locs1 cls _ _ (HR_set hH e2 rfl) hP1 hD1 hS1 ?_ ?_
          · rw [adr_set e2]; exact h2
          · rw [adr_set e2]; exact hls
      · cases he
    · cases he
  · cases he
theorem tysA_get {dA : Nat → ClassId} {t : Nat} (h : t < 2) : ∃ ty, (tysA dA)[t]? = some (dA t, ty) := by
  match t, h with
  | 0, _ => exact ⟨_, rfl⟩
  | 1, _ => exact ⟨_, rfl⟩
theorem go_alen (cx : CX p l R s m args meth c D dA A xt X M) (hd : decode (mb M) pc = .ok (.arraylength, 1)) (he : alen X pc ls st h ks ss = some (.inl g)) (K : GO p l e R s m args below meth c Q D dA A xt a0 M g) : GO p l e R s m args below meth c Q D dA A xt a0 M (pc, ls, st, h, ks, ss) := by
  obtain ⟨⟨hx, hb, hml, hown, hts⟩, hK, hA, hR, hE, -⟩ := cx
  intro H locs cls cst ws hH hP hD hS hst hls
  unfold alen at he
  split at he
  · obtain ⟨q, c2, rfl, hv, h2⟩ := FRr hst
    split at he
    · rename_i hl
      split at he
      · rename_i ht
        unfold nx at he
        cases he
        obtain ⟨q', ce, e1, e2, e3, -⟩ := HR_get hH hl hv
        cases e1
        have e4 : ce = .inl (dA _, _) := e3
        subst e4
        obtain ⟨ty, hty⟩ := tysA_get (dA := dA) ht
        exact va_alen hx hb hK hP _ _ e2 hty rfl hd (K H locs cls _ ws hH hP hD hS ⟨_, _, rfl, rfl, h2⟩ hls)
      · cases he
    · cases he
    · rename_i hl
      split at he
      · rename_i hxa
        unfold nx at he
        cases he
        obtain ⟨q', e1, e2⟩ := hv
        cases e1
        rw [if_neg (xar_ge hxa).1] at e2
        rcases e2 with e2 | e2
        · exact absurd e2 (xar_ge hxa).2
        · obtain ⟨n2, f2, e3, e4⟩ := hE.1 _ _ e2
          rw [hxa] at e3
          cases e3
          exact va_tlen hx hb e4 hS rfl hd (K H locs cls _ ws hH hP hD hS ⟨_, _, rfl, rfl, h2⟩ hls)
      · cases he
  · cases he
end SND
