/-! WHICH STEPS CALL, WHICH END -/
section SNF
variable {p : Program} {l : Launch} {e : Env} {R : Room} {s : State} {m : MethodId} {args : Array Value} {below : List Frame} {meth : Method} {c : Code} {Q : State → Prop} {D : va_G} {dA : Nat → ClassId} {A : Nat → Prop} {xt : Nat → Option Nat} {X : rX} {M : Nat} {a0 : List Nat}
variable {pc ks ss : Nat} {ls : rL} {st : List Value} {h : rH} {g : rF}
set_option maxHeartbeats 4000000 in
theorem call_spec {y : Nat} {as rest : List Value} (he : stepM X M (pc, ls, st, h, ks, ss) = some (.inr (.inl (y, as, rest)))) :
    (∃ ix, decode (mb M) pc = .ok (.invokestatic ix, 3) ∧ asc mthT (ow M) ix = some (y, false) ∧ mst y = true ∧ mna y ≤ st.length ∧ okA y as = true ∧ rooms M y rest = true ∧ as = (st.take (mna y)).reverse ∧ rest = st.drop (mna y)) ∨
    (∃ ix pa fs, decode (mb M) pc = .ok (.invokevirtual ix, 3) ∧ asc mthT (ow M) ix = some (y, false) ∧ mst y = false ∧ (my y).name ≠ "<init>" ∧ mh y = [] ∧ ow y < 9 ∧ lk h pa = some (.inr (ow y, fs)) ∧ okA y as = true ∧ rooms M y rest = true ∧ as = .ref pa :: (st.take (mna y)).reverse ∧ st.drop (mna y) = .ref pa :: rest) ∨
    (∃ ix pa ne, decode (mb M) pc = .ok (.invokespecial ix, 3) ∧ asc mthT (ow M) ix = some (y, ne) ∧ mst y = false ∧ (my y).name = "<init>" ∧ mr y = none ∧ mh y = [] ∧ okA y as = true ∧ rooms M y rest = true ∧ as = .ref pa :: (st.take (mna y)).reverse ∧ st.drop (mna y) = .ref pa :: rest) := by
  unfold stepM at he
  dsimp only at he
  split at he
  · rename_i i len hd
    split at he
    · rename_i hk
      cases i
      case invokestatic ix =>
        cases eq_of_beq (show (len == 3) = true from hk)
        dsimp only [stepI, invS] at he
        split at he
        · rename_i hl
          split at he
          · rename_i hc
            cases he
            obtain ⟨h1, rfl, h2, h3, h4⟩ := hc
            exact Or.inl ⟨ix, hd, hl, h1, h2, h3, h4, rfl, rfl⟩
          · cases he
        · cases he
      case invokevirtual ix =>
        cases eq_of_beq (show (len == 3) = true from hk)
        dsimp only [stepI, invV] at he
        split at he
        · rename_i hl
          split at he
          · rename_i hdr
            split at he
            · rename_i hlk
              split at he
              · rename_i hc
                cases he
                obtain ⟨h1, rfl, h2, rfl, h3, h4, h5, h6⟩ := hc
                exact Or.inr (Or.inl ⟨ix, _, _, hd, hl, h1, h2, h4, h3, hlk, h5, h6, rfl, hdr⟩)
              · cases he
            · cases he
          · cases he
        · cases he
      case invokespecial ix =>
        cases eq_of_beq (show (len == 3) = true from hk)
        dsimp only [stepI, invI] at he
        split at he
        · split at he
          · split at he
            · unfold nx at he
              cases he
            · cases he
          · cases he
        · split at he
          · rename_i hl
            split at he
            · rename_i hdr
              split at he
              · rename_i hc
                cases he
                obtain ⟨h1, h2, h3, h4, h5, h6⟩ := hc
                exact Or.inr (Or.inr ⟨ix, _, _, hd, hl, h1, h2, h3, h4, h5, h6, rfl, hdr⟩)
              · cases he
            · cases he
          · cases he
      case ifCond cc o =>
        exfalso
        cases cc <;> (dsimp only [stepI, icm0, jmp, nx] at he; repeat' (first | (cases he; done) | split at he))
      case if_icmp cc o =>
        exfalso
        cases cc <;> (dsimp only [stepI, icmp, jmp, nx] at he; repeat' (first | (cases he; done) | split at he))
      all_goals exfalso
      all_goals dsimp only [stepI, bin, icmp, icm0, jmp, ldI, ldA, stI, stA, aget, aput, aputZ, alen, fget, fput, sget, newo, newa, tsw, retI, retA, retV, done, nx] at he
      all_goals repeat' (first | (cases he; done) | split at he)
    · exfalso
      unfold stepW nx at he
      repeat' (first | (cases he; done) | split at he)
  · cases he
set_option maxHeartbeats 4000000 in
theorem done_spec {r : rR} (he : stepM X M (pc, ls, st, h, ks, ss) = some (.inr (.inr r))) :
    (∃ v ty, decode (mb M) pc = .ok (.ireturn, 1) ∧ st = [.int v] ∧ mr M = some ty ∧ narrow ty (.int v) = .int v ∧ r = (.inl (some (.int v)), h, ks, ss)) ∨
    (∃ pa n, decode (mb M) pc = .ok (.areturn, 1) ∧ st = [.ref pa] ∧ mr M = some (.object n) ∧ r = (.inl (some (.ref pa)), h, ks, ss)) ∨
    (decode (mb M) pc = .ok (.return_, 1) ∧ st = [] ∧ mr M = none ∧ r = (.inl none, h, ks, ss)) ∨
    (∃ ix n, decode (mb M) pc = .ok (.new ix, 3) ∧ exRow excT M ix pc = some n ∧ decode (mb M) (pc + 3) = .ok (.dup, 1) ∧ decode (mb M) (pc + 9) = .ok (.athrow, 1) ∧ mh M = [] ∧ 6 ≤ fr M ∧ vcat st + 82 ≤ lo M ∧ r = (.inr n, h, ks + 1, ss + 6)) := by
  unfold stepM at he
  dsimp only at he
  split at he
  · rename_i i len hd
    split at he
    · rename_i hk
      cases i
      case ireturn =>
        cases eq_of_beq (show (len == 1) = true from hk)
        dsimp only [stepI, retI, done] at he
        split at he
        · split at he
          · rename_i hr
            split at he
            · rename_i hn
              cases he
              exact Or.inl ⟨_, _, hd, rfl, hr, hn, rfl⟩
            · cases he
          · cases he
        · cases he
      case areturn =>
        cases eq_of_beq (show (len == 1) = true from hk)
        dsimp only [stepI, retA, done] at he
        split at he
        · split at he
          · rename_i hr
            cases he
            exact Or.inr (Or.inl ⟨_, _, hd, rfl, hr, rfl⟩)
          · cases he
        · cases he
      case return_ =>
        cases eq_of_beq (show (len == 1) = true from hk)
        dsimp only [stepI, retV, done] at he
        split at he
        · split at he
          · rename_i hr
            cases he
            exact Or.inr (Or.inr (Or.inl ⟨hd, rfl, hr, rfl⟩))
          · cases he
        · cases he
      case new ix =>
        cases eq_of_beq (show (len == 3) = true from hk)
        dsimp only [stepI, newo] at he
        split at he
        · split at he
          · unfold nx at he
            cases he
          · cases he
        · split at he
          · rename_i hx
            split at he
            · rename_i hc
              cases he
              obtain ⟨h1, h2, h3, h4, h5⟩ := hc
              exact Or.inr (Or.inr (Or.inr ⟨ix, _, hd, hx, h1, h2, h3, h4, h5, rfl⟩))
            · cases he
          · cases he
      case ifCond cc o =>
        exfalso
        cases cc <;> (dsimp only [stepI, icm0, jmp, nx] at he; repeat' (first | (cases he; done) | split at he))
      case if_icmp cc o =>
        exfalso
        cases cc <;> (dsimp only [stepI, icmp, jmp, nx] at he; repeat' (first | (cases he; done) | split at he))
      all_goals exfalso
      all_goals dsimp only [stepI, bin, icmp, icm0, jmp, ldI, ldA, stI, stA, aget, aput, aputZ, alen, fget, fput, sget, newa, tsw, invS, invV, invI, nx] at he
      all_goals repeat' (first | (cases he; done) | split at he)
    · exfalso
      unfold stepW nx at he
      repeat' (first | (cases he; done) | split at he)
  · cases he
theorem exRow_spec : ∀ (t : List (Nat × Nat × Nat × Nat × Nat × String)) {ix n : Nat}, exRow t M ix pc = some n → ∃ q ∈ t, q.1 = ow M ∧ q.2.1 = ix ∧ decode (mb M) (pc + 4) = .ok (.ldc q.2.2.1, 2) ∧ decode (mb M) (pc + 6) = .ok (.invokespecial q.2.2.2.1, 3) ∧ q.2.2.2.2.1 = n
  | [], _, _, h => by cases h
  | q :: t, ix, n, h => by
    unfold exRow at h
    split at h
    · rename_i hc
      cases h
      exact ⟨q, List.mem_cons_self, hc.1, hc.2.1, hc.2.2.1, hc.2.2.2, rfl⟩
    · obtain ⟨q', h1, h2⟩ := exRow_spec t h
      exact ⟨q', List.mem_cons_of_mem _ h1, h2⟩
end SNF
