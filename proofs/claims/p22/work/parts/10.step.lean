/-! ANY STEP -/
section SNG
variable {p : Program} {l : Launch} {e : Env} {R : Room} {s : State} {m : MethodId} {args : Array Value} {below : List Frame} {meth : Method} {c : Code} {Q : State → Prop} {D : va_G} {dA : Nat → ClassId} {A : Nat → Prop} {xt : Nat → Option Nat} {X : rX} {M : Nat} {a0 : List Nat}
variable {pc ks ss : Nat} {ls : rL} {st : List Value} {h : rH} {g : rF}
theorem go_iinc {i : Nat} {n : Int} (cx : CX p l R s m args meth c D dA A xt X M) (hd : decode (mb M) pc = .ok (.iinc i n, 3)) (he : (match ls[i]? with
    | some (some (.int x)) => nx (pc + 3) (ls.set i (some (.int (x + Int32.ofInt n)))) st h ks ss
    | _ => none) = some (.inl g)) (K : GO p l e R s m args below meth c Q D dA A xt a0 M g) : GO p l e R s m args below meth c Q D dA A xt a0 M (pc, ls, st, h, ks, ss) := by
  obtain ⟨⟨hx, hb, hml, hown, hts⟩, -⟩ := cx
  intro H locs cls cst ws hH hP hD hS hst hls
  split at he
  · rename_i x hxi
    unfold nx at he
    cases he
    obtain ⟨h0, lv, h1, h3⟩ := hls
    obtain ⟨w, h4, h5, h6⟩ := h3 i _ hxi
    have h7 : w = .int x := h4
    subst h7
    obtain ⟨k, hk⟩ := List.getElem?_of_mem h6
    have hi : i < ml M := by rw [← h0]; exact (List.getElem?_eq_some_iff.mp hxi).1
    exact lv_iinc hx hb hd h1 hk rfl hi rfl (fun cls' h' => K H locs cls' _ ws hH hP hD hS hst (LR_set h0 h3 rfl rfl h'))
  · cases he
theorem go_iincW {i : Instr} {len : Nat} (cx : CX p l R s m args meth c D dA A xt X M) (hd : decode (mb M) pc = .ok (i, len)) (he : stepW pc len i ls st h ks ss = some (.inl g)) (K : GO p l e R s m args below meth c Q D dA A xt a0 M g) : GO p l e R s m args below meth c Q D dA A xt a0 M (pc, ls, st, h, ks, ss) := by
  obtain ⟨⟨hx, hb, hml, hown, hts⟩, -⟩ := cx
  intro H locs cls cst ws hH hP hD hS hst hls
  unfold stepW at he
  split at he
  · rename_i hlen
    subst hlen
    split at he
    · rename_i i n
      split at he
      · rename_i x hxi
        unfold nx at he
        cases he
        obtain ⟨h0, lv, h1, h3⟩ := hls
        obtain ⟨w, h4, h5, h6⟩ := h3 i _ hxi
        have h7 : w = .int x := h4
        subst h7
        obtain ⟨k, hk⟩ := List.getElem?_of_mem h6
        have hi : i < ml M := by rw [← h0]; exact (List.getElem?_eq_some_iff.mp hxi).1
        exact lv_iincW hx hb hd h1 hk rfl hi rfl (fun cls' h' => K H locs cls' _ ws hH hP hD hS hst (LR_set h0 h3 rfl rfl h'))
      · cases he
    · cases he
  · cases he
theorem inc_none {α β : Type} {x : α} (h : (none : Option (α ⊕ β)) = some (.inl x)) {P : Prop} : P := by cases h
theorem go_step (cx : CX p l R s m args meth c D dA A xt X M) (he : stepM X M (pc, ls, st, h, ks, ss) = some (.inl g)) (hcap : g.2.2.2.2.1 ≤ R.cells ∧ g.2.2.2.2.2 ≤ R.slots) (K : GO p l e R s m args below meth c Q D dA A xt a0 M g) : GO p l e R s m args below meth c Q D dA A xt a0 M (pc, ls, st, h, ks, ss) := by
  have hx := cx.1.1
  have hb := cx.1.2.1
  have hown := cx.1.2.2.2.1
  have hts := cx.1.2.2.2.2
  unfold stepM at he
  dsimp only at he
  split at he
  · rename_i i len hd
    split at he
    · rename_i hk
      cases i
      case iconst n =>
        cases eq_of_beq (show (len == 1) = true from hk)
        exact go_psh (v := .int (Int32.ofInt n)) rfl (fun k => lv_iconst hx hb hd rfl k) he K
      case bipush n =>
        cases eq_of_beq (show (len == 2) = true from hk)
        exact go_psh (v := .int (Int8.ofInt n).toInt32) rfl (fun k => lv_bipush hx hb hd rfl k) he K
      case sipush n =>
        cases eq_of_beq (show (len == 3) = true from hk)
        exact go_psh (v := .int (Int16.ofInt n).toInt32) rfl (fun k => lv_sipush hx hb hd rfl k) he K
      case ldc ix =>
        cases eq_of_beq (show (len == 2) = true from hk)
        dsimp only [stepI] at he
        split at he
        · rename_i v hv
          exact go_psh (v := .int v) rfl (fun k => lv_ldc hx hb hown (hts _ (cstT_ok _ (asc_mem _ _ _ _ hv))) hd k) he K
        · cases he
      case ldc_w ix =>
        cases eq_of_beq (show (len == 3) = true from hk)
        dsimp only [stepI] at he
        split at he
        · rename_i v hv
          exact go_psh (v := .int v) rfl (fun k => lv_ldcw hx hb hown (hts _ (cstT_ok _ (asc_mem _ _ _ _ hv))) hd k) he K
        · cases he
      case iload_n i =>
        cases eq_of_beq (show (len == 1) = true from hk)
        exact go_ldI (fun h1 k => lv_iload_n hx hb hd rfl h1 k) he K
      case iload i =>
        cases eq_of_beq (show (len == 2) = true from hk)
        exact go_ldI (fun h1 k => lv_iload hx hb hd h1 k) he K
      case aload_n i =>
        cases eq_of_beq (show (len == 1) = true from hk)
        exact go_ldA (fun h1 k => lv_aload_n hx hb hd rfl h1 k) he K
      case aload i =>
        cases eq_of_beq (show (len == 2) = true from hk)
        exact go_ldA (fun h1 k => lv_aload hx hb hd h1 k) he K
      case istore_n i =>
        cases eq_of_beq (show (len == 1) = true from hk)
        exact go_stI (fun h1 h2 h3 k => lv_istore_n hx hb hd rfl h1 h2 h3 k) he K
      case istore i =>
        cases eq_of_beq (show (len == 2) = true from hk)
        exact go_stI (fun h1 h2 h3 k => lv_istore hx hb hd h1 h2 h3 k) he K
      case astore_n i =>
        cases eq_of_beq (show (len == 1) = true from hk)
        exact go_stA (fun h1 h2 h3 k => lv_astore_n hx hb hd rfl h1 h2 h3 k) he K
      case astore i =>
        cases eq_of_beq (show (len == 2) = true from hk)
        exact go_stA (fun h1 h2 h3 k => lv_astore hx hb hd h1 h2 h3 k) he K
      case iinc i n =>
        cases eq_of_beq (show (len == 3) = true from hk)
        exact go_iinc cx hd he K
      case iadd =>
        cases eq_of_beq (show (len == 1) = true from hk)
        exact go_bin (fun k => lv_iadd hx hb hd k) he K
      case isub =>
        cases eq_of_beq (show (len == 1) = true from hk)
        exact go_bin (fun k => lv_isub hx hb hd k) he K
      case imul =>
        cases eq_of_beq (show (len == 1) = true from hk)
        exact go_bin (fun k => lv_imul hx hb hd k) he K
      case iand =>
        cases eq_of_beq (show (len == 1) = true from hk)
        exact go_bin (fun k => lv_iand hx hb hd k) he K
      case ixor =>
        cases eq_of_beq (show (len == 1) = true from hk)
        exact go_bin (fun k => lv_ixor hx hb hd k) he K
      case idiv =>
        cases eq_of_beq (show (len == 1) = true from hk)
        intro H locs cls cst ws hH hP hD hS hst hls
        dsimp only [stepI] at he
        split at he
        · split at he
          · cases he
          · rename_i hy
            unfold nx at he
            cases he
            obtain ⟨c1, rfl, h1⟩ := FRi hst
            obtain ⟨c2, rfl, h2⟩ := FRi h1
            exact lv_idiv hx hb hd hy (K H locs cls _ ws hH hP hD hS ⟨_, _, rfl, rfl, h2⟩ hls)
        · cases he
      case irem =>
        cases eq_of_beq (show (len == 1) = true from hk)
        intro H locs cls cst ws hH hP hD hS hst hls
        dsimp only [stepI] at he
        split at he
        · split at he
          · cases he
          · rename_i hy
            unfold nx at he
            cases he
            obtain ⟨c1, rfl, h1⟩ := FRi hst
            obtain ⟨c2, rfl, h2⟩ := FRi h1
            exact lv_irem hx hb hd hy (K H locs cls _ ws hH hP hD hS ⟨_, _, rfl, rfl, h2⟩ hls)
        · cases he
      case ior =>
        cases eq_of_beq (show (len == 1) = true from hk)
        exact go_bin (fun k => lv_ior hx hb hd k) he K
      case ishl =>
        cases eq_of_beq (show (len == 1) = true from hk)
        exact go_bin (fun k => lv_ishl hx hb hd k) he K
      case ishr =>
        cases eq_of_beq (show (len == 1) = true from hk)
        exact go_bin (fun k => lv_ishr hx hb hd k) he K
      case ineg =>
        cases eq_of_beq (show (len == 1) = true from hk)
        intro H locs cls cst ws hH hP hD hS hst hls
        dsimp only [stepI] at he
        split at he
        · unfold nx at he
          cases he
          obtain ⟨c1, rfl, h1⟩ := FRi hst
          exact lv_ineg hx hb hd (K H locs cls _ ws hH hP hD hS ⟨_, _, rfl, rfl, h1⟩ hls)
        · cases he
      case i2l =>
        cases eq_of_beq (show (len == 1) = true from hk)
        intro H locs cls cst ws hH hP hD hS hst hls
        dsimp only [stepI] at he
        split at he
        · unfold nx at he
          cases he
          obtain ⟨c1, rfl, h1⟩ := FRi hst
          exact lv_i2l hx hb hd rfl (K H locs cls _ ws hH hP hD hS ⟨_, _, rfl, rfl, h1⟩ hls)
        · cases he
      case lcmp =>
        cases eq_of_beq (show (len == 1) = true from hk)
        intro H locs cls cst ws hH hP hD hS hst hls
        dsimp only [stepI] at he
        split at he
        · unfold nx at he
          cases he
          obtain ⟨c1, rfl, h1⟩ := FRl hst
          obtain ⟨c2, rfl, h2⟩ := FRl h1
          exact W.lcmp hx hb hd (K H locs cls _ ws hH hP hD hS ⟨_, _, rfl, rfl, h2⟩ hls)
        · cases he
      case dup =>
        cases eq_of_beq (show (len == 1) = true from hk)
        intro H locs cls cst ws hH hP hD hS hst hls
        dsimp only [stepI] at he
        split at he
        · unfold nx at he
          cases he
          obtain ⟨c1, rfl, h1⟩ := FRi hst
          exact lv_dup hx hb hd rfl (K H locs cls _ ws hH hP hD hS ⟨_, _, rfl, rfl, ⟨_, _, rfl, rfl, h1⟩⟩ hls)
        · unfold nx at he
          cases he
          obtain ⟨q, c1, rfl, hv, h1⟩ := FRr hst
          exact lv_dup hx hb hd rfl (K H locs cls _ ws hH hP hD hS ⟨_, _, rfl, hv, ⟨_, _, rfl, hv, h1⟩⟩ hls)
        · cases he
      case dup2 =>
        cases eq_of_beq (show (len == 1) = true from hk)
        intro H locs cls cst ws hH hP hD hS hst hls
        dsimp only [stepI] at he
        split at he
        · unfold nx at he
          cases he
          obtain ⟨c1, rfl, h1⟩ := FRi hst
          obtain ⟨q, c2, rfl, hv, h2⟩ := FRr h1
          exact lv_dup2_11 hx hb hd rfl rfl (K H locs cls _ ws hH hP hD hS ⟨_, _, rfl, rfl, ⟨_, _, rfl, hv, ⟨_, _, rfl, rfl, ⟨_, _, rfl, hv, h2⟩⟩⟩⟩ hls)
        · cases he
      case ifCond cc o =>
        cases eq_of_beq (show (len == 3) = true from hk)
        cases cc
        · exact go_icm0 (fun ht kt kf => lv_if_eq hx hb hd ht (fun z => kt (decide_eq_true z)) (fun z => kf (decide_eq_false z))) he K
        · exact go_icm0 (fun ht kt kf => lv_if_ne hx hb hd ht (fun z => kt (decide_eq_true z)) (fun z => kf (decide_eq_false (fun n => n z)))) he K
        · exact go_icm0 (fun ht kt kf => lv_if_lt hx hb hd ht (fun z => kt (decide_eq_true z)) (fun z => kf (decide_eq_false z))) he K
        · exact go_icm0 (fun ht kt kf => lv_if_ge hx hb hd ht (fun z => kt (decide_eq_true z)) (fun z => kf (decide_eq_false z))) he K
        · exact go_icm0 (fun ht kt kf => lv_if_gt hx hb hd ht (fun z => kt (decide_eq_true z)) (fun z => kf (decide_eq_false z))) he K
        · exact go_icm0 (fun ht kt kf => lv_if_le hx hb hd ht (fun z => kt (decide_eq_true z)) (fun z => kf (decide_eq_false z))) he K
      case if_icmp cc o =>
        cases eq_of_beq (show (len == 3) = true from hk)
        cases cc
        · exact go_icmp (fun ht kt kf => lv_icmp_eq hx hb hd ht (fun z => kt (decide_eq_true z)) (fun z => kf (decide_eq_false z))) he K
        · exact go_icmp (fun ht kt kf => lv_icmp_ne hx hb hd ht (fun z => kt (decide_eq_true z)) (fun z => kf (decide_eq_false (fun n => n z)))) he K
        · exact go_icmp (fun ht kt kf => lv_icmp_lt hx hb hd ht (fun z => kt (decide_eq_true z)) (fun z => kf (decide_eq_false z))) he K
        · exact go_icmp (fun ht kt kf => lv_icmp_ge hx hb hd ht (fun z => kt (decide_eq_true z)) (fun z => kf (decide_eq_false z))) he K
        · exact go_icmp (fun ht kt kf => lv_icmp_gt hx hb hd ht (fun z => kt (decide_eq_true z)) (fun z => kf (decide_eq_false z))) he K
        · exact go_icmp (fun ht kt kf => lv_icmp_le hx hb hd ht (fun z => kt (decide_eq_true z)) (fun z => kf (decide_eq_false z))) he K
      case goto o =>
        cases eq_of_beq (show (len == 3) = true from hk)
        intro H locs cls cst ws hH hP hD hS hst hls
        dsimp only [stepI] at he
        split at he
        · rename_i ht
          unfold nx at he
          cases he
          exact lv_goto hx hb hd (tgt_spec ht) (K H locs cls _ ws hH hP hD hS hst hls)
        · cases he
      case tableswitch d lo hi offs =>
        intro H locs cls cst ws hH hP hD hS hst hls
        dsimp only [stepI, tsw] at he
        split at he
        · obtain ⟨c1, rfl, h1⟩ := FRi hst
          split at he
          · rename_i hlh
            split at he
            · rename_i ht
              unfold nx at he
              cases he
              exact lv_tableOut hx hb hd hlh (tgt_spec ht) (K H locs cls _ ws hH hP hD hS h1 hls)
            · cases he
          · rename_i hlh
            split at he
            · rename_i off hoff
              split at he
              · rename_i ht
                unfold nx at he
                cases he
                exact lv_tableIn hx hb hd (fun z => hlh (Or.inl z)) (fun z => hlh (Or.inr z)) hoff (tgt_spec ht) (K H locs cls _ ws hH hP hD hS h1 hls)
              · cases he
            · cases he
        · cases he
      case iaload =>
        cases eq_of_beq (show (len == 1) = true from hk)
        exact go_aget cx hd he K
      case baload =>
        cases eq_of_beq (show (len == 1) = true from hk)
        exact go_agetZ cx hd he K
      case iastore =>
        cases eq_of_beq (show (len == 1) = true from hk)
        exact go_aput cx hd he K
      case bastore =>
        cases eq_of_beq (show (len == 1) = true from hk)
        exact go_aputZ cx hd he K
      case arraylength =>
        cases eq_of_beq (show (len == 1) = true from hk)
        exact go_alen cx hd he K
      case getfield ix =>
        cases eq_of_beq (show (len == 3) = true from hk)
        exact go_fget cx hd he K
      case putfield ix =>
        cases eq_of_beq (show (len == 3) = true from hk)
        exact go_fput cx hd he K
      case getstatic ix =>
        cases eq_of_beq (show (len == 3) = true from hk)
        exact go_sget cx hd he K
      case new ix =>
        cases eq_of_beq (show (len == 3) = true from hk)
        exact go_new cx hd he hcap K
      case newarray t =>
        cases eq_of_beq (show (len == 2) = true from hk)
        exact go_newa cx hd he hcap K
      case invokespecial ix =>
        cases eq_of_beq (show (len == 3) = true from hk)
        exact go_obj cx hd he K
      case invokestatic ix =>
        dsimp only [stepI, invS] at he
        split at he
        · split at he <;> cases he
        · cases he
      case invokevirtual ix =>
        dsimp only [stepI, invV] at he
        split at he
        · split at he
          · split at he
            · split at he <;> cases he
            · cases he
          · cases he
        · cases he
      case ireturn =>
        dsimp only [stepI, retI, done] at he
        split at he
        · split at he
          · split at he <;> cases he
          · cases he
        · cases he
      case areturn =>
        dsimp only [stepI, retA, done] at he
        split at he
        · split at he <;> cases he
        · cases he
      case return_ =>
        dsimp only [stepI, retV, done] at he
        split at he
        · split at he <;> cases he
        · cases he
      all_goals exact inc_none he
    · exact go_iincW cx hd he K
  · cases he
end SNG
