/-! SOUND -/
section SNH
variable {p : Program} {l : Launch} {e : Env} {R : Room} {s : State} {m : MethodId} {args : Array Value} {below : List Frame} {meth : Method} {c : Code} {Q : State → Prop} {D : va_G} {dA : Nat → ClassId} {A : Nat → Prop} {xt : Nat → Option Nat} {X : rX} {M : Nat} {a0 : List Nat}
variable {pc ks ss : Nat} {ls : rL} {st : List Value} {h : rH} {g : rF}
set_option maxHeartbeats 4000000 in
theorem step_cap (he : stepM X M (pc, ls, st, h, ks, ss) = some (.inl g)) : ks ≤ g.2.2.2.2.1 ∧ ss ≤ g.2.2.2.2.2 := by
  unfold stepM at he
  dsimp only at he
  split at he
  · rename_i i len hd
    split at he
    · rename_i hk
      cases i
      case ifCond cc o =>
        cases cc <;> (dsimp only [stepI, icm0, jmp, nx] at he; repeat' (first | (cases he; exact ⟨Nat.le_refl _, Nat.le_refl _⟩) | (cases he; done) | split at he))
      case if_icmp cc o =>
        cases cc <;> (dsimp only [stepI, icmp, jmp, nx] at he; repeat' (first | (cases he; exact ⟨Nat.le_refl _, Nat.le_refl _⟩) | (cases he; done) | split at he))
      all_goals dsimp only [stepI, bin, icmp, icm0, jmp, ldI, ldA, stI, stA, aget, aput, aputZ, alen, fget, fput, sget, newo, newa, tsw, invS, invV, invI, retI, retA, retV, done, nx] at he
      all_goals repeat' (first | (cases he; exact ⟨by dsimp only; omega, by dsimp only; omega⟩) | (cases he; done) | split at he)
    · unfold stepW nx at he
      repeat' (first | (cases he; exact ⟨Nat.le_refl _, Nat.le_refl _⟩) | (cases he; done) | split at he)
  · cases he
theorem done_cap {r : rR} (he : stepM X M (pc, ls, st, h, ks, ss) = some (.inr (.inr r))) : ks ≤ r.2.2.1 ∧ ss ≤ r.2.2.2 := by
  rcases done_spec he with ⟨v, ty, -, -, -, -, rfl⟩ | ⟨pa, n, -, -, -, rfl⟩ | ⟨-, -, -, rfl⟩ | ⟨ix, n, -, -, -, -, -, -, -, rfl⟩ <;> exact ⟨by dsimp only; omega, by dsimp only; omega⟩
theorem thr_spec {E : Nat} {k0 s0 : Nat} {q : rF ⊕ rR} (h0 : thr M E pc ls h k0 s0 = some q) : (∃ t, hnd (ow M) E pc (mh M) = some t ∧ q = .inl (t, ls, [.ref 99999], h, k0, s0)) ∨ (mh M = [] ∧ q = .inr (.inr E, h, k0, s0)) := by
  unfold thr at h0
  split at h0
  · rename_i t ht
    cases h0
    exact Or.inl ⟨t, ht, rfl⟩
  · split at h0
    · rename_i hm
      cases h0
      exact Or.inr ⟨hm, rfl⟩
    · cases h0
theorem run_cap : ∀ (n M : Nat) (f : rF) (r : rR), run X n M f = some r → f.2.2.2.2.1 ≤ r.2.2.1 ∧ f.2.2.2.2.2 ≤ r.2.2.2 := by
  intro n
  induction n with
  | zero => intro M f r h; cases h
  | succ n ih =>
    intro M f r h0
    obtain ⟨pc, ls, st, h, ks, ss⟩ := f
    rw [run] at h0
    cases hs : stepM X M (pc, ls, st, h, ks, ss) with
    | none => rw [hs] at h0; cases h0
    | some q =>
      rw [hs] at h0
      rcases q with g | ⟨y, as, rest⟩ | r'
      · have a := step_cap hs
        have b := ih M g r h0
        exact ⟨Nat.le_trans a.1 b.1, Nat.le_trans a.2 b.2⟩
      · dsimp only at h0
        cases hc : run X n y (ent y as h) with
        | none => rw [hc] at h0; cases h0
        | some q =>
          rw [hc] at h0
          obtain ⟨o, h1, k1, s1⟩ := q
          cases o with
          | inl v =>
            have b := ih M _ r h0
            dsimp only at b ⊢
            omega
          | inr E =>
            dsimp only at h0
            cases hh : thr M E pc ls h1 (ks + k1) (ss + s1) with
            | none => rw [hh] at h0; cases h0
            | some q =>
              rw [hh] at h0
              rcases thr_spec hh with ⟨t, -, rfl⟩ | ⟨-, rfl⟩
              · have b := ih M _ r h0
                dsimp only at b ⊢
                omega
              · cases h0
                dsimp only
                omega
      · cases h0
        exact done_cap hs
theorem OR_FR {a : List Nat} {v w : Option Value} {vs ws : List Value} (h1 : OR xt a v w) (h2 : FR (VR xt a) vs ws) : FR (VR xt a) (v.toList ++ vs) (w.toList ++ ws) := by
  cases v with
  | none => rw [show w = none from h1]; exact h2
  | some v =>
    obtain ⟨w', e, h3⟩ := h1
    rw [e]
    exact ⟨w', ws, rfl, h3, h2⟩
theorem go_call (cx : CX p l R s m args meth c D dA A xt X M) {y : Nat} {as rest : List Value} {r : rR} (he : stepM X M (pc, ls, st, h, ks, ss) = some (.inr (.inl (y, as, rest)))) (hC : MF y → as.all (fun v => v.category == 1) = true → as.length ≤ ml y → CON l X y as h r) (hcap : ks + r.2.2.1 ≤ R.cells ∧ ss + r.2.2.2 ≤ R.slots)
    (K1 : ∀ v, r.1 = .inl v → GO p l e R s m args below meth c Q D dA A xt a0 M (pc + 3, ls, v.toList ++ rest, r.2.1, ks + r.2.2.1, ss + r.2.2.2))
    (K2 : ∀ n, r.1 = .inr n → n < 3 → ∀ (ws' : va_W) (H1 : Heap) (locs1 : List Loc) (cls : Array Slot) (crest : List Value) (q : Nat) (ce : Cell), HR xt dA a0 r.2.1 ws' → va_P D vwCl ws' H1 → va_D A ws' → va_S A s.heap H1 locs1 → LR (VR xt (ws'.map (·.1))) ls cls (ml M) → H1[q]? = some ce → ce.vm = .none → s.vm.findClass (en n) = some ce.cls → vx_W p l e R s m args below meth c H1 locs1 (ks + r.2.2.1) (ss + r.2.2.2) Q (F0 m pc cls crest) q) :
    GO p l e R s m args below meth c Q D dA A xt a0 M (pc, ls, st, h, ks, ss) := by
  intro H locs cls cst ws hH hP hD hS hst hls
  have hA := cx.2.2.1
  have hsz : cls.size = ml M := by obtain ⟨h0, lv, h1, h3⟩ := hls; exact h1.1
  have hH' : HR xt dA (ws.map (·.1)) h ws := ⟨hH.1, hH.2.1, [], by simp⟩
  have fin : ∀ (crest : List Value) (av : Array Value), FR (VR xt (ws.map (·.1))) rest crest → vx_Run p l e R s m args below meth c H locs ks ss r.2.2.1 r.2.2.2 (F0 m pc cls cst) crest (QU D dA xt ws H.size r av) (XU D dA xt ws H.size r) (va_A ws H.size) → W p l e R s m args below meth c H locs ks ss Q (F0 m pc cls cst) := by
    intro crest av hr hrun
    refine run_el hA hD hS hH hrun (fun v w ws' H1 locs1 h1 h2 h3 h4 h5 h6 h7 => ?_) (fun n ws' H1 locs1 q ce h1 hn h3 h4 h5 h6 h7 h8 h9 h10 => ?_)
    · obtain ⟨b, hb⟩ := h4
      refine K1 v h1 H1 locs1 cls _ ws' h3 h5 h6 h7 (OR_FR h2 ?_) ?_
      · rw [hb]; exact FR_mono (fun _ _ => VR_mono) hr
      · rw [hb]; exact LR_mono (fun _ _ => VR_mono) hls
    · obtain ⟨b, hb⟩ := h4
      refine K2 n h1 hn ws' H1 locs1 cls crest q ce h3 h5 h6 h7 ?_ h8 h9 h10
      rw [hb]; exact LR_mono (fun _ _ => VR_mono) hls
  have hok : ∀ {as : List Value}, okA y as = true → as.all (fun v => v.category == 1) = true ∧ as.length ≤ ml y := fun h1 => by
    unfold okA at h1
    rw [Bool.and_eq_true] at h1
    exact ⟨h1.1, of_decide_eq_true h1.2⟩
  have hrm : rooms M y rest = true → fr y + 1 ≤ fr M ∧ 8 + (ml y + 11) + lo y ≤ lo M ∧ vcat rest ≤ 8 := fun h1 => by
    unfold rooms at h1
    rw [Bool.and_eq_true, Bool.and_eq_true] at h1
    exact ⟨of_decide_eq_true h1.1.1, of_decide_eq_true h1.1.2, of_decide_eq_true h1.2⟩
  rcases call_spec he with ⟨ix, hd, hl, hst9, hlen, hoa, hro, rfl, rfl⟩ | ⟨ix, pa, fs, hd, hl, hst9, hni, hnh, how, hlk, hoa, hro, rfl, hdr⟩ | ⟨ix, pa, ne, hd, hl, hst9, hni, hnr, hnh, hoa, hro, rfl, hdr⟩
  · obtain ⟨hw, hmy⟩ := mthT_ok _ (asc_mem _ _ _ _ hl)
    obtain ⟨o1, o2⟩ := hok hoa
    obtain ⟨r1, r2, r3⟩ := hrm hro
    have hF : FR (VR xt (ws.map (·.1))) (st.take (mna y)).reverse (cst.take (mna y)).reverse := FR_rev (FR_take hst _)
    have hlc := FR_len hst
    refine fin (cst.drop (mna y)) _ (FR_drop hst _) (run_S (As := (cst.take (mna y)).reverse) cx hD hP hS hsz hd hmy hw hst9 r1 r2 ?_ (by simp) ?_ hcap (hC hmy o1 o2 D dA xt ws _ H.size hH' hF))
    · simp only [List.length_reverse, List.length_take]
      have : cst.length = st.length := hlc
      omega
    · rw [FR_cat (FR_drop hst _)]; exact r3
  · obtain ⟨hw, hmy⟩ := mthT_ok _ (asc_mem _ _ _ _ hl)
    obtain ⟨o1, o2⟩ := hok hoa
    obtain ⟨r1, r2, r3⟩ := hrm hro
    have hdc := FR_drop hst (mna y)
    rw [show (pc, ls, st, h, ks, ss).2.2.1.drop (mna y) = Value.ref pa :: rest from hdr] at hdc
    obtain ⟨b, crest, hcd, hvb, hcr⟩ := FRr hdc
    have hF : FR (VR xt (ws.map (·.1))) (.ref pa :: (st.take (mna y)).reverse) (.ref b :: (cst.take (mna y)).reverse) := ⟨_, _, rfl, hvb, FR_rev (FR_take hst _)⟩
    obtain ⟨q', ce, e1, e2, ⟨gs, e3, e4⟩, -⟩ := HR_get hH hlk hvb
    cases e1
    subst e3
    have hlc := FR_len hst
    have hlt : mna y < st.length := by
      have := congrArg List.length hdr
      simp at this
      omega
    refine fin crest _ hcr (run_V (As := (cst.take (mna y)).reverse) cx hD hP hS hsz hd hmy hw hst9 hni hnh how e2 r1 r2 ?_ ?_ ?_ hcap (hC hmy o1 o2 D dA xt ws _ H.size hH' hF))
    · simp only [List.length_reverse, List.length_take]
      have : cst.length = st.length := hlc
      omega
    · rw [List.reverse_reverse, ← hcd, List.take_append_drop]
    · rw [FR_cat hcr]; exact r3
  · obtain ⟨hw, hmy⟩ := mthT_ok _ (asc_mem _ _ _ _ hl)
    obtain ⟨o1, o2⟩ := hok hoa
    obtain ⟨r1, r2, r3⟩ := hrm hro
    have hdc := FR_drop hst (mna y)
    rw [show (pc, ls, st, h, ks, ss).2.2.1.drop (mna y) = Value.ref pa :: rest from hdr] at hdc
    obtain ⟨b, crest, hcd, hvb, hcr⟩ := FRr hdc
    have hF : FR (VR xt (ws.map (·.1))) (.ref pa :: (st.take (mna y)).reverse) (.ref b :: (cst.take (mna y)).reverse) := ⟨_, _, rfl, hvb, FR_rev (FR_take hst _)⟩
    have hlc := FR_len hst
    have hlt : mna y < st.length := by
      have := congrArg List.length hdr
      simp at this
      omega
    refine fin crest _ hcr (run_I (ne := ne) (As := (cst.take (mna y)).reverse) cx hD hP hS hsz hd hmy hw hst9 hni hnr hnh r1 r2 ?_ ?_ ?_ hcap (hC hmy o1 o2 D dA xt ws _ H.size hH' hF))
    · simp only [List.length_reverse, List.length_take]
      have : cst.length = st.length := hlc
      omega
    · rw [List.reverse_reverse, ← hcd, List.take_append_drop]
    · rw [FR_cat hcr]; exact r3
def TR (s : State) (args : Array Value) (D : va_G) (dA : Nat → ClassId) (A : Nat → Prop) (xt : Nat → Option Nat) (a0 : List Nat) (Qc : Array Value → State → Outcome → State → Prop) (r : rR) : Prop := ∀ (v w : Option Value) (ws' : va_W) (t : State), r.1 = .inl v → OR xt (ws'.map (·.1)) v w → HR xt dA a0 r.2.1 ws' → va_P D vwCl ws' t.heap → va_D A ws' → va_F A s t → Qc args s (.returned w) t
def TT (s : State) (D : va_G) (dA : Nat → ClassId) (A : Nat → Prop) (xt : Nat → Option Nat) (a0 : List Nat) (XC : String → State → State → Prop) (r : rR) : Prop := ∀ (n : Nat) (ws' : va_W) (t : State), r.1 = .inr n → n < 3 → HR xt dA a0 r.2.1 ws' → va_P D vwCl ws' t.heap → va_D A ws' → va_F A s t → XC (en n) s t
theorem go_end {Qc : Array Value → State → Outcome → State → Prop} {XC : String → State → State → Prop} (cx : CX p l R s m args meth c D dA A xt X M) (htab : c.exceptionTable.toList = tableOf (mh M)) {r : rR} (he : stepM X M (pc, ls, st, h, ks, ss) = some (.inr (.inr r))) (hcap : r.2.2.1 ≤ R.cells ∧ r.2.2.2 ≤ R.slots)
    (h1 : TR s args D dA A xt a0 Qc r) (h2 : TT s D dA A xt a0 XC r) : GO p l e R s m args below meth c (vx_MQ below Qc XC args s r.2.2.1 r.2.2.2 A) D dA A xt a0 M (pc, ls, st, h, ks, ss) := by
  obtain ⟨⟨hx, hb, hml, hown, hts⟩, hK, hA, hR, hE, hfl, hlocks, hret, hnm⟩ := cx
  intro H locs cls cst ws hH hP hD hS hst hls
  rcases done_spec he with ⟨v, ty, hd, rfl, hr, hn, rfl⟩ | ⟨pa, n, hd, rfl, hr, rfl⟩ | ⟨hd, rfl, hr, rfl⟩ | ⟨ix, n, hd, hex, hd3, hd9, hmh, hfr, hlo, rfl⟩
  · obtain ⟨c1, rfl, h3⟩ := FRi hst
    have h4 : c1 = [] := h3
    subst h4
    exact vx_ret (W.zret hx hb (hret.trans hr) hn (fun t ht _ => h1 _ (some (.int v)) ws t rfl ⟨_, rfl, rfl⟩ hH (by rw [ht]; exact hP) hD (hS.F ht)) hS.2.2 hd hlocks)
  · obtain ⟨q, c1, rfl, hv, h3⟩ := FRr hst
    have h4 : c1 = [] := h3
    subst h4
    exact vx_ret (W.aret hx hb (hret.trans hr) (Or.inl ⟨n, rfl⟩) (Or.inr ⟨q, rfl⟩) (fun t ht _ => h1 _ (some (.ref q)) ws t rfl ⟨_, rfl, hv⟩ hH (by rw [ht]; exact hP) hD (hS.F ht)) hS.2.2 hd hlocks)
  · have h4 : cst = [] := hst
    subst h4
    exact vx_ret (W.vret hx hb (hret.trans hr) (fun t ht _ => h1 _ none ws t rfl rfl hH (by rw [ht]; exact hP) hD (hS.F ht)) hS.2.2 hd hlocks)
  · obtain ⟨q, hq, q1, q2, q3, q4, q5⟩ := exRow_spec _ hex
    obtain ⟨w1, w2, w3⟩ := excT_ok q hq
    obtain ⟨sa, hsa⟩ := hE.2.2.2.2.1 q hq
    rw [q1, q2] at w1 w2
    rw [q1] at hsa
    rw [q5] at w1 w2 w3
    have wl := fun w hw => hts w (w1 w hw)
    have hsz : cls.size = ml M := by obtain ⟨h0, lv, h3, h4⟩ := hls; exact h3.1
    refine vx_throwS (own := rn (ow M)) (cls := en n) (text := q.2.2.2.2.2) (names := exUp) (ik := ix) (is := q.2.2.1) (ic := q.2.2.2.1) (sa := sa) (A := A) hx hb hfl hown (enF n w3) upF (wl _ List.mem_cons_self) (wl _ (List.mem_cons_of_mem _ List.mem_cons_self)) hsa (fun w hw => wl w (List.mem_cons_of_mem _ (List.mem_cons_of_mem _ hw))) w2 hE.2.2.1 hE.2.2.2.1 hS (by rw [hml]; exact hsz) hd hd3 q3 q4 hd9 ?_ ?_ ?_ hcap.1 hcap.2 hlocks ?_ hS.2.2 (Nat.le_refl _) (Nat.le_refl _)
    · rw [htab, hmh]
      intro x hx9
      cases hx9
    · show 2 + 3 < R.frames
      have := hR.1
      omega
    · rw [FR_cat hst]
      show vcat st + (13 * 3 + 43) ≤ R.locals
      have := hR.2
      omega
    · intro t _ hsz1 hsm
      exact h2 n ws t rfl w3 hH (hP.kept fun k q9 hk => hsm _ ((hP k q9 hk).lt)) hD ⟨Nat.le_trans hS.1 hsz1, fun q9 a b => by rw [hsm q9 (Nat.lt_of_lt_of_le a hS.1)]; exact hS.2.1 q9 a b⟩
theorem hnd_spec {o E t : Nat} : ∀ (hs : List (Nat × Nat × Nat × Nat)), hnd o E pc hs = some t → ∃ pre q suf, hs = pre ++ q :: suf ∧ asc ctT o q.2.2.2 = some E ∧ q.1 ≤ pc ∧ pc < q.2.1 ∧ q.2.2.1 = t ∧ ∀ z ∈ pre, ∃ c, asc ctT o z.2.2.2 = some c ∧ c ≠ E
  | [], h => by cases h
  | q :: hs, h => by
    unfold hnd at h
    split at h
    · rename_i c hc
      split at h
      · rename_i hce
        split at h
        · rename_i hp
          cases h
          exact ⟨[], q, hs, rfl, by rw [hc, hce], hp.1, hp.2, rfl, fun z hz => by cases hz⟩
        · cases h
      · rename_i hce
        obtain ⟨pre, q', suf, e1, e2, e3, e4, e5, e6⟩ := hnd_spec hs h
        refine ⟨q :: pre, q', suf, by rw [e1]; rfl, e2, e3, e4, e5, fun z hz => ?_⟩
        rcases List.mem_cons.mp hz with rfl | hz
        · exact ⟨c, hc, hce⟩
        · exact e6 z hz
    · cases h
theorem castN {n : Nat} (h : n < 3) : Cond.castable (en n) (en n) ∈ TBL := by
  match n, h with
  | 0, _ => exact cast0
  | 1, _ => exact cast1
  | 2, _ => exact cast2
/-- caught -/
theorem go_catch {n t : Nat} {k0 s0 : Nat} (cx : CX p l R s m args meth c D dA A xt X M) (htab : c.exceptionTable.toList = tableOf (mh M)) (hn : n < 3) (hh : hnd (ow M) n pc (mh M) = some t) (K : GO p l e R s m args below meth c Q D dA A xt a0 M (t, ls, [.ref 99999], h, k0, s0)) :
    ∀ (ws' : va_W) (H1 : Heap) (locs1 : List Loc) (cls : Array Slot) (crest : List Value) (q : Nat) (ce : Cell), HR xt dA a0 h ws' → va_P D vwCl ws' H1 → va_D A ws' → va_S A s.heap H1 locs1 → LR (VR xt (ws'.map (·.1))) ls cls (ml M) → H1[q]? = some ce → ce.vm = .none → s.vm.findClass (en n) = some ce.cls → vx_W p l e R s m args below meth c H1 locs1 k0 s0 Q (F0 m pc cls crest) q := by
  obtain ⟨⟨hx, hb, hml, hown, hts⟩, hK, hA, hR, hE, hfl, hlocks, hret, hnm⟩ := cx
  intro ws' H1 locs1 cls crest q ce hH hP hD hS hls hc1 hc2 hc3
  obtain ⟨pre, x, suf, e1, e2, e3, e4, e5, e6⟩ := hnd_spec _ hh
  obtain ⟨w1, w2, w3⟩ := ctT_ok _ (asc_mem _ _ _ _ e2)
  have hsplit : c.exceptionTable.toList = tableOf pre ++ (⟨x.1, x.2.1, x.2.2.1, x.2.2.2⟩ : ExceptionTableEntry) :: tableOf suf := by
    rw [htab, e1]
    simp [tableOf]
  refine vx_catch (E := en n) (name := en n) hown (tableOf pre) ⟨x.1, x.2.1, x.2.2.1, x.2.2.2⟩ (tableOf suf) hsplit ?_ ?_ w3 (hts _ w1) (hts _ (castN hn)) hc1 hc2 hc3 ?_
  · intro z hz
    obtain ⟨z', hz', rfl⟩ := List.mem_map.mp hz
    obtain ⟨c', hc', hne⟩ := e6 z' hz'
    obtain ⟨v1, v2, v3⟩ := ctT_ok _ (asc_mem _ _ _ _ hc')
    have h0 : c' = 0 := congrArg (fun z => z.2.2) (List.mem_singleton.mp (show (ow M, z'.2.2.2, c') ∈ [(10, 16, 0)] from asc_mem _ _ _ _ hc'))
    exact Or.inr ⟨v3, en c', hts _ v1, hE.2.2.2.2.2 n c' hn v2 (fun q => hne q.symm) h0⟩
  · show (decide (x.1 ≤ pc) && decide (pc < x.2.1)) = true
    simp [e3, e4]
  · show W p l e R s m args below meth c H1 locs1 k0 s0 Q (F0 m x.2.2.1 cls [.ref q])
    rw [e5]
    exact K H1 locs1 cls [.ref q] ws' hH hP hD hS ⟨_, _, rfl, ⟨q, rfl, Or.inl rfl⟩, rfl⟩ hls
end SNH
