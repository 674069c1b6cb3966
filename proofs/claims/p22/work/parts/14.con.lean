/-! THE CONTRACT OF A METHOD, BY WHAT THE MACHINE COMPUTES -/
section SNI
variable {p : Program} {l : Launch} {e : Env} {R : Room} {s : State} {m : MethodId} {args : Array Value} {below : List Frame} {meth : Method} {c : Code} {D : va_G} {dA : Nat → ClassId} {A : Nat → Prop} {xt : Nat → Option Nat} {X : rX} {M : Nat} {a0 : List Nat}
theorem vx_ofWG {y : Nat} {rm : Room} {Pc : Array Value → State → Prop} {Qc : Array Value → State → Outcome → State → Prop} {XC : String → State → State → Prop} {mc ms : Nat} {free : Addr → Prop} (hy : plainFor (my y) = true)
    (body : ∀ p e s m args below meth c s₁, BodyLoose p l (my y) (headSpec (codeW y :: TBL) rm) (mb y) (ml y) (mr y) e s m args below meth c s₁ → c.maxLocals = ml y → c.exceptionTable.toList = tableOf (mh y) → Pc args s →
      W p l e (headSpec (codeW y :: TBL) rm).room s m args below meth c s.heap [] 0 0 (vx_MQ below Qc XC args s mc ms free) (entryFrame m args (ml y))) : vx_Met l (my y) (codeW y :: TBL) rm Pc Qc XC mc ms free := by
  refine MetFree.of_bodySF (code := mb y) (maxLocals := ml y) (ret := mr y) hy ?_ ?_
  · intro args s m h hn
    have hw := atoms_spec (ws := codeW y :: TBL) h _ List.mem_cons_self
    rcases hh : mh y with _ | ⟨q, t⟩
    · rw [codeW_nil hh] at hw
      obtain ⟨meth, c, h1, h2, h3, h4, h5, h6, -, -⟩ := Cond.code_spec hn hw
      exact ⟨meth, c, h1, h2, h3, h4, h5, h6⟩
    · rw [codeW_cons hh] at hw
      obtain ⟨m9, meth, c, hn9, h1, h2, h3, h4, -, h5, h6, -⟩ := Cond.codeWith_spec hw
      cases hn.symm.trans hn9
      exact ⟨meth, c, h1, h2, h3, h4, h5, h6⟩
  · intro p e s m args below meth c s₁ B hml hP _
    have hh0 : s₁.heap = s.heap := by rw [B.state]; rfl
    have hw := atoms_spec (ws := codeW y :: TBL) B.pre _ List.mem_cons_self
    have ht : c.exceptionTable.toList = tableOf (mh y) := by
      rcases hh : mh y with _ | ⟨q, t⟩
      · rw [codeW_nil hh] at hw
        obtain ⟨meth9, c9, h1, h2, -, -, -, -, h7, -⟩ := Cond.code_spec B.named hw
        cases Option.some.inj (h1.symm.trans B.method)
        cases Option.some.inj (h2.symm.trans (Stand.of_body B).code)
        rw [Array.isEmpty_iff.mp h7]
        rfl
      · rw [codeW_cons hh, hh] at hw
        exact vx_table (x := my y) B hw
    obtain ⟨t, a1, o, b1, b2, b3⟩ := body p e s m args below meth c s₁ B hml ht hP s₁ hh0 (Stand.of_body B)
    exact ⟨t, o, a1, b1, b2, b3⟩
theorem con_of {y : Nat} {as : List Value} {h : rH} {r : rR} (hfl : l.stackTraces = false) (hmy : MF y) (h1 : as.all (fun v => v.category == 1) = true) (h2 : as.length ≤ ml y)
    (body : ∀ {p : Program} {e : Env} {R : Room} {s : State} {m : MethodId} {args : Array Value} {below : List Frame} {meth : Method} {c : Code} {D : va_G} {dA : Nat → ClassId} {A : Nat → Prop} {xt : Nat → Option Nat} {a0 : List Nat} {Qc : Array Value → State → Outcome → State → Prop} {XC : String → State → State → Prop}, CX p l R s m args meth c D dA A xt X y → c.exceptionTable.toList = tableOf (mh y) → r.2.2.1 ≤ R.cells ∧ r.2.2.2 ≤ R.slots → TR s args D dA A xt a0 Qc r → TT s D dA A xt a0 XC r → GO p l e R s m args below meth c (vx_MQ below Qc XC args s r.2.2.1 r.2.2.2 A) D dA A xt a0 y (ent y as h)) : CON l X y as h r := by
  intro D dA xt ws cas sz hH hF
  refine vx_ofWG hmy.2.2.2.2.1 ?_
  intro p e s m args below meth c s₁ B hml htab hv
  obtain ⟨rfl, hsz, hP, hK, hD0, hE⟩ := hv
  subst hsz
  have hts9 := atoms_spec (ws := codeW y :: TBL) B.pre
  have cx : CX p l (rmy y r) s m cas.toArray meth c D dA (va_A ws s.heap.size) xt X y := ⟨⟨B.exec, B.bytes, hml, by rw [← hmy.2.2.2.2.2.1]; exact findClass_of_methodNamed B.named, fun w hw => hts9 w (List.mem_cons_of_mem _ hw)⟩, hK, fun q h => Or.inr h, ⟨Nat.le_refl _, Nat.le_refl _⟩, hE, hfl, B.notSynchronized, B.returns, fun hn => (name_of_methodNamed B.named B.method).1.trans hn⟩
  have G := body (e := e) (below := below) (a0 := ws.map (·.1)) (Qc := QU D dA xt ws s.heap.size r) (XC := XU D dA xt ws s.heap.size r) cx htab ⟨Nat.le_refl _, Nat.le_refl _⟩ (fun v w ws' t e1 e2 e3 e4 e5 e6 => ⟨⟨v, w, ws', e1, rfl, e2, e3, e4, e5⟩, e6⟩) (fun n ws' t e1 hn e3 e4 e5 e6 => ⟨⟨n, ws', e1, hn, rfl, e3, e4, e5⟩, e6⟩)
  have hlen := FR_len hF
  have hcat : cas.all (fun v => v.category == 1) = true := by
    rw [List.all_eq_true] at h1 ⊢
    intro w hw
    obtain ⟨k, hk⟩ := List.getElem?_of_mem hw
    have hk2 : k < as.length := by rw [← hlen]; exact (List.getElem?_eq_some_iff.mp hk).1
    obtain ⟨w', e1, e2⟩ := FR_get hF k as[k] (List.getElem?_eq_getElem hk2)
    rw [hk] at e1
    cases e1
    rw [VR_cat e2]
    exact h1 _ (List.getElem_mem hk2)
  have hsl : ∀ {vs : List Value}, vs.all (fun v => v.category == 1) = true → (lg_sl vs).length = vs.length := by
    intro vs
    induction vs with
    | nil => intro _; rfl
    | cons v vs ih =>
      intro hv
      simp only [List.all_cons, Bool.and_eq_true, beq_iff_eq] at hv
      simp only [lg_sl, List.flatMap_cons, hv.1]
      have := ih hv.2
      simp only [lg_sl] at this
      simp [this]
  have hl := lv_entry cas (n := ml y) (by rw [hsl hcat, hlen]; exact h2)
  rw [lg_entry_eq]
  refine G s.heap [] _ [] ws hH hP hD0.self va_S.rf rfl ⟨?_, _, hl, ?_⟩
  · show (as.map some ++ List.replicate (ml y - as.length) none).length = ml y
    simp
    omega
  · intro i v hi
    have hi' : (as.map some ++ List.replicate (ml y - as.length) none)[i]? = some (some v) := hi
    by_cases hia : i < as.length
    · rw [List.getElem?_append_left (by simpa using hia)] at hi'
      obtain ⟨w, a, b, c⟩ := LR_entry (fun _ _ => VR_cat) hF h1 0 i v hi'
      exact ⟨w, a, b, by simpa using c⟩
    · rw [List.getElem?_append_right (by simpa using Nat.le_of_not_lt hia)] at hi'
      have := List.mem_of_getElem? hi'
      simp at this
theorem sound (hfl : l.stackTraces = false) : ∀ (n M : Nat) (f : rF) (r : rR), run X n M f = some r → ∀ {p : Program} {e : Env} {R : Room} {s : State} {m : MethodId} {args : Array Value} {below : List Frame} {meth : Method} {c : Code} {D : va_G} {dA : Nat → ClassId} {A : Nat → Prop} {xt : Nat → Option Nat} {a0 : List Nat} {Qc : Array Value → State → Outcome → State → Prop} {XC : String → State → State → Prop}, CX p l R s m args meth c D dA A xt X M → c.exceptionTable.toList = tableOf (mh M) → r.2.2.1 ≤ R.cells ∧ r.2.2.2 ≤ R.slots → TR s args D dA A xt a0 Qc r → TT s D dA A xt a0 XC r → GO p l e R s m args below meth c (vx_MQ below Qc XC args s r.2.2.1 r.2.2.2 A) D dA A xt a0 M f := by
  intro n
  induction n with
  | zero => intro M f r h; cases h
  | succ n ih =>
    intro M f r h0
    intro p e R s m args below meth c D dA A xt a0 Qc XC cx htab hcap h1 h2
    obtain ⟨pc, ls, st, h, ks, ss⟩ := f
    rw [run] at h0
    cases hs : stepM X M (pc, ls, st, h, ks, ss) with
    | none => rw [hs] at h0; cases h0
    | some q =>
      rw [hs] at h0
      rcases q with g | ⟨y, as, rest⟩ | r'
      · have b := run_cap n M g r h0
        exact go_step cx hs ⟨Nat.le_trans b.1 hcap.1, Nat.le_trans b.2 hcap.2⟩ (ih M g r h0 cx htab hcap h1 h2)
      · dsimp only at h0
        cases hc : run X n y (ent y as h) with
        | none => rw [hc] at h0; cases h0
        | some q =>
          rw [hc] at h0
          have hC : MF y → as.all (fun v => v.category == 1) = true → as.length ≤ ml y → CON l X y as h q := fun m1 m2 m3 => con_of hfl m1 m2 m3 (fun cx htab hcap h1 h2 => ih y (ent y as h) q hc cx htab hcap h1 h2)
          obtain ⟨o, hh, k1, s1⟩ := q
          cases o with
          | inl v =>
            have b := run_cap n M _ r h0
            dsimp only at b
            refine go_call cx hs hC ⟨by dsimp only; omega, by dsimp only; omega⟩ (fun v' e1 => ?_) (fun n' e1 => by cases e1)
            cases e1
            exact ih M _ r h0 cx htab hcap h1 h2
          | inr E =>
            dsimp only at h0
            cases ht : thr M E pc ls hh (ks + k1) (ss + s1) with
            | none => rw [ht] at h0; cases h0
            | some q =>
              rw [ht] at h0
              rcases thr_spec ht with ⟨t, hhn, rfl⟩ | ⟨hm, rfl⟩
              · have b := run_cap n M _ r h0
                dsimp only at b
                refine go_call cx hs hC ⟨by dsimp only; omega, by dsimp only; omega⟩ (fun v' e1 => by cases e1) (fun n' e1 hn => ?_)
                cases e1
                exact go_catch cx htab hn hhn (ih M _ r h0 cx htab hcap h1 h2)
              · cases h0
                refine go_call cx hs hC hcap (fun v' e1 => by cases e1) (fun n' e1 hn => ?_)
                cases e1
                intro ws' H1 locs1 cls crest q ce hH hP hD hS hls hc1 hc2 hc3
                refine vx_out (E := en E) ?_ cx.2.2.2.2.2.2.1 hc1 hc2 hc3 (fun t ht9 _ => h2 E ws' t rfl hn hH (by rw [ht9]; exact hP) hD (hS.F ht9)) hS.2.2 (Nat.le_refl _) (Nat.le_refl _)
                rw [htab, hm]
                intro x hx
                cases hx
      · cases h0
        exact go_end cx htab hs hcap h1 h2
/-- what the machine computes of a method is its contract -/
theorem con_ex (hfl : l.stackTraces = false) {y : Nat} {as : List Value} {h : rH} {r : rR} (hr : exC X y as h = some r) (hmy : MF y) (h1 : as.all (fun v => v.category == 1) = true) (h2 : as.length ≤ ml y) : CON l X y as h r := by
  obtain ⟨n, hn⟩ := exM_iff.mp hr
  exact con_of hfl hmy h1 h2 (fun cx htab hcap t1 t2 => sound hfl n y (ent y as h) r hn cx htab hcap t1 t2)
/-- a run of the top frame alone, up to a place -/
def runS (X : rX) (M sp : Nat) : Nat → rF → Option rF
  | 0, _ => none
  | n + 1, f => if f.1 = sp then some f else match stepM X M f with
    | some (.inl g) => runS X M sp n g
    | some (.inr (.inl (y, as, rest))) => match run X n y (ent y as f.2.2.2.1) with
      | some (.inl v, h, k, s) => runS X M sp n (f.1 + 3, f.2.1, v.toList ++ rest, h, f.2.2.2.2.1 + k, f.2.2.2.2.2 + s)
      | _ => none
    | _ => none
end SNI
