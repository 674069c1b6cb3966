/-! CALLS AND ENDS: what the machine computes of a method is its contract -/
section SNC
variable {p : Program} {l : Launch} {e : Env} {R : Room} {s : State} {m : MethodId} {args : Array Value} {below : List Frame} {meth : Method} {c : Code} {Q : State → Prop} {D : va_G} {dA : Nat → ClassId} {A : Nat → Prop} {xt : Nat → Option Nat} {X : rX} {M : Nat} {a0 : List Nat}
variable {pc ks ss : Nat} {ls : rL} {st : List Value} {h : rH} {g : rF}
def PU (D : va_G) (dA : Nat → ClassId) (xt : Nat → Option Nat) (X : rX) (ws : va_W) (sz : Nat) (U : State) : Prop := U.heap.size = sz ∧ va_P D vwCl ws U.heap ∧ va_K D vwCl (tysA dA) U ∧ va_D (fun _ => True) ws ∧ EXT X xt (va_A ws sz) U U.heap
def OR (xt : Nat → Option Nat) (a : List Nat) (v w : Option Value) : Prop := match v with
  | none => w = none
  | some v => ∃ w', w = some w' ∧ VR xt a v w'
def WU (D : va_G) (dA : Nat → ClassId) (xt : Nat → Option Nat) (ws : va_W) (sz : Nat) (h' : rH) (ws' : va_W) (t : State) : Prop := HR xt dA (ws.map (·.1)) h' ws' ∧ va_P D vwCl ws' t.heap ∧ va_D (va_A ws sz) ws'
def QU (D : va_G) (dA : Nat → ClassId) (xt : Nat → Option Nat) (ws : va_W) (sz : Nat) (r : rR) : Array Value → State → Outcome → State → Prop := fun _ st oc t => (∃ (v w : Option Value) (ws' : va_W), r.1 = .inl v ∧ oc = .returned w ∧ OR xt (ws'.map (·.1)) v w ∧ WU D dA xt ws sz r.2.1 ws' t) ∧ va_F (va_A ws sz) st t
def XU (D : va_G) (dA : Nat → ClassId) (xt : Nat → Option Nat) (ws : va_W) (sz : Nat) (r : rR) : String → State → State → Prop := fun E st t => (∃ (n : Nat) (ws' : va_W), r.1 = .inr n ∧ n < 3 ∧ E = en n ∧ WU D dA xt ws sz r.2.1 ws' t) ∧ va_F (va_A ws sz) st t
def rmy (y : Nat) (r : rR) : Room := { frames := fr y, cells := r.2.2.1, slots := r.2.2.2, locals := lo y }
def CON (l : Launch) (X : rX) (y : Nat) (as : List Value) (h : rH) (r : rR) : Prop := ∀ (D : va_G) (dA : Nat → ClassId) (xt : Nat → Option Nat) (ws : va_W) (cas : List Value) (sz : Nat), HR xt dA (ws.map (·.1)) h ws → FR (VR xt (ws.map (·.1))) as cas →
  vx_Met l (my y) (codeW y :: TBL) (rmy y r) (va_Pc cas (PU D dA xt X ws sz)) (QU D dA xt ws sz r) (XU D dA xt ws sz r) r.2.2.1 r.2.2.2 (va_A ws sz)
theorem free_A {ws : va_W} {H : Heap} {locs : List Loc} (hA : ∀ q : Nat, s.heap.size ≤ q → A q) (hD : va_D A ws) (hS : va_S A s.heap H locs) : ∀ q : Nat, va_A ws H.size q → A q := by
  intro q hq
  rcases hq with ⟨k, e, hk⟩ | hq
  · exact hD.2 k (q, e) hk
  · exact hA q (Nat.le_trans hS.1 hq)
theorem HR_tr {h h' : rH} {ws ws' : va_W} (H1 : HR xt dA a0 h ws) (H2 : HR xt dA (ws.map (·.1)) h' ws') : HR xt dA a0 h' ws' := by
  refine ⟨H2.1, H2.2.1, ?_⟩
  obtain ⟨b, hb⟩ := H1.2.2
  obtain ⟨b', hb'⟩ := H2.2.2
  exact ⟨b ++ b', by rw [hb', hb, List.append_assoc]⟩
theorem run_el {av : Array Value} {r : rR} {H : Heap} {locs : List Loc} {cls : Array Slot} {cst crest : List Value} {ws : va_W} (hA : ∀ q : Nat, s.heap.size ≤ q → A q) (hD : va_D A ws) (hS : va_S A s.heap H locs) (hH : HR xt dA a0 h ws)
    (hr : vx_Run p l e R s m args below meth c H locs ks ss r.2.2.1 r.2.2.2 (F0 m pc cls cst) crest (QU D dA xt ws H.size r av) (XU D dA xt ws H.size r) (va_A ws H.size))
    (kk : ∀ (v w : Option Value) (ws' : va_W) (H1 : Heap) (locs1 : List Loc), r.1 = .inl v → OR xt (ws'.map (·.1)) v w → HR xt dA a0 r.2.1 ws' → (∃ b, ws'.map (·.1) = ws.map (·.1) ++ b) → va_P D vwCl ws' H1 → va_D A ws' → va_S A s.heap H1 locs1 → W p l e R s m args below meth c H1 locs1 (ks + r.2.2.1) (ss + r.2.2.2) Q (F0 m (pc + 3) cls (w.toList ++ crest)))
    (kx : ∀ (n : Nat) (ws' : va_W) (H1 : Heap) (locs1 : List Loc) (q : Nat) (ce : Cell), r.1 = .inr n → n < 3 → HR xt dA a0 r.2.1 ws' → (∃ b, ws'.map (·.1) = ws.map (·.1) ++ b) → va_P D vwCl ws' H1 → va_D A ws' → va_S A s.heap H1 locs1 → H1[q]? = some ce → ce.vm = .none → s.vm.findClass (en n) = some ce.cls → vx_W p l e R s m args below meth c H1 locs1 (ks + r.2.2.1) (ss + r.2.2.2) Q (F0 m pc cls crest) q) :
    W p l e R s m args below meth c H locs ks ss Q (F0 m pc cls cst) := by
  have hf := free_A hA hD hS
  intro T hT Y
  rcases hr T hT Y with ⟨v9, st₀, t, T', L, h0, X', hL, e1, e2, ⟨⟨v, w, ws', h1, h2, h3, h4, h5, h6⟩, hF⟩, st⟩ | ⟨q, st₀, t, T', L, E, ce, h0, X', hL, e1, e2, ⟨⟨n, ws', h1, hn, rfl, h4, h5, h6⟩, hF⟩, hce, hcv, hcl, st⟩
  · cases h2
    obtain ⟨-, -, k3⟩ := vx_keep h0 e1 hS (fun q _ hq => hf q hq) hf hL hF
    obtain ⟨t2, a1, b1⟩ := kk v v9 ws' T'.heap (locs ++ L) h1 h3 (HR_tr hH h4) h4.2.2 (by rw [e1]; exact h5) (h6.weaken (fun _ _ _ hq => hf _ hq)) k3 T' rfl X'
    exact ⟨t2, st t2 a1, b1⟩
  · obtain ⟨-, -, k3⟩ := vx_keep h0 e1 hS (fun q _ hq => hf q hq) hf hL hF
    obtain ⟨t2, a1, b1⟩ := kx n ws' T'.heap (locs ++ L) q ce h1 hn (HR_tr hH h4) h4.2.2 (by rw [e1]; exact h5) (h6.weaken (fun _ _ _ hq => hf _ hq)) k3 (by rw [e1]; exact hce) hcv hcl T' rfl X'
    exact ⟨t2, st.trans a1, b1⟩
/-- the callee's start, at the call -/
theorem pre_PU {ws : va_W} {H : Heap} {locs : List Loc} (cx : CX p l R s m args meth c D dA A xt X M) (hP : va_P D vwCl ws H) (hD : va_D A ws) (hS : va_S A s.heap H locs) (cas : List Value) : FrameBlind (va_Pc cas (PU D dA xt X ws H.size)) ∧ ∀ U : State, U.heap = H → s.WarmedH U.vm → va_Pc cas (PU D dA xt X ws H.size) cas.toArray U := by
  obtain ⟨-, hK, hA, -, hE, -⟩ := cx
  refine ⟨fun a U g mk hq => ?_, fun U hU hW => ⟨rfl, by rw [hU], by rw [hU]; exact hP, va_K.moved hW.alike hK, hD.weaken (fun _ _ _ _ => trivial), ?_⟩⟩
  · obtain ⟨q0, q1, qP, qK, qD, qE⟩ := hq
    exact ⟨q0, q1, qP, va_K.moved (u := U) (U := U.calling g mk a) (Vm.Alike.refl U.vm) qK, qD, EXT.same (u := U) (U := U.calling g mk a) rfl qE⟩
  · rw [hU]
    exact EXT.to hW (fun q h1 h2 => hS.2.1 q h1 h2) (free_A hA hD hS) hE
theorem codeW_in {y : Nat} (hy : MF y) {args : Array Value} {s : State} (hts : ∀ w ∈ TBL, w.before args s = true) : ∀ w ∈ codeW y :: TBL, ∀ (a' : Array Value) (U : State), s.WarmedH U.vm → w.before a' U = true := by
  intro w hw a' U hW
  rcases List.mem_cons.mp hw with rfl | hw
  · exact TBL_at hts hW _ hy.1
  · exact TBL_at hts hW _ hw
theorem codeW_nil {y : Nat} (h : mh y = []) : codeW y = .code (my y) (mb y) (ml y) (mr y) := by
  unfold codeW
  rw [h]
theorem codeW_cons {y : Nat} {q : Nat × Nat × Nat × Nat} {t : List (Nat × Nat × Nat × Nat)} (h : mh y = q :: t) : codeW y = .codeWith (my y) (mb y) (ml y) (mr y) (mh y) := by
  unfold codeW
  rw [h]
theorem na_of {y : Nat} (hy : MF y) : ∀ sig, parseMethodDescriptor (my y).desc = some sig → mna y = sig.parameters.length := by
  intro sig hs
  have h2 := hy.2.2.2.2.2.2.2
  rw [hs] at h2
  exact (Option.some.inj h2).symm
theorem run_S {ix y : Nat} {r : rR} {H : Heap} {locs : List Loc} {cls : Array Slot} {cst As crest : List Value} {ws : va_W} (cx : CX p l R s m args meth c D dA A xt X M) (hD : va_D A ws) (hP : va_P D vwCl ws H) (hS : va_S A s.heap H locs) (hsz : cls.size = ml M)
    (hd : decode (mb M) pc = .ok (.invokestatic ix, 3)) (hmy : MF y) (hlink : Cond.methodLink (rn (ow M)) ix (my y) ∈ TBL) (hst : mst y = true) (hfr : fr y + 1 ≤ fr M) (hlo : 8 + (ml y + 11) + lo y ≤ lo M) (hn : As.length = mna y) (hstk : cst = As.reverse ++ crest) (hvc : (crest.map fun v => v.category).sum ≤ 8) (hcap : ks + r.2.2.1 ≤ R.cells ∧ ss + r.2.2.2 ≤ R.slots)
    (hM : vx_Met l (my y) (codeW y :: TBL) (rmy y r) (va_Pc As (PU D dA xt X ws H.size)) (QU D dA xt ws H.size r) (XU D dA xt ws H.size r) r.2.2.1 r.2.2.2 (va_A ws H.size)) :
    vx_Run p l e R s m args below meth c H locs ks ss r.2.2.1 r.2.2.2 (F0 m pc cls cst) crest (QU D dA xt ws H.size r As.toArray) (XU D dA xt ws H.size r) (va_A ws H.size) := by
  have hts := cx.1.2.2.2.2
  have hR := cx.2.2.2.1
  have b1 : (rmy y r).frames + 1 ≤ R.frames := Nat.le_trans hfr hR.1
  have b2 : 8 + (ml y + 11) + (rmy y r).locals ≤ R.locals := Nat.le_trans hlo hR.2
  rcases hh : mh y with _ | ⟨q, t⟩
  · exact vx_runS cx.1 hM ⟨⟨rfl, rfl, b1, b2, codeW_in hmy hts, by rw [codeW_nil hh]; exact List.mem_cons_self, by rw [← codeW_nil hh]; exact hts _ hmy.1, hts _ hmy.2.1, hmy.2.2.2.2.2.2.1, na_of hmy, hts _ hlink⟩, hts _ (hmy.2.2.1 hst)⟩ (pre_PU cx hP hD hS As) rfl hn hsz hstk (lv_room hvc) hd hcap
  · exact vx_runSX (hh := mh y) cx.1 hM ⟨⟨rfl, rfl, b1, b2, codeW_in hmy hts, by rw [← codeW_cons hh]; exact List.mem_cons_self⟩, by rw [← codeW_cons hh]; exact hts _ hmy.1, hts _ hmy.2.1, hmy.2.2.2.2.2.2.1, na_of hmy, hts _ hlink, hts _ (hmy.2.2.1 hst)⟩ (pre_PU cx hP hD hS As) rfl hn hsz hstk (lv_room hvc) hd hcap
theorem run_V {ix y b pa : Nat} {fs : List Value} {r : rR} {H : Heap} {locs : List Loc} {cls : Array Slot} {cst As crest : List Value} {ws : va_W} (cx : CX p l R s m args meth c D dA A xt X M) (hD : va_D A ws) (hP : va_P D vwCl ws H) (hS : va_S A s.heap H locs) (hsz : cls.size = ml M)
    (hd : decode (mb M) pc = .ok (.invokevirtual ix, 3)) (hmy : MF y) (hlink : Cond.methodLink (rn (ow M)) ix (my y) ∈ TBL) (hst : mst y = false) (hni : (my y).name ≠ "<init>") (hnh : mh y = []) (how : ow y < 9) (hrec : ws[pa]? = some (b, .inr (ow y, fs))) (hfr : fr y + 1 ≤ fr M) (hlo : 8 + (ml y + 11) + lo y ≤ lo M) (hn : As.length = mna y) (hstk : cst = As.reverse ++ .ref b :: crest) (hvc : (crest.map fun v => v.category).sum ≤ 8) (hcap : ks + r.2.2.1 ≤ R.cells ∧ ss + r.2.2.2 ≤ R.slots)
    (hM : vx_Met l (my y) (codeW y :: TBL) (rmy y r) (va_Pc (.ref b :: As) (PU D dA xt X ws H.size)) (QU D dA xt ws H.size r) (XU D dA xt ws H.size r) r.2.2.1 r.2.2.2 (va_A ws H.size)) :
    vx_Run p l e R s m args below meth c H locs ks ss r.2.2.1 r.2.2.2 (F0 m pc cls cst) crest (QU D dA xt ws H.size r (Value.ref b :: As).toArray) (XU D dA xt ws H.size r) (va_A ws H.size) := by
  have hts := cx.1.2.2.2.2
  have hR := cx.2.2.2.1
  have b1 : (rmy y r).frames + 1 ≤ R.frames := Nat.le_trans hfr hR.1
  have b2 : 8 + (ml y + 11) + (rmy y r).locals ≤ R.locals := Nat.le_trans hlo hR.2
  obtain ⟨hi1, hi2⟩ := hmy.2.2.2.1 hst
  have hse := hts _ (hi2.resolve_left hni)
  obtain ⟨hcl, hcn⟩ := rn_cl how
  have hrcv := va_recv cx.2.1 hP hcl hrec
  have hcls : (my y).cls = (clC (ow y)).1 := hmy.2.2.2.2.2.1.trans hcn.symm
  rw [← hcls] at hrcv
  have hpre := pre_PU cx hP hD hS (.ref b :: As)
  exact vx_runV cx.1 hM ⟨⟨rfl, rfl, b1, b2, codeW_in hmy hts, by rw [codeW_nil hnh]; exact List.mem_cons_self, by rw [← codeW_nil hnh]; exact hts _ hmy.1, hts _ hmy.2.1, hmy.2.2.2.2.2.2.1, na_of hmy, hts _ hlink⟩, hts _ hi1, hse⟩ ⟨hpre.1, hrcv, hpre.2⟩ rfl hn hsz hstk (lv_room hvc) hd hcap
theorem run_I {ix y b : Nat} {ne : Bool} {r : rR} {H : Heap} {locs : List Loc} {cls : Array Slot} {cst As crest : List Value} {ws : va_W} (cx : CX p l R s m args meth c D dA A xt X M) (hD : va_D A ws) (hP : va_P D vwCl ws H) (hS : va_S A s.heap H locs) (hsz : cls.size = ml M)
    (hd : decode (mb M) pc = .ok (.invokespecial ix, 3)) (hmy : MF y) (hlink : mthW (ow M, ix, y, ne) ∈ TBL) (hst : mst y = false) (hni : (my y).name = "<init>") (hnr : mr y = none) (hnh : mh y = []) (hfr : fr y + 1 ≤ fr M) (hlo : 8 + (ml y + 11) + lo y ≤ lo M) (hn : As.length = mna y) (hstk : cst = As.reverse ++ .ref b :: crest) (hvc : (crest.map fun v => v.category).sum ≤ 8) (hcap : ks + r.2.2.1 ≤ R.cells ∧ ss + r.2.2.2 ≤ R.slots)
    (hM : vx_Met l (my y) (codeW y :: TBL) (rmy y r) (va_Pc (.ref b :: As) (PU D dA xt X ws H.size)) (QU D dA xt ws H.size r) (XU D dA xt ws H.size r) r.2.2.1 r.2.2.2 (va_A ws H.size)) :
    vx_Run p l e R s m args below meth c H locs ks ss r.2.2.1 r.2.2.2 (F0 m pc cls cst) crest (QU D dA xt ws H.size r (Value.ref b :: As).toArray) (XU D dA xt ws H.size r) (va_A ws H.size) := by
  have hts := cx.1.2.2.2.2
  have hR := cx.2.2.2.1
  have b1 : (rmy y r).frames + 1 ≤ R.frames := Nat.le_trans hfr hR.1
  have b2 : 8 + (ml y + 11) + (rmy y r).locals ≤ R.locals := Nat.le_trans hlo hR.2
  obtain ⟨hi1, -⟩ := hmy.2.2.2.1 hst
  have hpre := pre_PU cx hP hD hS (.ref b :: As)
  have hcw : codeW y = .code (my y) (mb y) (ml y) none := by rw [codeW_nil hnh, hnr]
  cases ne with
  | false => exact vx_runI cx.1 hM ⟨⟨rfl, rfl, b1, b2, codeW_in hmy hts, by rw [hcw]; exact List.mem_cons_self, by rw [← hcw]; exact hts _ hmy.1, hts _ hmy.2.1, hmy.2.2.2.2.2.2.1, na_of hmy, hts _ hlink⟩, hni, hts _ hi1⟩ hpre rfl hn hsz hstk (lv_room hvc) hd hcap
  | true => exact vx_runIN cx.1 hM ⟨⟨⟨rfl, rfl, b1, b2, codeW_in hmy hts, by rw [hcw]; exact List.mem_cons_self⟩, by rw [← hcw]; exact hts _ hmy.1, hts _ hmy.2.1, hmy.2.2.2.2.2.2.1, na_of hmy, hts _ hlink⟩, hni, hts _ hi1⟩ hpre rfl hn hsz hstk (lv_room hvc) hd hcap
end SNC
