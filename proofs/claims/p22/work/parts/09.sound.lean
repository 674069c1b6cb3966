/-! FIELDS, MAKING, CALLS, ENDS; THE MACHINE IS SOUND -/
section SNE
variable {p : Program} {l : Launch} {e : Env} {R : Room} {s : State} {m : MethodId} {args : Array Value} {below : List Frame} {meth : Method} {c : Code} {Q : State → Prop} {D : va_G} {dA : Nat → ClassId} {A : Nat → Prop} {xt : Nat → Option Nat} {X : rX} {M : Nat} {a0 : List Nat}
variable {pc ks ss : Nat} {ls : rL} {st : List Value} {h : rH} {g : rF}
theorem VR_ty {a : List Nat} {v w : Value} {ty : FieldType} (hv : VR xt a v w) (h1 : fits ty v = true) (h2 : narrow ty v = v) : fits ty w = true ∧ narrow ty w = w := by
  cases v with
  | ref p => obtain ⟨q, e, _⟩ := hv; rw [e]; exact ⟨fits_ref ty p q h1, narrow_ref ty p q h2⟩
  | int x => rw [show w = .int x from hv]; exact ⟨h1, h2⟩
  | long x => rw [show w = .long x from hv]; exact ⟨h1, h2⟩
  | null => rw [show w = .null from hv]; exact ⟨h1, h2⟩
  | _ => exact hv.elim
theorem go_fget {ix : Nat} (cx : CX p l R s m args meth c D dA A xt X M) (hd : decode (mb M) pc = .ok (.getfield ix, 3)) (he : fget M ix pc ls st h ks ss = some (.inl g)) (K : GO p l e R s m args below meth c Q D dA A xt a0 M g) : GO p l e R s m args below meth c Q D dA A xt a0 M (pc, ls, st, h, ks, ss) := by
  obtain ⟨⟨hx, hb, hml, hown, hts⟩, hK, hA, hR, hE, -⟩ := cx
  intro H locs cls cst ws hH hP hD hS hst hls
  unfold fget at he
  split at he
  · obtain ⟨q, c2, rfl, hv, h2⟩ := FRr hst
    split at he
    · rename_i ci kf ne hfl
      obtain ⟨hw, hcl, hkf⟩ := fldT_ok _ (asc_mem _ _ _ _ hfl)
      dsimp only at hw hcl hkf
      split at he
      · rename_i c2 fs hl
        split at he
        · rename_i hc2
          subst hc2
          split at he
          · rename_i v hfs
            unfold nx at he
            cases he
            obtain ⟨q', ce, e1, e2, ⟨gs, e3, e4⟩, -⟩ := HR_get hH hl hv
            cases e1
            subst e3
            obtain ⟨w, e5, e6⟩ := FR_get e4 _ _ hfs
            have K' := K H locs cls (w :: _) ws hH hP hD hS ⟨_, _, rfl, e6, h2⟩ hls
            cases ne with
            | true => exact va_getN (D := D) hx hb hts (inC_ok hcl) hown hK hP _ e2 hcl kf hkf (hts _ hw) (fun _ z => z) e5 hd K'
            | false => exact va_get (D := D) hx hb hts (inC_ok hcl) hown hK hP _ e2 hcl kf hkf (hts _ hw) (fun _ z => z) e5 hd K'
          · cases he
        · cases he
      · cases he
    · cases he
  · cases he
theorem go_fput {ix : Nat} (cx : CX p l R s m args meth c D dA A xt X M) (hd : decode (mb M) pc = .ok (.putfield ix, 3)) (he : fput M ix pc ls st h ks ss = some (.inl g)) (K : GO p l e R s m args below meth c Q D dA A xt a0 M g) : GO p l e R s m args below meth c Q D dA A xt a0 M (pc, ls, st, h, ks, ss) := by
  obtain ⟨⟨hx, hb, hml, hown, hts⟩, hK, hA, hR, hE, -, -, -, hnm⟩ := cx
  intro H locs cls cst ws hH hP hD hS hst hls
  unfold fput at he
  split at he
  · obtain ⟨w, c1, rfl, hvw, h1⟩ := hst
    obtain ⟨q, c2, rfl, hv, h2⟩ := FRr h1
    split at he
    · rename_i ci kf ne hfl
      obtain ⟨hw, hcl, hkf⟩ := fldT_ok _ (asc_mem _ _ _ _ hfl)
      dsimp only at hw hcl hkf
      split at he
      · rename_i c2 fs hl
        split at he
        · rename_i hcs
          obtain ⟨hc2, hkl, hfit, hnar, hne, hfin⟩ := hcs
          subst hc2
          subst hne
          unfold nx at he
          cases he
          obtain ⟨q', ce, e1, e2, ⟨gs, e3, e4⟩, -⟩ := HR_get hH hl hv
          cases e1
          subst e3
          obtain ⟨hfit', hnar'⟩ := VR_ty hvw hfit hnar
          have hgl : kf < gs.length := by rw [FR_len e4]; exact hkl
          have KK : ∀ (H1 : Heap) (locs1 : List Loc), va_P D vwCl (ws.set _ (q, .inr (c2, gs.set kf w))) H1 → va_D A (ws.set _ (q, .inr (c2, gs.set kf w))) → va_S A s.heap H1 locs1 → W p l e R s m args below meth c H1 locs1 ks ss Q (F0 m (pc + 3) cls _) := fun H1 locs1 hP1 hD1 hS1 => K H1 locs1 cls _ _ (HR_set hH e2 ⟨gs.set kf w, rfl, FR_set hvw e4 kf⟩) hP1 hD1 hS1 (by rw [adr_set e2]; exact h2) (by rw [adr_set e2]; exact hls)
          cases hf : ((clC c2).2.1 kf).2.2.2 with
          | false => exact va_put (D := D) hx hb hts (inC_ok hcl) (tyC c2) (tyC_ok hcl) (nmC_ok hcl) hown hK hP hD hS _ e2 hcl kf hkf (hts _ hw) (fun _ z => z) hf (tyC_ok hcl kf hkf) hnar' hfit' hgl hd KK
          | true => exact va_putF (D := D) hx hb hts (inC_ok hcl) (tyC c2) (tyC_ok hcl) (nmC_ok hcl) hown hK hP hD hS _ e2 hcl kf hkf (hts _ hw) (fun _ z => z) hf (hnm (hfin hf).1) (hfin hf).2 (tyC_ok hcl kf hkf) hnar' hfit' hgl hd KK
        · cases he
      · cases he
    · cases he
  · cases he
theorem go_sget {ix : Nat} (cx : CX p l R s m args meth c D dA A xt X M) (hd : decode (mb M) pc = .ok (.getstatic ix, 3)) (he : sget M ix pc ls st h ks ss = some (.inl g)) (K : GO p l e R s m args below meth c Q D dA A xt a0 M g) : GO p l e R s m args below meth c Q D dA A xt a0 M (pc, ls, st, h, ks, ss) := by
  obtain ⟨⟨hx, hb, hml, hown, hts⟩, hK, hA, hR, hE, -⟩ := cx
  intro H locs cls cst ws hH hP hD hS hst hls
  unfold sget at he
  split at he
  · rename_i ex hsl
    obtain ⟨hw, hex⟩ := staT_ok _ (asc_mem _ _ _ _ hsl)
    dsimp only at hw hex
    unfold nx at he
    cases he
    obtain ⟨q, hq, hZ⟩ := hE.2.1
    have hq' : if ex < 99999 then (ws.map (·.1))[ex]? = some q else (ex = 99999 ∨ xt ex = some q) := by
      rw [hex]
      exact Or.inr hq
    exact va_getsN hx hb hZ hS hown (hts _ hw) (fun _ z => z) hd (K H locs cls (.ref q :: _) ws hH hP hD hS ⟨_, _, rfl, ⟨q, rfl, hq'⟩, hst⟩ hls)
  · cases he
theorem dfl_V {ci : Nat} : ∀ j, j < (clC ci).2.2 → defaultValue (tyC ci j) = vp_V (dfl ci) j := fun j hj => by
  unfold vp_V dfl
  simp [hj]
theorem go_new {ix : Nat} (cx : CX p l R s m args meth c D dA A xt X M) (hd : decode (mb M) pc = .ok (.new ix, 3)) (he : newo M ix pc ls st h ks ss = some (.inl g)) (hcap : g.2.2.2.2.1 ≤ R.cells ∧ g.2.2.2.2.2 ≤ R.slots) (K : GO p l e R s m args below meth c Q D dA A xt a0 M g) : GO p l e R s m args below meth c Q D dA A xt a0 M (pc, ls, st, h, ks, ss) := by
  obtain ⟨⟨hx, hb, hml, hown, hts⟩, hK, hA, hR, hE, -⟩ := cx
  intro H locs cls cst ws hH hP hD hS hst hls
  unfold newo at he
  split at he
  · rename_i ci hcl
    obtain ⟨w1, w2, w3, hc⟩ := clsT_ok _ (asc_mem _ _ _ _ hcl)
    dsimp only at w1 w2 w3 hc
    split at he
    · rename_i hlen
      unfold nx at he
      cases he
      have hci : ci < 9 := (List.getElem?_eq_some_iff.mp hc).1
      refine va_new hx hb hts (inC_ok hc) (tyC ci) (tyC_ok hc) hown (hts _ w1) (hts _ w2) (hts _ w3) hK hP hD hS hA hc dfl_V hcap.1 hcap.2 hd fun q H1 hP1 hD1 hS1 => ?_
      have hm : (ws ++ [(q, (.inr (ci, dfl ci) : va_E))]).map (·.1) = ws.map (·.1) ++ [q] := by simp
      refine K H1 locs cls (.ref q :: _) _ (HR_push hH ⟨_, rfl, FR_ok (dfl_ok hci)⟩) hP1 hD1 hS1 ?_ ?_
      · rw [hm]
        refine ⟨_, _, rfl, ⟨q, rfl, ?_⟩, FR_mono (fun _ _ => VR_mono) hst⟩
        rw [if_pos hlen, List.getElem?_append_right (by simp [hH.1])]
        simp [hH.1]
      · rw [hm]
        exact LR_mono (fun _ _ => VR_mono) hls
    · cases he
  · split at he
    · split at he <;> cases he
    · cases he
theorem newa_dA {ws : va_W} {ty : FieldType} {t : Nat} {cA : ClassId} (hK : va_K D vwCl (tysA dA) s) (hk : (tysA dA)[t]? = some (dA t, ty)) (hn : ty = .int ∨ ty = .boolean) (hK' : va_K D vwCl (tysA dA ++ [(cA, ty)]) s) : cA = dA t := by
  have a := (hK.2 t _ hk).2
  have b := (hK'.2 2 (cA, ty) rfl).2
  rcases hn with rfl | rfl
  · exact (Option.some.inj ((show s.vm.findClass _ = some (dA t) from a).symm.trans (show s.vm.findClass _ = some cA from b))).symm
  · exact (Option.some.inj ((show s.vm.findClass _ = some (dA t) from a).symm.trans (show s.vm.findClass _ = some cA from b))).symm
theorem acW : Cond.arrayClass .int ∈ TBL ∧ Cond.arrayClass .boolean ∈ TBL := ⟨aci, acz⟩
theorem go_newa {at9 : ArrayType} (cx : CX p l R s m args meth c D dA A xt X M) (hd : decode (mb M) pc = .ok (.newarray at9, 2)) (he : newa at9 pc ls st h ks ss = some (.inl g)) (hcap : g.2.2.2.2.1 ≤ R.cells ∧ g.2.2.2.2.2 ≤ R.slots) (K : GO p l e R s m args below meth c Q D dA A xt a0 M g) : GO p l e R s m args below meth c Q D dA A xt a0 M (pc, ls, st, h, ks, ss) := by
  obtain ⟨⟨hx, hb, hml, hown, hts⟩, hK, hA, hR, hE, -⟩ := cx
  intro H locs cls cst ws hH hP hD hS hst hls
  unfold newa at he
  split at he
  · rename_i n r
    obtain ⟨c1, rfl, h1⟩ := FRi hst
    split at he
    · cases he
    · rename_i hn
      have hn1 : ¬ n < 0 := fun z => hn (Or.inl z)
      have hn2 : n.toNatClampNeg ≤ 1000000 := by
        have := fun z => hn (Or.inr (Or.inl z))
        omega
      have hlen : h.length < 99999 := by
        have := fun z => hn (Or.inr (Or.inr z))
        omega
      have fin : ∀ (t : Nat) (x : vp_A) (q : Nat) (cA : ClassId) (H1 : Heap), cA = dA t → va_P D vwCl (ws ++ [(q, .inl (cA, x))]) H1 → va_D A (ws ++ [(q, .inl (cA, x))]) → va_S A s.heap H1 locs → GO p l e R s m args below meth c Q D dA A xt a0 M (pc + 2, ls, .ref h.length :: r, h ++ [.inl (t, x)], ks + 1, ss + n.toNatClampNeg) → W p l e R s m args below meth c H1 locs (ks + 1) (ss + n.toNatClampNeg) Q (F0 m (pc + 2) cls (.ref q :: c1)) := by
        intro t x q cA H1 hcA hP1 hD1 hS1 K'
        subst hcA
        have hm : (ws ++ [(q, (.inl (dA t, x) : va_E))]).map (·.1) = ws.map (·.1) ++ [q] := by simp
        refine K' H1 locs cls (.ref q :: _) _ (HR_push hH rfl) hP1 hD1 hS1 ?_ ?_
        · rw [hm]
          refine ⟨_, _, rfl, ⟨q, rfl, ?_⟩, FR_mono (fun _ _ => VR_mono) h1⟩
          rw [if_pos hlen, List.getElem?_append_right (by simp [hH.1])]
          simp [hH.1]
        · rw [hm]
          exact LR_mono (fun _ _ => VR_mono) hls
      split at he
      · unfold nx at he
        cases he
        refine va_newa (atype := .int) hx hb (hts _ acW.1) rfl hK hP hD hS hA (a0 := (n.toNatClampNeg, .inl fun _ => 0)) (fun _ => rfl) hn1 rfl ?_ hcap.1 hcap.2 hd fun q cA H1 hK' hP1 hD1 hS1 => fin 0 _ q cA H1 (newa_dA (ws := ws) (t := 0) hK rfl (Or.inl rfl) hK') hP1 hD1 hS1 K
        show n.toNatClampNeg * 4 ≤ _
        omega
      · unfold nx at he
        cases he
        refine va_newa (atype := .boolean) hx hb (hts _ acW.2) rfl hK hP hD hS hA (a0 := (n.toNatClampNeg, .inl fun _ => 0)) (fun _ => rfl) hn1 rfl ?_ hcap.1 hcap.2 hd fun q cA H1 hK' hP1 hD1 hS1 => fin 1 _ q cA H1 (newa_dA (ws := ws) (t := 1) hK rfl (Or.inr rfl) hK') hP1 hD1 hS1 K
        show n.toNatClampNeg * 1 ≤ _
        omega
      · cases he
  · cases he
theorem go_obj {ix : Nat} (cx : CX p l R s m args meth c D dA A xt X M) (hd : decode (mb M) pc = .ok (.invokespecial ix, 3)) (he : invI M ix pc ls st h ks ss = some (.inl g)) (K : GO p l e R s m args below meth c Q D dA A xt a0 M g) : GO p l e R s m args below meth c Q D dA A xt a0 M (pc, ls, st, h, ks, ss) := by
  obtain ⟨⟨hx, hb, hml, hown, hts⟩, hK, hA, hR, hE, -⟩ := cx
  intro H locs cls cst ws hH hP hD hS hst hls
  unfold invI at he
  split at he
  · rename_i hob
    have hw := objT_ok _ (asc_mem _ _ _ _ hob)
    dsimp only at hw
    split at he
    · split at he
      · rename_i hr
        unfold nx at he
        cases he
        obtain ⟨q, c2, rfl, hv, h2⟩ := FRr hst
        obtain ⟨h0, lv, h1, h3⟩ := id hls
        refine W.objInit hx hb hown (hts _ hw) (hts _ objI) (hts _ objC) rfl (by rw [hml]; exact h1.1) rfl hd (Nat.le_trans hr.1 hR.1) ?_ (W.eq (g2 := F0 m (pc + 3) cls c2) rfl (K H locs cls c2 ws hH hP hD hS h2 hls))
        show 2 * 0 + _ + 12 ≤ _
        rw [FR_cat h2]
        have := hr.2
        have := hR.2
        omega
      · cases he
    · cases he
  · split at he
    · split at he
      · split at he <;> cases he
      · cases he
    · cases he
end SNE
