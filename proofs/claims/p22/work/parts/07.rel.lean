/-! WHAT A PICTURE SAYS OF THE HEAP -/
def VR (xt : Nat → Option Nat) (a : List Nat) (v w : Value) : Prop := match v with
  | .int x => w = .int x
  | .long x => w = .long x
  | .null => w = .null
  | .ref p => ∃ q, w = .ref q ∧ (if p < 99999 then a[p]? = some q else (p = 99999 ∨ xt p = some q))
  | _ => False
def FR (V : Value → Value → Prop) : List Value → List Value → Prop
  | [], w => w = []
  | v :: vs, w => ∃ c cs, w = c :: cs ∧ V v c ∧ FR V vs cs
def ER (V : Value → Value → Prop) (dA : Nat → ClassId) (e : rE) (w : va_E) : Prop := match e with
  | .inl (t, x) => w = .inl (dA t, x)
  | .inr (ci, fs) => ∃ gs, w = .inr (ci, gs) ∧ FR V fs gs
/-- a0: the places that were there at the start -/
def HR (xt : Nat → Option Nat) (dA : Nat → ClassId) (a0 : List Nat) (h : rH) (ws : va_W) : Prop := ws.length = h.length ∧ (∀ (k : Nat) (e : rE), h[k]? = some e → ∃ (q : Nat) (ce : va_E), ws[k]? = some (q, ce) ∧ ER (VR xt (ws.map (·.1))) dA e ce) ∧ ∃ b, ws.map (·.1) = a0 ++ b
def LR (V : Value → Value → Prop) (ls : rL) (cls : Array Slot) (n : Nat) : Prop := ls.length = n ∧ ∃ lv, lv_has cls n lv ∧ ∀ (i : Nat) (v : Value), ls[i]? = some (some v) → ∃ w, V v w ∧ w.category = 1 ∧ (i, w) ∈ lv
theorem VR_mono {xt : Nat → Option Nat} {a b : List Nat} {v w : Value} (h : VR xt a v w) : VR xt (a ++ b) v w := by
  cases v with
  | ref p =>
    obtain ⟨q, e, h2⟩ := h
    refine ⟨q, e, ?_⟩
    split at h2
    · rename_i hp
      rw [if_pos hp]
      rw [List.getElem?_append_left (List.getElem?_eq_some_iff.mp h2).1]
      exact h2
    · rename_i hp
      rw [if_neg hp]
      exact h2
  | _ => exact h
theorem FR_mono {V V' : Value → Value → Prop} (hV : ∀ v w, V v w → V' v w) : ∀ {vs ws : List Value}, FR V vs ws → FR V' vs ws
  | [], _, h => h
  | _ :: _, _, ⟨c, cs, e, h1, h2⟩ => ⟨c, cs, e, hV _ _ h1, FR_mono hV h2⟩
theorem ER_mono {V V' : Value → Value → Prop} (hV : ∀ v w, V v w → V' v w) {dA : Nat → ClassId} {e : rE} {w : va_E} (h : ER V dA e w) : ER V' dA e w := by
  cases e with
  | inl x => exact h
  | inr x =>
    obtain ⟨gs, e, h⟩ := h
    exact ⟨gs, e, FR_mono hV h⟩
theorem LR_mono {V V' : Value → Value → Prop} (hV : ∀ v w, V v w → V' v w) {ls : rL} {cls : Array Slot} {n : Nat} (h : LR V ls cls n) : LR V' ls cls n := by
  obtain ⟨h0, lv, h1, h2⟩ := h
  refine ⟨h0, lv, h1, fun i v hv => ?_⟩
  obtain ⟨w, a, b⟩ := h2 i v hv
  exact ⟨w, hV _ _ a, b⟩
theorem FR_len {V : Value → Value → Prop} : ∀ {vs ws : List Value}, FR V vs ws → ws.length = vs.length
  | [], _, h => by cases h; rfl
  | _ :: _, _, ⟨c, cs, e, _, h2⟩ => by rw [e]; simp [FR_len h2]
theorem FR_get {V : Value → Value → Prop} : ∀ {vs ws : List Value}, FR V vs ws → ∀ (k : Nat) (v : Value), vs[k]? = some v → ∃ w, ws[k]? = some w ∧ V v w
  | [], _, _, k, v, hk => by simp at hk
  | _ :: _, _, ⟨c, cs, e, h1, h2⟩, 0, v, hk => by
    rw [e]
    simp at hk
    exact ⟨c, by simp, by rw [← hk]; exact h1⟩
  | _ :: _, _, ⟨c, cs, e, h1, h2⟩, k + 1, v, hk => by
    rw [e]
    simp at hk
    obtain ⟨w, a, b⟩ := FR_get h2 k v hk
    exact ⟨w, by simpa using a, b⟩
theorem FR_set {V : Value → Value → Prop} {v w : Value} (hv : V v w) : ∀ {vs ws : List Value}, FR V vs ws → ∀ (k : Nat), FR V (vs.set k v) (ws.set k w)
  | [], _, h, k => by rw [show _ = ([] : List Value) from h]; simp [FR]
  | _ :: _, _, ⟨c, cs, e, h1, h2⟩, 0 => by
    rw [e]
    exact ⟨w, cs, rfl, hv, h2⟩
  | _ :: _, _, ⟨c, cs, e, h1, h2⟩, k + 1 => by
    rw [e]
    exact ⟨c, cs.set k w, rfl, h1, FR_set hv h2 k⟩
theorem FR_take {V : Value → Value → Prop} : ∀ {vs ws : List Value}, FR V vs ws → ∀ (k : Nat), FR V (vs.take k) (ws.take k)
  | [], _, h, k => by rw [show _ = ([] : List Value) from h]; simp [FR]
  | _ :: _, _, _, 0 => by simp [FR]
  | _ :: _, _, ⟨c, cs, e, h1, h2⟩, k + 1 => by
    rw [e]
    exact ⟨c, cs.take k, rfl, h1, FR_take h2 k⟩
theorem FR_drop {V : Value → Value → Prop} : ∀ {vs ws : List Value}, FR V vs ws → ∀ (k : Nat), FR V (vs.drop k) (ws.drop k)
  | [], _, h, k => by rw [show _ = ([] : List Value) from h]; simp [FR]
  | _ :: _, _, h, 0 => by simpa using h
  | _ :: _, _, ⟨c, cs, e, h1, h2⟩, k + 1 => by
    rw [e]
    simpa using FR_drop h2 k
theorem FR_app {V : Value → Value → Prop} : ∀ {vs ws vs' ws' : List Value}, FR V vs ws → FR V vs' ws' → FR V (vs ++ vs') (ws ++ ws')
  | [], _, _, _, h, h' => by rw [show _ = ([] : List Value) from h]; exact h'
  | _ :: _, _, _, _, ⟨c, cs, e, h1, h2⟩, h' => by
    rw [e]
    exact ⟨c, cs ++ _, rfl, h1, FR_app h2 h'⟩
theorem FR_rev {V : Value → Value → Prop} : ∀ {vs ws : List Value}, FR V vs ws → FR V vs.reverse ws.reverse
  | [], _, h => by rw [show _ = ([] : List Value) from h]; simp [FR]
  | _ :: _, _, ⟨c, cs, e, h1, h2⟩ => by
    rw [e, List.reverse_cons, List.reverse_cons]
    exact FR_app (FR_rev h2) ⟨c, [], rfl, h1, rfl⟩
theorem VR_cat {xt : Nat → Option Nat} {a : List Nat} {v w : Value} (h : VR xt a v w) : w.category = v.category := by
  cases v with
  | ref p => obtain ⟨q, e, _⟩ := h; rw [e]; rfl
  | int x => rw [show w = .int x from h]
  | long x => rw [show w = .long x from h]
  | null => rw [show w = .null from h]
  | _ => exact h.elim
theorem FR_cat {xt : Nat → Option Nat} {a : List Nat} : ∀ {vs ws : List Value}, FR (VR xt a) vs ws → (ws.map fun v => v.category).sum = vcat vs
  | [], _, h => by rw [show _ = ([] : List Value) from h]; rfl
  | _ :: _, _, ⟨c, cs, e, h1, h2⟩ => by
    rw [e]
    simp only [vcat, List.map_cons, List.sum_cons, VR_cat h1]
    rw [FR_cat h2]
    rfl
/-- a cell by its place -/
theorem HR_get {xt : Nat → Option Nat} {dA : Nat → ClassId} {a0 : List Nat} {h : rH} {ws : va_W} (H : HR xt dA a0 h ws) {p : Nat} {e : rE} {w : Value} (hl : lk h p = some e) (hv : VR xt (ws.map (·.1)) (.ref p) w) : ∃ (q : Nat) (ce : va_E), w = .ref q ∧ ws[p]? = some (q, ce) ∧ ER (VR xt (ws.map (·.1))) dA e ce ∧ p < 99999 := by
  unfold lk at hl
  split at hl
  · rename_i hp
    obtain ⟨q, ce, h1, h2⟩ := H.2.1 p e hl
    obtain ⟨q', e', h3⟩ := hv
    rw [if_pos hp] at h3
    simp [h1] at h3
    exact ⟨q, ce, by rw [e', h3], h1, h2, hp⟩
  · cases hl
theorem adr_set {ws : va_W} {p q : Nat} {ce ce' : va_E} (h1 : ws[p]? = some (q, ce)) : (ws.set p (q, ce')).map (·.1) = ws.map (·.1) := by
  apply List.ext_getElem?
  intro i
  rw [List.getElem?_map, List.getElem?_map]
  by_cases hi : p = i
  · subst hi
    rw [List.getElem?_set_self (List.getElem?_eq_some_iff.mp h1).1, h1]
    rfl
  · rw [List.getElem?_set_ne hi]
theorem HR_set {xt : Nat → Option Nat} {dA : Nat → ClassId} {a0 : List Nat} {h : rH} {ws : va_W} (H : HR xt dA a0 h ws) {p q : Nat} {ce ce' : va_E} {e' : rE} (h1 : ws[p]? = some (q, ce)) (h2 : ER (VR xt (ws.map (·.1))) dA e' ce') : HR xt dA a0 (h.set p e') (ws.set p (q, ce')) := by
  refine ⟨by simp [H.1], fun k e hk => ?_, by rw [adr_set h1]; exact H.2.2⟩
  rw [adr_set h1]
  by_cases hi : p = k
  · subst hi
    have hlt : p < ws.length := (List.getElem?_eq_some_iff.mp h1).1
    rw [List.getElem?_set_self (by rw [← H.1]; exact hlt)] at hk
    cases hk
    exact ⟨q, ce', by rw [List.getElem?_set_self hlt], h2⟩
  · rw [List.getElem?_set_ne hi] at hk
    rw [List.getElem?_set_ne hi]
    exact H.2.1 k e hk
theorem HR_push {xt : Nat → Option Nat} {dA : Nat → ClassId} {a0 : List Nat} {h : rH} {ws : va_W} (H : HR xt dA a0 h ws) {q : Nat} {ce : va_E} {e : rE} (h2 : ER (VR xt (ws.map (·.1) ++ [q])) dA e ce) : HR xt dA a0 (h ++ [e]) (ws ++ [(q, ce)]) := by
  have hm : (ws ++ [(q, ce)]).map (·.1) = ws.map (·.1) ++ [q] := by simp
  refine ⟨by simp [H.1], fun k e9 hk => ?_, by
    obtain ⟨b, hb⟩ := H.2.2
    exact ⟨b ++ [q], by rw [hm, hb, List.append_assoc]⟩⟩
  rw [hm]
  by_cases hi : k < h.length
  · rw [List.getElem?_append_left hi] at hk
    obtain ⟨q', ce', a, b⟩ := H.2.1 k e9 hk
    exact ⟨q', ce', by rw [List.getElem?_append_left (by rw [H.1]; exact hi)]; exact a, ER_mono (fun _ _ => VR_mono) b⟩
  · have hk2 : k = h.length := by
      have := (List.getElem?_eq_some_iff.mp hk).1
      simp at this
      omega
    subst hk2
    rw [List.getElem?_append_right (Nat.le_refl _)] at hk
    simp at hk
    subst hk
    exact ⟨q, ce, by rw [List.getElem?_append_right (by rw [H.1]; exact Nat.le_refl _)]; simp [H.1], h2⟩
theorem LR_get {V : Value → Value → Prop} {ls : rL} {cls : Array Slot} {n : Nat} (h : LR V ls cls n) {i : Nat} {v : Value} (hi : ls[i]? = some (some v)) : ∃ w, V v w ∧ cls[i]? = some (.val w) := by
  obtain ⟨h0, lv, h1, h2⟩ := h
  obtain ⟨w, a, b, c⟩ := h2 i v hi
  exact ⟨w, a, h1.2.2 (i, w) c⟩
theorem LR_set {V : Value → Value → Prop} {ls : rL} {cls' : Array Slot} {n : Nat} {lv : List (Nat × Value)} (h0 : ls.length = n) (h2 : ∀ (i : Nat) (v : Value), ls[i]? = some (some v) → ∃ w, V v w ∧ w.category = 1 ∧ (i, w) ∈ lv) {i : Nat} {v w : Value} (hv : V v w) (hc : w.category = 1)
    (h' : lv_has cls' n ((i, w) :: lv.filter (fun q => !(q.1 == i) && !(q.1 + 1 == i && q.2.category == 2)))) : LR V (ls.set i (some v)) cls' n := by
  refine ⟨by simp [h0], _, h', fun j v2 hj => ?_⟩
  by_cases hi : i = j
  · subst hi
    have hlt : i < ls.length := by
      have := (List.getElem?_eq_some_iff.mp hj).1
      simpa using this
    rw [List.getElem?_set_self hlt] at hj
    cases hj
    exact ⟨w, hv, hc, List.mem_cons_self⟩
  · rw [List.getElem?_set_ne hi] at hj
    obtain ⟨w2, a, b, c⟩ := h2 j v2 hj
    refine ⟨w2, a, b, List.mem_cons_of_mem _ (List.mem_filter.mpr ⟨c, ?_⟩)⟩
    have : ¬ j = i := fun e => hi e.symm
    simp [this, b]
def okv : Value → Bool
  | .int _ => true
  | .null => true
  | _ => false
theorem VR_ok {xt : Nat → Option Nat} {a : List Nat} {v : Value} (h : okv v = true) : VR xt a v v := by
  cases v <;> first | rfl | (simp [okv] at h)
theorem FR_ok {xt : Nat → Option Nat} {a : List Nat} : ∀ {vs : List Value}, vs.all okv = true → FR (VR xt a) vs vs
  | [], _ => rfl
  | v :: vs, h => by
    simp only [List.all_cons, Bool.and_eq_true] at h
    exact ⟨v, vs, rfl, VR_ok h.1, FR_ok h.2⟩
/-- the entry's locals -/
theorem LR_entry {V : Value → Value → Prop} (hV : ∀ v w, V v w → w.category = v.category) : ∀ {as cas : List Value}, FR V as cas → as.all (fun v => v.category == 1) = true → ∀ (k i : Nat) (v : Value), (as.map some)[i]? = some (some v) → ∃ w, V v w ∧ w.category = 1 ∧ (k + i, w) ∈ lv_args k cas
  | [], _, _, _, k, i, v, hi => by simp at hi
  | a :: as, _, ⟨c, cs, e, h1, h2⟩, hc, k, i, v, hi => by
    simp only [List.all_cons, Bool.and_eq_true, beq_iff_eq] at hc
    have hcc : c.category = 1 := by rw [hV _ _ h1, hc.1]
    rw [e]
    simp only [lv_args, hcc]
    cases i with
    | zero =>
      simp at hi
      subst hi
      exact ⟨c, h1, hcc, by simp⟩
    | succ i =>
      simp only [List.map_cons, List.getElem?_cons_succ] at hi
      obtain ⟨w, x, y, z⟩ := LR_entry hV h2 hc.2 (k + 1) i v hi
      refine ⟨w, x, y, ?_⟩
      rw [show k + (i + 1) = k + 1 + i by omega]
      refine List.mem_cons_of_mem _ ?_
      simpa using z
/-- what the start gives of the heap's old cells -/
def EXT (X : rX) (xt : Nat → Option Nat) (A : Nat → Prop) (U : State) (H : Heap) : Prop :=
  (∀ (e q : Nat), xt e = some q → ∃ (n : Nat) (f : Nat → Int32), xar X e = some (n, f) ∧ va_T .int q n (fun j => .int (f j)) A U H) ∧
  (∃ q, xt 100001 = some q ∧ va_Z staC staN staD (.ref q) A U H) ∧
  vx_Zq Bundle.tN "UNASSIGNED_STACK" Bundle.steD A U H ∧ vx_Zq Bundle.tN "SUPPRESSED_SENTINEL" Bundle.listD A U H ∧
  (∀ z ∈ excT, ∃ sa, vk_R (rn z.1) z.2.2.1 z.2.2.2.2.2 sa U) ∧ (∀ i j : Nat, i < 3 → j < 3 → i ≠ j → j = 0 → va_Nc (en i) (en j) U)
theorem EXT.to {X : rX} {xt : Nat → Option Nat} {A B : Nat → Prop} {u U : State} {H0 H : Heap} (hvm : u.WarmedH U.vm) (hq : ∀ a : Nat, a < H0.size → ¬ A a → H[a]? = H0[a]?) (hAB : ∀ q, B q → A q) (h : EXT X xt A u H0) : EXT X xt B U H := by
  obtain ⟨h1, ⟨q, h2, h3⟩, h4, h5, h6, h7⟩ := h
  refine ⟨fun e q he => ?_, ⟨q, h2, ((h3.moved hvm.alike).kept hq).narrow hAB⟩, ((h4.moved hvm.alike).kept hq).narrow hAB, ((h5.moved hvm.alike).kept hq).narrow hAB, fun z hz => ?_, fun i j a b c d => (h7 i j a b c d).moved hvm.alike⟩
  · obtain ⟨n, f, a, b⟩ := h1 e q he
    exact ⟨n, f, a, ((b.moved hvm.alike).kept hq).narrow hAB⟩
  · obtain ⟨sa, a⟩ := h6 z hz
    exact ⟨sa, a.warm hvm⟩
theorem EXT.same {X : rX} {xt : Nat → Option Nat} {A : Nat → Prop} {u U : State} {H : Heap} (hv : U.vm = u.vm) (h : EXT X xt A u H) : EXT X xt A U H := by
  obtain ⟨h1, ⟨q, h2, h3⟩, h4, h5, h6, h7⟩ := h
  have ha : u.vm.Alike U.vm := by rw [hv]; exact Vm.Alike.refl _
  refine ⟨fun e q he => ?_, ⟨q, h2, h3.moved ha⟩, h4.moved ha, h5.moved ha, fun z hz => ?_, fun i j a b c d => (h7 i j a b c d).moved ha⟩
  · obtain ⟨n, f, a, b⟩ := h1 e q he
    exact ⟨n, f, a, b.moved ha⟩
  · obtain ⟨sa, a⟩ := h6 z hz
    exact ⟨sa, vk_R.same hv a⟩
def tysA (dA : Nat → ClassId) : List (ClassId × FieldType) := [(dA 0, .int), (dA 1, .boolean)]
theorem vw_len : vwCl.length = 9 := rfl
theorem tyC_ok {ci : Nat} {q : vw_C} (h : vwCl[ci]? = some q) : ∀ k, k < q.2.2 → parseFieldDescriptor (q.2.1 k).2.2.1 = some (tyC ci k) := by
  match ci, h with
  | 0, h => cases h; exact tyX0_ok
  | 1, h => cases h; exact tyX1_ok
  | 2, h => cases h; exact tyX2_ok
  | 3, h => cases h; exact tyX3_ok
  | 4, h => cases h; exact tyX4_ok
  | 5, h => cases h; exact tyX5_ok
  | 6, h => cases h; exact tyX6_ok
  | 7, h => cases h; exact tyX7_ok
  | 8, h => cases h; exact tyX8_ok
  | n + 9, h => simp at h
theorem nmC_ok {ci : Nat} {q : vw_C} (h : vwCl[ci]? = some q) : ∀ a, a < q.2.2 → ∀ b, b < q.2.2 → a ≠ b → (q.2.1 a).2.1 ≠ (q.2.1 b).2.1 := by
  match ci, h with
  | 0, h => cases h; exact nmX0
  | 1, h => cases h; exact nmX1
  | 2, h => cases h; exact nmX2
  | 3, h => cases h; exact nmX3
  | 4, h => cases h; exact nmX4
  | 5, h => cases h; exact nmX5
  | 6, h => cases h; exact nmX6
  | 7, h => cases h; exact nmX7
  | 8, h => cases h; exact nmX8
  | n + 9, h => simp at h
theorem inC_ok {ci : Nat} {q : vw_C} (h : vwCl[ci]? = some q) : ∀ w ∈ u_ws q.1 q.2.1 q.2.2, w ∈ TBL := by
  match ci, h with
  | 0, h => cases h; exact inC0
  | 1, h => cases h; exact inC1
  | 2, h => cases h; exact inC2
  | 3, h => cases h; exact inC3
  | 4, h => cases h; exact inC4
  | 5, h => cases h; exact inC5
  | 6, h => cases h; exact inC6
  | 7, h => cases h; exact inC7
  | 8, h => cases h; exact inC8
  | n + 9, h => simp at h
theorem rn_cl {ci : Nat} (hc : ci < 9) : vwCl[ci]? = some (clC ci) ∧ (clC ci).1 = rn ci := by
  match ci, hc with
  | 0, _ => exact ⟨rfl, rfl⟩
  | 1, _ => exact ⟨rfl, rfl⟩
  | 2, _ => exact ⟨rfl, rfl⟩
  | 3, _ => exact ⟨rfl, rfl⟩
  | 4, _ => exact ⟨rfl, rfl⟩
  | 5, _ => exact ⟨rfl, rfl⟩
  | 6, _ => exact ⟨rfl, rfl⟩
  | 7, _ => exact ⟨rfl, rfl⟩
  | 8, _ => exact ⟨rfl, rfl⟩
theorem dfl_ok {ci : Nat} (hc : ci < 9) : (dfl ci).all okv = true := by
  have h : ∀ c, c < 9 → (dfl c).all okv = true := by decide +kernel
  exact h ci hc
theorem narrow_ref (ty : FieldType) (p q : Nat) (h : narrow ty (.ref p) = .ref p) : narrow ty (.ref q) = .ref q := by
  cases ty <;> rfl
theorem fits_ref (ty : FieldType) (p q : Nat) (h : fits ty (.ref p) = true) : fits ty (.ref q) = true := by
  cases ty <;> first | exact h | rfl
theorem xar_ge {X : rX} {p : Nat} {r : rX} (h : xar X p = some r) : ¬ p < 99999 ∧ p ≠ 99999 := by
  unfold xar at h
  split at h
  · omega
  · split at h
    · omega
    · cases h
