/-! THE MACHINE DOESN'T SEE PLACES: a renaming of them changes nothing but the names -/
/-- a renaming of the places under L, its own inverse -/
def PI (π : Nat → Nat) (L : Nat) : Prop := L ≤ 99999 ∧ (∀ p, p < L → π p < L) ∧ (∀ p, L ≤ p → π p = p) ∧ ∀ p, π (π p) = p
def rv (π : Nat → Nat) (v : Value) : Value := match v with
  | .ref p => .ref (π p)
  | v => v
def re (π : Nat → Nat) (e : rE) : rE := match e with
  | .inl x => .inl x
  | .inr (ci, fs) => .inr (ci, fs.map (rv π))
def rh (π : Nat → Nat) (h : rH) : rH := (List.range h.length).map fun p => re π (h.getD (π p) (.inr (0, [])))
def rl (π : Nat → Nat) (ls : rL) : rL := ls.map (Option.map (rv π))
def rO1 (π : Nat → Nat) (o : rO) : rO := match o with
  | .inl v => .inl (v.map (rv π))
  | .inr E => .inr E
def rr (π : Nat → Nat) (r : rR) : rR := (rO1 π r.1, rh π r.2.1, r.2.2.1, r.2.2.2)
def rf (π : Nat → Nat) (f : rF) : rF := (f.1, rl π f.2.1, f.2.2.1.map (rv π), rh π f.2.2.2.1, f.2.2.2.2.1, f.2.2.2.2.2)
def ro (π : Nat → Nat) (o : rF ⊕ ((Nat × List Value × List Value) ⊕ rR)) : rF ⊕ ((Nat × List Value × List Value) ⊕ rR) := match o with
  | .inl f => .inl (rf π f)
  | .inr (.inl q) => .inr (.inl (q.1, q.2.1.map (rv π), q.2.2.map (rv π)))
  | .inr (.inr r) => .inr (.inr (rr π r))
def rq (π : Nat → Nat) (q : rF ⊕ rR) : rF ⊕ rR := match q with
  | .inl f => .inl (rf π f)
  | .inr r => .inr (rr π r)
section REN
variable {π : Nat → Nat} {L : Nat} {X : rX} {M pc ix : Nat} {ls : rL} {st : List Value} {h : rH} {k s : Nat} {out : rF ⊕ ((Nat × List Value × List Value) ⊕ rR)}
theorem pi_lt (hπ : PI π L) {n p : Nat} (hn : L ≤ n) : π p < n ↔ p < n := by
  by_cases h : p < L
  · have := hπ.2.1 p h
    omega
  · rw [hπ.2.2.1 p (by omega)]
theorem rh_len : (rh π h).length = h.length := by simp [rh]
theorem rh_get (hπ : PI π L) (hl : L ≤ h.length) (p : Nat) : (rh π h)[p]? = (h[π p]?).map (re π) := by
  unfold rh
  rw [List.getElem?_map]
  by_cases hp : p < h.length
  · have hq : π p < h.length := (pi_lt hπ hl).mpr hp
    rw [List.getElem?_range hp, List.getElem?_eq_getElem hq]
    simp [List.getElem?_eq_getElem hq]
  · rw [hπ.2.2.1 p (by omega), List.getElem?_eq_none (by simp; omega), List.getElem?_eq_none (by omega)]
    rfl
theorem lk_ren (hπ : PI π L) (hl : L ≤ h.length) {p : Nat} {e : rE} (he : lk h p = some e) : lk (rh π h) (π p) = some (re π e) := by
  unfold lk at he ⊢
  split at he
  · rename_i hp
    rw [if_pos ((pi_lt hπ hπ.1).mpr hp), rh_get hπ hl, hπ.2.2.2, he]
    rfl
  · cases he
theorem lk_renN (hπ : PI π L) (hl : L ≤ h.length) {p : Nat} (he : lk h p = none) : lk (rh π h) (π p) = none := by
  unfold lk at he ⊢
  split at he
  · rename_i hp
    rw [if_pos ((pi_lt hπ hπ.1).mpr hp), rh_get hπ hl, hπ.2.2.2, he]
    rfl
  · rename_i hp
    rw [if_neg (fun z => hp ((pi_lt hπ hπ.1).mp z))]
theorem xar_ren (hπ : PI π L) {p : Nat} : xar X (π p) = xar X p := by
  have hL := hπ.1
  by_cases hp : p < L
  · have := hπ.2.1 p hp
    unfold xar
    rw [if_neg (by omega), if_neg (by omega), if_neg (by omega), if_neg (by omega)]
  · rw [hπ.2.2.1 p (by omega)]
theorem rh_set (hπ : PI π L) (hl : L ≤ h.length) {p : Nat} {e : rE} : rh π (h.set p e) = (rh π h).set (π p) (re π e) := by
  apply List.ext_getElem?
  intro i
  rw [rh_get hπ (by simpa using hl), List.getElem?_set, List.getElem?_set, rh_get hπ hl, rh_len]
  by_cases e1 : p = π i
  · have e2 : π p = i := by rw [e1, hπ.2.2.2]
    rw [if_pos e1, if_pos e2]
    by_cases e3 : p < h.length
    · rw [if_pos e3, if_pos ((pi_lt hπ hl).mpr e3)]
      rfl
    · rw [if_neg e3, if_neg (fun z => e3 ((pi_lt hπ hl).mp z))]
      rfl
  · rw [if_neg e1, if_neg (fun z => e1 (by rw [← z, hπ.2.2.2]))]
theorem rh_app (hπ : PI π L) (hl : L ≤ h.length) {e : rE} : rh π (h ++ [e]) = rh π h ++ [re π e] := by
  apply List.ext_getElem?
  intro i
  rw [rh_get hπ (by simp; omega)]
  by_cases hi : i < h.length
  · rw [List.getElem?_append_left ((pi_lt hπ hl).mpr hi), List.getElem?_append_left (by rw [rh_len]; exact hi), rh_get hπ hl]
  · rw [hπ.2.2.1 i (by omega), List.getElem?_append_right (by omega), List.getElem?_append_right (by rw [rh_len]; omega), rh_len]
    by_cases e1 : i - h.length = 0
    · rw [e1]; rfl
    · rw [List.getElem?_eq_none (by simp; omega), List.getElem?_eq_none (by simp; omega)]
      rfl
theorem rh_rh (hπ : PI π L) (hl : L ≤ h.length) : rh π (rh π h) = h := by
  apply List.ext_getElem?
  intro i
  rw [rh_get hπ (by rw [rh_len]; exact hl), rh_get hπ hl, hπ.2.2.2]
  cases h[i]? with
  | none => rfl
  | some e =>
    rcases e with x | ⟨ci, fs⟩
    · rfl
    · have : (fs.map (rv π)).map (rv π) = fs := by
        rw [List.map_map]
        refine (List.map_congr_left fun v _ => ?_).trans (List.map_id fs)
        cases v <;> first | rfl | exact congrArg Value.ref (hπ.2.2.2 _)
      show some (Sum.inr (ci, (fs.map (rv π)).map (rv π))) = _
      rw [this]
theorem rv_cat {v : Value} : (rv π v).category = v.category := by cases v <;> rfl
theorem vcat_ren : vcat (st.map (rv π)) = vcat st := by
  unfold vcat
  rw [List.map_map]
  congr 1
  exact List.map_congr_left fun v _ => rv_cat
theorem okA_ren {y : Nat} {as : List Value} : okA y (as.map (rv π)) = okA y as := by
  unfold okA
  rw [List.all_map, List.length_map]
  congr 2
  funext v
  simp [rv_cat]
theorem rooms_ren {y : Nat} : rooms M y (st.map (rv π)) = rooms M y st := by
  unfold rooms
  rw [vcat_ren]
theorem fits_rv {ty : FieldType} {v : Value} (hv : fits ty v = true) : fits ty (rv π v) = true := by
  cases v <;> first | exact hv | exact fits_ref ty _ _ hv
theorem narrow_rv {ty : FieldType} {v : Value} (hv : narrow ty v = v) : narrow ty (rv π v) = rv π v := by
  cases v <;> first | exact hv | exact narrow_ref ty _ _ hv
theorem dfl_ren {ci : Nat} : (dfl ci).map (rv π) = dfl ci := by
  unfold dfl
  rw [List.map_map]
  refine List.map_congr_left fun j _ => ?_
  show rv π (defaultValue (tyC ci j)) = defaultValue (tyC ci j)
  cases tyC ci j <;> rfl
theorem rl_get {i : Nat} {v : Value} (hv : ls[i]? = some (some v)) : (rl π ls)[i]? = some (some (rv π v)) := by
  simp [rl, hv]
theorem rl_set {i : Nat} {v : Value} : rl π (ls.set i (some v)) = (rl π ls).set i (some (rv π v)) := by
  simp [rl, List.map_set]
theorem rl_len : (rl π ls).length = ls.length := by simp [rl]
theorem jmp_ren {t : Option Nat} {a b : Nat} {q : Bool} (he : jmp t a b q ls st h k s = some out) : jmp t a b q (rl π ls) (st.map (rv π)) (rh π h) k s = some (ro π out) := by
  cases t with
  | none => cases he
  | some t => cases he; rfl
theorem ldI_ren {i : Nat} (he : ldI ls i pc st h k s = some out) : ldI (rl π ls) i pc (st.map (rv π)) (rh π h) k s = some (ro π out) := by
  unfold ldI at he
  split at he
  · rename_i x hx
    cases he
    have := rl_get (π := π) hx
    unfold ldI
    rw [this]
    rfl
  · cases he
theorem ldA_ren {i : Nat} (he : ldA ls i pc st h k s = some out) : ldA (rl π ls) i pc (st.map (rv π)) (rh π h) k s = some (ro π out) := by
  unfold ldA at he
  split at he
  · rename_i x hx
    cases he
    have := rl_get (π := π) hx
    unfold ldA
    rw [this]
    rfl
  · cases he
theorem stI_ren {i : Nat} (he : stI ls i pc st h k s = some out) : stI (rl π ls) i pc (st.map (rv π)) (rh π h) k s = some (ro π out) := by
  unfold stI at he
  split at he
  · rename_i x r
    split at he
    · rename_i hi
      cases he
      show (if i < (rl π ls).length then nx pc ((rl π ls).set i (some (.int x))) (r.map (rv π)) (rh π h) k s else none) = _
      rw [if_pos (by rw [rl_len]; exact hi)]
      show _ = some (Sum.inl (pc, rl π (ls.set i (some (.int x))), r.map (rv π), rh π h, k, s))
      rw [rl_set]
      rfl
    · cases he
  · cases he
theorem stA_ren {i : Nat} (he : stA ls i pc st h k s = some out) : stA (rl π ls) i pc (st.map (rv π)) (rh π h) k s = some (ro π out) := by
  unfold stA at he
  split at he
  · rename_i x r
    split at he
    · rename_i hi
      cases he
      show (if i < (rl π ls).length then nx pc ((rl π ls).set i (some (.ref (π x)))) (r.map (rv π)) (rh π h) k s else none) = _
      rw [if_pos (by rw [rl_len]; exact hi)]
      show _ = some (Sum.inl (pc, rl π (ls.set i (some (.ref x))), r.map (rv π), rh π h, k, s))
      rw [rl_set]
      rfl
    · cases he
  · cases he
theorem bin_ren {f : Int32 → Int32 → Int32} (he : bin f pc ls st h k s = some out) : bin f pc (rl π ls) (st.map (rv π)) (rh π h) k s = some (ro π out) := by
  unfold bin at he
  split at he
  · cases he; rfl
  · cases he
theorem icmp_ren {f : Int32 → Int32 → Bool} {t : Option Nat} (he : icmp f t pc ls st h k s = some out) : icmp f t pc (rl π ls) (st.map (rv π)) (rh π h) k s = some (ro π out) := by
  unfold icmp at he
  split at he
  · exact jmp_ren he
  · cases he
theorem icm0_ren {f : Int32 → Bool} {t : Option Nat} (he : icm0 f t pc ls st h k s = some out) : icm0 f t pc (rl π ls) (st.map (rv π)) (rh π h) k s = some (ro π out) := by
  unfold icm0 at he
  split at he
  · exact jmp_ren he
  · cases he
theorem aget_ren (hπ : PI π L) (hl : L ≤ h.length) {ty : Nat} (he : aget X ty pc ls st h k s = some out) : aget X ty pc (rl π ls) (st.map (rv π)) (rh π h) k s = some (ro π out) := by
  unfold aget at he
  split at he
  · rename_i i p r
    split at he
    · rename_i t n f hp
      have hp' := lk_ren hπ hl hp
      split at he
      · rename_i ht
        split at he
        · cases he
        · rename_i hn
          cases he
          simp only [aget, List.map_cons, rv, hp', re, if_pos ht, if_neg hn]
          rfl
      · cases he
    · cases he
    · rename_i hp
      have hp' := lk_renN hπ hl hp
      split at he
      · rename_i n f hx
        split at he
        · rename_i ht
          split at he
          · cases he
          · rename_i hn
            cases he
            simp only [aget, List.map_cons, rv, hp', xar_ren hπ, hx, if_pos ht, if_neg hn]
            rfl
        · cases he
      · cases he
  · cases he
theorem nx_set (hπ : PI π L) (hl : L ≤ h.length) {p : Nat} {e : rE} : some (ro π (Sum.inl (pc, ls, st, h.set p e, k, s))) = nx pc (rl π ls) (st.map (rv π)) ((rh π h).set (π p) (re π e)) k s := by
  rw [← rh_set hπ hl]
  rfl
theorem aput_ren (hπ : PI π L) (hl : L ≤ h.length) (he : aput pc ls st h k s = some out) : aput pc (rl π ls) (st.map (rv π)) (rh π h) k s = some (ro π out) := by
  unfold aput at he
  split at he
  · rename_i x i p r
    split at he
    · rename_i t n f hp
      have hp' := lk_ren hπ hl hp
      split at he
      · rename_i ht
        split at he
        · cases he
        · rename_i hn
          cases he
          rw [nx_set hπ hl]
          simp only [aput, List.map_cons, rv, hp', re, if_pos ht, if_neg hn]
      · cases he
    · cases he
  · cases he
theorem aputZ_ren (hπ : PI π L) (hl : L ≤ h.length) (he : aputZ pc ls st h k s = some out) : aputZ pc (rl π ls) (st.map (rv π)) (rh π h) k s = some (ro π out) := by
  unfold aputZ at he
  split at he
  · rename_i x i p r
    split at he
    · rename_i t n f hp
      have hp' := lk_ren hπ hl hp
      split at he
      · rename_i ht
        split at he
        · cases he
        · rename_i hn
          cases he
          rw [nx_set hπ hl]
          simp only [aputZ, List.map_cons, rv, hp', re, if_pos ht, if_neg hn]
      · cases he
    · cases he
  · cases he
theorem alen_ren (hπ : PI π L) (hl : L ≤ h.length) (he : alen X pc ls st h k s = some out) : alen X pc (rl π ls) (st.map (rv π)) (rh π h) k s = some (ro π out) := by
  unfold alen at he
  split at he
  · rename_i p r
    split at he
    · rename_i t x hp
      have hp' := lk_ren hπ hl hp
      split at he
      · rename_i ht
        cases he
        simp only [alen, List.map_cons, rv, hp', re, if_pos ht]
        rfl
      · cases he
    · cases he
    · rename_i hp
      have hp' := lk_renN hπ hl hp
      split at he
      · rename_i n f hx
        cases he
        simp only [alen, List.map_cons, rv, hp', xar_ren hπ, hx]
        rfl
      · cases he
  · cases he
theorem fget_ren (hπ : PI π L) (hl : L ≤ h.length) (he : fget M ix pc ls st h k s = some out) : fget M ix pc (rl π ls) (st.map (rv π)) (rh π h) k s = some (ro π out) := by
  unfold fget at he
  split at he
  · rename_i p r
    split at he
    · rename_i ci kf ne ha
      split at he
      · rename_i c2 fs hp
        have hp' := lk_ren hπ hl hp
        split at he
        · rename_i hc
          split at he
          · rename_i v hv
            cases he
            simp only [fget, List.map_cons, rv, ha, hp', re, if_pos hc, List.getElem?_map, hv, Option.map_some]
            rfl
          · cases he
        · cases he
      · cases he
    · cases he
  · cases he
theorem fput_ren (hπ : PI π L) (hl : L ≤ h.length) (he : fput M ix pc ls st h k s = some out) : fput M ix pc (rl π ls) (st.map (rv π)) (rh π h) k s = some (ro π out) := by
  unfold fput at he
  split at he
  · rename_i v p r
    split at he
    · rename_i ci kf ne ha
      split at he
      · rename_i c2 fs hp
        have hp' := lk_ren hπ hl hp
        split at he
        · rename_i hc
          cases he
          rw [nx_set hπ hl]
          show fput M ix pc (rl π ls) (rv π v :: .ref (π p) :: r.map (rv π)) (rh π h) k s = _
          obtain ⟨h1, h2, h3, h4, h5, h6⟩ := hc
          simp only [fput, ha, hp', re]
          rw [if_pos ⟨h1, by rw [List.length_map]; exact h2, fits_rv h3, narrow_rv h4, h5, h6⟩, List.map_set]
        · cases he
      · cases he
    · cases he
  · cases he
theorem sget_ren (hπ : PI π L) (hs : ∀ (j e : Nat), asc staT (ow M) j = some e → 99999 ≤ e) (he : sget M ix pc ls st h k s = some out) : sget M ix pc (rl π ls) (st.map (rv π)) (rh π h) k s = some (ro π out) := by
  unfold sget at he
  split at he
  · rename_i e ha
    cases he
    have hL := hπ.1
    have h1 := hs ix e ha
    have h2 : π e = e := hπ.2.2.1 e (by omega)
    simp only [sget, ha]
    show _ = some (Sum.inl (pc + 3, rl π ls, .ref (π e) :: st.map (rv π), rh π h, k, s))
    rw [h2]
    rfl
  · cases he
theorem newo_ren (hπ : PI π L) (hl : L ≤ h.length) (he : newo M ix pc ls st h k s = some out) : newo M ix pc (rl π ls) (st.map (rv π)) (rh π h) k s = some (ro π out) := by
  unfold newo at he
  split at he
  · rename_i ci ha
    split at he
    · rename_i hn
      cases he
      simp only [newo, ha, rh_len]
      rw [if_pos hn]
      show _ = some (Sum.inl (pc + 3, rl π ls, .ref (π h.length) :: st.map (rv π), rh π (h ++ [.inr (ci, dfl ci)]), k + 1, s + (clC ci).2.2))
      rw [hπ.2.2.1 _ hl, rh_app hπ hl]
      simp only [re, dfl_ren]
      rfl
    · cases he
  · rename_i ha
    split at he
    · rename_i e hx
      split at he
      · rename_i hc
        cases he
        simp only [newo, ha, hx, vcat_ren]
        rw [if_pos hc]
        rfl
      · cases he
    · cases he
theorem newa_ren (hπ : PI π L) (hl : L ≤ h.length) {t : ArrayType} (he : newa t pc ls st h k s = some out) : newa t pc (rl π ls) (st.map (rv π)) (rh π h) k s = some (ro π out) := by
  unfold newa at he
  split at he
  · rename_i n r
    split at he
    · cases he
    · rename_i hn
      simp only [newa, List.map_cons, rv, rh_len]
      rw [if_neg hn]
      cases t <;> first
        | (cases he; done)
        | (cases he
           show _ = some (ro π (Sum.inl (_, ls, .ref h.length :: r, h ++ [_], _, _)))
           simp only [ro, rf, List.map_cons, rv, rh_app hπ hl, hπ.2.2.1 _ hl, re]
           rfl)
  · cases he
theorem invS_ren (he : invS M ix st = some out) : invS M ix (st.map (rv π)) = some (ro π out) := by
  unfold invS at he
  split at he
  · rename_i y ne ha
    split at he
    · rename_i hc
      cases he
      obtain ⟨h1, h2, h3, h4, h5⟩ := hc
      simp only [invS, ha]
      rw [← List.map_take, ← List.map_drop, ← List.map_reverse, okA_ren, rooms_ren, List.length_map, if_pos ⟨h1, h2, h3, h4, h5⟩]
      rfl
    · cases he
  · cases he
theorem invV_ren (hπ : PI π L) (hl : L ≤ h.length) (he : invV M ix st h = some out) : invV M ix (st.map (rv π)) (rh π h) = some (ro π out) := by
  unfold invV at he
  split at he
  · rename_i y ne ha
    split at he
    · rename_i p r hd
      split at he
      · rename_i c2 fs hp
        have hp' := lk_ren hπ hl hp
        split at he
        · rename_i hc
          cases he
          obtain ⟨h1, h2, h3, h4, h5, h6, h7, h8⟩ := hc
          simp only [invV, ha]
          rw [← List.map_drop, hd]
          simp only [List.map_cons, rv, hp', re]
          rw [← List.map_take, ← List.map_reverse]
          have e1 : (Value.ref (π p) :: (st.take (mna y)).reverse.map (rv π)) = (Value.ref p :: (st.take (mna y)).reverse).map (rv π) := rfl
          rw [e1, okA_ren, rooms_ren, if_pos ⟨h1, h2, h3, h4, h5, h6, h7, h8⟩]
          rfl
        · cases he
      · cases he
    · cases he
  · cases he
theorem invI_ren (he : invI M ix pc ls st h k s = some out) : invI M ix pc (rl π ls) (st.map (rv π)) (rh π h) k s = some (ro π out) := by
  unfold invI at he
  split at he
  · rename_i ha
    split at he
    · rename_i p r
      split at he
      · rename_i hc
        cases he
        simp only [invI, ha, List.map_cons, rv, vcat_ren]
        rw [if_pos hc]
        rfl
      · cases he
    · cases he
  · rename_i ha
    split at he
    · rename_i y ne hm
      split at he
      · rename_i p r hd
        split at he
        · rename_i hc
          cases he
          obtain ⟨h1, h2, h3, h4, h5, h6⟩ := hc
          simp only [invI, ha, hm]
          rw [← List.map_drop, hd]
          simp only [List.map_cons, rv]
          rw [← List.map_take, ← List.map_reverse]
          have e1 : (Value.ref (π p) :: (st.take (mna y)).reverse.map (rv π)) = (Value.ref p :: (st.take (mna y)).reverse).map (rv π) := rfl
          rw [e1, okA_ren, rooms_ren, if_pos ⟨h1, h2, h3, h4, h5, h6⟩]
          rfl
        · cases he
      · cases he
    · cases he
theorem retI_ren (he : retI M st h k s = some out) : retI M (st.map (rv π)) (rh π h) k s = some (ro π out) := by
  unfold retI at he
  split at he
  · rename_i v
    split at he
    · rename_i ty hr
      split at he
      · rename_i hn
        cases he
        simp only [retI, List.map_cons, List.map_nil, rv, hr]
        rw [if_pos hn]
        rfl
      · cases he
    · cases he
  · cases he
theorem retA_ren (he : retA M st h k s = some out) : retA M (st.map (rv π)) (rh π h) k s = some (ro π out) := by
  unfold retA at he
  split at he
  · rename_i p
    split at he
    · rename_i n hr
      cases he
      simp only [retA, List.map_cons, List.map_nil, rv, hr]
      rfl
    · cases he
  · cases he
theorem retV_ren (he : retV M st h k s = some out) : retV M (st.map (rv π)) (rh π h) k s = some (ro π out) := by
  unfold retV at he
  split at he
  · split at he
    · rename_i hr
      cases he
      simp only [retV, List.map_nil, hr]
      rfl
    · cases he
  · cases he
theorem tsw_ren {d lo hi : Int} {offs : Array Int} (he : tsw d lo hi offs pc ls st h k s = some out) : tsw d lo hi offs pc (rl π ls) (st.map (rv π)) (rh π h) k s = some (ro π out) := by
  unfold tsw at he
  split at he
  · rename_i x r
    simp only [tsw, List.map_cons, rv]
    split at he
    · rename_i hc
      rw [if_pos hc]
      split at he
      · rename_i t ht
        cases he
        rfl
      · cases he
    · rename_i hc
      rw [if_neg hc]
      split at he
      · rename_i off ho
        split at he
        · rename_i t ht
          cases he
          rfl
        · cases he
      · cases he
  · cases he
theorem stepW_ren {len : Nat} {i : Instr} (he : stepW pc len i ls st h k s = some out) : stepW pc len i (rl π ls) (st.map (rv π)) (rh π h) k s = some (ro π out) := by
  unfold stepW at he
  split at he
  · rename_i hl
    split at he
    · rename_i i n
      split at he
      · rename_i x hx
        cases he
        have := rl_get (π := π) hx
        simp only [stepW, if_pos hl, this, rv]
        show _ = some (Sum.inl (pc + 6, rl π (ls.set i (some (.int (x + Int32.ofInt n)))), st.map (rv π), rh π h, k, s))
        rw [rl_set]
        rfl
      · cases he
    · cases he
  · cases he
set_option maxHeartbeats 2000000 in
theorem stepI_ren (hπ : PI π L) (hl : L ≤ h.length) (hs : ∀ (j e : Nat), asc staT (ow M) j = some e → 99999 ≤ e) {i : Instr} (he : stepI X M pc i ls st h k s = some out) : stepI X M pc i (rl π ls) (st.map (rv π)) (rh π h) k s = some (ro π out) := by
  cases i
  case iconst n => cases he; rfl
  case bipush n => cases he; rfl
  case sipush n => cases he; rfl
  case ldc ix =>
    dsimp only [stepI] at he ⊢
    split at he
    · cases he; rfl
    · cases he
  case ldc_w ix =>
    dsimp only [stepI] at he ⊢
    split at he
    · cases he; rfl
    · cases he
  case iload_n i => exact ldI_ren he
  case iload i => exact ldI_ren he
  case aload_n i => exact ldA_ren he
  case aload i => exact ldA_ren he
  case istore_n i => exact stI_ren he
  case istore i => exact stI_ren he
  case astore_n i => exact stA_ren he
  case astore i => exact stA_ren he
  case iinc i n =>
    dsimp only [stepI] at he ⊢
    split at he
    · rename_i x hx
      cases he
      have := rl_get (π := π) hx
      rw [this]
      show _ = some (Sum.inl (pc + 3, rl π (ls.set i (some (.int (x + Int32.ofInt n)))), st.map (rv π), rh π h, k, s))
      rw [rl_set]
      rfl
    · cases he
  case iadd => exact bin_ren he
  case isub => exact bin_ren he
  case imul => exact bin_ren he
  case iand => exact bin_ren he
  case ixor => exact bin_ren he
  case idiv =>
    dsimp only [stepI] at he ⊢
    split at he
    · rename_i y x r
      split at he
      · cases he
      · rename_i hy
        cases he
        simp only [List.map_cons, rv]
        rw [if_neg hy]
        rfl
    · cases he
  case irem =>
    dsimp only [stepI] at he ⊢
    split at he
    · rename_i y x r
      split at he
      · cases he
      · rename_i hy
        cases he
        simp only [List.map_cons, rv]
        rw [if_neg hy]
        rfl
    · cases he
  case ior => exact bin_ren he
  case ishl => exact bin_ren he
  case ishr => exact bin_ren he
  case ineg =>
    dsimp only [stepI] at he ⊢
    split at he
    · cases he; rfl
    · cases he
  case i2l =>
    dsimp only [stepI] at he ⊢
    split at he
    · cases he; rfl
    · cases he
  case lcmp =>
    dsimp only [stepI] at he ⊢
    split at he
    · cases he; rfl
    · cases he
  case dup =>
    dsimp only [stepI] at he ⊢
    split at he
    · cases he; rfl
    · cases he; rfl
    · cases he
  case dup2 =>
    dsimp only [stepI] at he ⊢
    split at he
    · cases he; rfl
    · cases he
  case ifCond cc o => cases cc <;> first | exact icm0_ren he | cases he
  case if_icmp cc o => cases cc <;> first | exact icmp_ren he | cases he
  case goto o =>
    dsimp only [stepI] at he ⊢
    split at he
    · cases he; rfl
    · cases he
  case tableswitch d lo hi offs => exact tsw_ren he
  case iaload => exact aget_ren hπ hl he
  case baload => exact aget_ren hπ hl he
  case iastore => exact aput_ren hπ hl he
  case bastore => exact aputZ_ren hπ hl he
  case arraylength => exact alen_ren hπ hl he
  case getfield ix => exact fget_ren hπ hl he
  case putfield ix => exact fput_ren hπ hl he
  case getstatic ix => exact sget_ren hπ hs he
  case new ix => exact newo_ren hπ hl he
  case newarray t => exact newa_ren hπ hl he
  case invokestatic ix => exact invS_ren he
  case invokevirtual ix => exact invV_ren hπ hl he
  case invokespecial ix => exact invI_ren he
  case ireturn => exact retI_ren he
  case areturn => exact retA_ren he
  case return_ => exact retV_ren he
  all_goals cases he
theorem stepM_ren (hπ : PI π L) {f : rF} (hl : L ≤ f.2.2.2.1.length) (hs : ∀ (j e : Nat), asc staT (ow M) j = some e → 99999 ≤ e) (he : stepM X M f = some out) : stepM X M (rf π f) = some (ro π out) := by
  obtain ⟨pc, ls, st, h, k, s⟩ := f
  unfold stepM at he ⊢
  dsimp only [rf] at he hl ⊢
  split at he
  · rename_i i len hd
    split at he
    · rename_i hk
      show (if okl i len = true then stepI X M pc i (rl π ls) (st.map (rv π)) (rh π h) k s else stepW pc len i (rl π ls) (st.map (rv π)) (rh π h) k s) = _
      rw [if_pos hk]
      exact stepI_ren hπ hl hs he
    · rename_i hk
      show (if okl i len = true then stepI X M pc i (rl π ls) (st.map (rv π)) (rh π h) k s else stepW pc len i (rl π ls) (st.map (rv π)) (rh π h) k s) = _
      rw [if_neg hk]
      exact stepW_ren he
  · cases he
theorem staT_ge : ∀ (M j e : Nat), asc staT (ow M) j = some e → 99999 ≤ e := by
  intro M j e he
  have h1 := asc_mem _ _ _ _ he
  have h2 : ∀ q ∈ staT, 99999 ≤ q.2.2 := by decide +kernel
  exact h2 _ h1
set_option maxHeartbeats 4000000 in
theorem step_hl {g : rF} (he : stepM X M (pc, ls, st, h, k, s) = some (.inl g)) : h.length ≤ g.2.2.2.1.length := by
  unfold stepM at he
  dsimp only at he
  split at he
  · rename_i i len hd
    split at he
    · rename_i hk
      cases i
      case ifCond cc o =>
        cases cc <;> (dsimp only [stepI, icm0, jmp, nx] at he; repeat' (first | (cases he; exact Nat.le_refl _) | (cases he; done) | split at he))
      case if_icmp cc o =>
        cases cc <;> (dsimp only [stepI, icmp, jmp, nx] at he; repeat' (first | (cases he; exact Nat.le_refl _) | (cases he; done) | split at he))
      all_goals dsimp only [stepI, bin, icmp, icm0, jmp, ldI, ldA, stI, stA, aget, aput, aputZ, alen, fget, fput, sget, newo, newa, tsw, invS, invV, invI, retI, retA, retV, done, nx] at he
      all_goals repeat' (first | (cases he; exact Nat.le_refl _) | (cases he; simp; done) | (cases he; done) | split at he)
    · unfold stepW nx at he
      repeat' (first | (cases he; exact Nat.le_refl _) | (cases he; done) | split at he)
  · cases he
theorem ent_ren {y : Nat} {as : List Value} : rf π (ent y as h) = ent y (as.map (rv π)) (rh π h) := by
  unfold ent rf
  simp only [rl, List.map_append, List.map_map, List.map_replicate, List.length_map, List.map_nil]
  rfl
theorem thr_ren (hπ : PI π L) {E : Nat} {q : rF ⊕ rR} (he : thr M E pc ls h k s = some q) : thr M E pc (rl π ls) (rh π h) k s = some (rq π q) := by
  have hL := hπ.1
  rcases thr_spec he with ⟨t, ht, rfl⟩ | ⟨hm, rfl⟩
  · unfold thr
    rw [ht]
    show _ = some (Sum.inl (t, rl π ls, [Value.ref (π 99999)], rh π h, k, s))
    rw [hπ.2.2.1 _ hL]
  · have hn : hnd (ow M) E pc (mh M) = none := by rw [hm]; rfl
    unfold thr
    rw [hn]
    show (if mh M = [] then _ else _) = _
    rw [if_pos hm]
    rfl
theorem run_ren (hπ : PI π L) : ∀ (n M : Nat) (f : rF) (r : rR), L ≤ f.2.2.2.1.length → run X n M f = some r → run X n M (rf π f) = some (rr π r) ∧ L ≤ r.2.1.length := by
  intro n
  induction n with
  | zero => intro M f r _ h; cases h
  | succ n ih =>
    intro M f r hl h0
    obtain ⟨pc, ls, st, h, k, s⟩ := f
    rw [run] at h0 ⊢
    cases hs : stepM X M (pc, ls, st, h, k, s) with
    | none => rw [hs] at h0; cases h0
    | some q =>
      rw [hs] at h0
      rw [stepM_ren hπ hl (staT_ge M) hs]
      rcases q with g | ⟨y, as, rest⟩ | r'
      · exact ih M g r (Nat.le_trans hl (step_hl hs)) h0
      · dsimp only at h0
        simp only [ro]
        have e1 : (rf π (pc, ls, st, h, k, s)).2.2.2.1 = rh π h := rfl
        rw [e1, ← ent_ren]
        cases hc : run X n y (ent y as h) with
        | none => rw [hc] at h0; cases h0
        | some q =>
          rw [hc] at h0
          obtain ⟨c1, c2⟩ := ih y (ent y as h) q hl hc
          rw [c1]
          obtain ⟨o, h1, k1, s1⟩ := q
          cases o with
          | inl v =>
            dsimp only [rr, rO1] at h0 c2 ⊢
            have c3 := ih M (pc + 3, ls, v.toList ++ rest, h1, k + k1, s + s1) r c2 h0
            refine ⟨Eq.trans ?_ c3.1, c3.2⟩
            have e2 : (Option.map (rv π) v).toList ++ rest.map (rv π) = (v.toList ++ rest).map (rv π) := by
              cases v with
              | none => rfl
              | some v => rfl
            rw [e2]
            rfl
          | inr E =>
            dsimp only [rr, rO1] at h0 c2 ⊢
            cases hh : thr M E pc ls h1 (k + k1) (s + s1) with
            | none => rw [hh] at h0; cases h0
            | some q =>
              rw [hh] at h0
              have c3 := thr_ren hπ hh
              have e2 : thr M E (rf π (pc, ls, st, h, k, s)).1 (rf π (pc, ls, st, h, k, s)).2.1 (rh π h1) ((rf π (pc, ls, st, h, k, s)).2.2.2.2.1 + k1) ((rf π (pc, ls, st, h, k, s)).2.2.2.2.2 + s1) = thr M E pc (rl π ls) (rh π h1) (k + k1) (s + s1) := rfl
              rw [e2, c3]
              rcases thr_spec hh with ⟨t, -, rfl⟩ | ⟨-, rfl⟩
              · exact ih M _ r c2 h0
              · cases h0
                exact ⟨rfl, c2⟩
      · cases h0
        refine ⟨rfl, ?_⟩
        rcases done_spec hs with ⟨v, ty, -, -, -, -, rfl⟩ | ⟨pa, n, -, -, -, rfl⟩ | ⟨-, -, -, rfl⟩ | ⟨ix, n, -, -, -, -, -, -, -, rfl⟩ <;> exact hl
/-- renamed: the same run -/
theorem ex_ren (hπ : PI π L) {r : rR} (hl : L ≤ h.length) (he : exM X M pc ls st h k s = some r) : exM X M pc (rl π ls) (st.map (rv π)) (rh π h) k s = some (rr π r) := by
  obtain ⟨n, hn⟩ := exM_iff.mp he
  exact exM_iff.mpr ⟨n, (run_ren hπ n M _ r hl hn).1⟩
/-- places a .. a + n - 1 against b .. -/
def swp (a n b : Nat) (p : Nat) : Nat := if a ≤ p ∧ p < a + n then p - a + b else if b ≤ p ∧ p < b + n then p - b + a else p
theorem swp_PI {a n b : Nat} (h1 : a + n ≤ b) (h2 : b + n ≤ 99999) : PI (swp a n b) (b + n) := by
  refine ⟨h2, fun p hp => ?_, fun p hp => ?_, fun p => ?_⟩ <;> unfold swp <;> (repeat' split) <;> omega
theorem swp_a {a n b j : Nat} (hj : j < n) : swp a n b (a + j) = b + j := by
  unfold swp
  rw [if_pos (by omega)]
  omega
theorem swp_b {a n b j : Nat} (h1 : a + n ≤ b) (hj : j < n) : swp a n b (b + j) = a + j := by
  unfold swp
  rw [if_neg (by omega), if_pos (by omega)]
  omega
theorem swp_o {a n b p : Nat} (h1 : ¬ (a ≤ p ∧ p < a + n)) (h2 : ¬ (b ≤ p ∧ p < b + n)) : swp a n b p = p := by
  unfold swp
  rw [if_neg h1, if_neg h2]
/-- two blocks of a heap changed -/
theorem rh_swp {A O C N : rH} (hn : O.length = N.length) (hb : A.length + O.length + C.length + N.length ≤ 99999) :
    rh (swp A.length N.length (A.length + O.length + C.length)) (A ++ O ++ C ++ N) = A.map (re (swp A.length N.length (A.length + O.length + C.length))) ++ N.map (re (swp A.length N.length (A.length + O.length + C.length))) ++ C.map (re (swp A.length N.length (A.length + O.length + C.length))) ++ O.map (re (swp A.length N.length (A.length + O.length + C.length))) := by
  have hπ := swp_PI (a := A.length) (n := N.length) (b := A.length + O.length + C.length) (by omega) (by omega)
  generalize hq : swp A.length N.length (A.length + O.length + C.length) = π at hπ ⊢
  rw [← List.map_append, ← List.map_append, ← List.map_append]
  apply List.ext_getElem?
  intro p
  rw [rh_get hπ (by simp only [List.length_append]; omega), List.getElem?_map]
  congr 1
  subst hq
  have gR : ∀ (A B : rH) (j : Nat), (A ++ B)[A.length + j]? = B[j]? := fun A B j => by
    rw [List.getElem?_append_right (by omega)]
    congr 1
    omega
  by_cases p1 : p < A.length
  · rw [swp_o (by omega) (by omega)]
    simp only [List.append_assoc]
    rw [List.getElem?_append_left p1, List.getElem?_append_left p1]
  · obtain ⟨j, rfl⟩ : ∃ j, p = A.length + j := ⟨p - A.length, by omega⟩
    by_cases p2 : j < N.length
    · have e1 : (A ++ O ++ C ++ N)[A.length + O.length + C.length + j]? = N[j]? := by
        rw [show A.length + O.length + C.length + j = (A ++ O ++ C).length + j by simp only [List.length_append], gR]
      have e2 : (A ++ N ++ C ++ O)[A.length + j]? = N[j]? := by
        simp only [List.append_assoc]
        rw [gR, List.getElem?_append_left p2]
      rw [swp_a p2, e1, e2]
    · obtain ⟨i, rfl⟩ : ∃ i, j = N.length + i := ⟨j - N.length, by omega⟩
      by_cases p3 : i < C.length
      · have e1 : (A ++ O ++ C ++ N)[A.length + (N.length + i)]? = C[i]? := by
          simp only [List.append_assoc]
          rw [gR, ← hn, gR, List.getElem?_append_left p3]
        have e2 : (A ++ N ++ C ++ O)[A.length + (N.length + i)]? = C[i]? := by
          simp only [List.append_assoc]
          rw [gR, gR, List.getElem?_append_left p3]
        rw [swp_o (by omega) (by omega), e1, e2]
      · obtain ⟨q, rfl⟩ : ∃ q, i = C.length + q := ⟨i - C.length, by omega⟩
        by_cases p4 : q < N.length
        · have e1 : (A ++ O ++ C ++ N)[A.length + q]? = O[q]? := by
            simp only [List.append_assoc]
            rw [gR, List.getElem?_append_left (by omega)]
          have e2 : (A ++ N ++ C ++ O)[A.length + (N.length + (C.length + q))]? = O[q]? := by
            simp only [List.append_assoc]
            rw [gR, gR, gR]
          rw [show A.length + (N.length + (C.length + q)) = A.length + O.length + C.length + q by omega, swp_b (by omega) p4, e1, show A.length + O.length + C.length + q = A.length + (N.length + (C.length + q)) by omega, e2]
        · rw [swp_o (by omega) (by omega), List.getElem?_eq_none (by simp only [List.length_append]; omega), List.getElem?_eq_none (by simp only [List.length_append]; omega)]
end REN
