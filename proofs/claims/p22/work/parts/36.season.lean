/-! SORTED ROWS -/
/-- the sum over the first n -/
def sg (h : Nat → Nat) (f : Nat → Nat) : Nat → Nat
  | 0 => 0
  | n + 1 => sg h f n + h (f n)
theorem sg_congr {h f g : Nat → Nat} : ∀ n, (∀ m, m < n → f m = g m) → sg h f n = sg h g n
  | 0, _ => rfl
  | n + 1, e => by rw [sg, sg, sg_congr n fun m hm => e m (by omega), e n (by omega)]
theorem sg_split {h f : Nat → Nat} {n : Nat} : ∀ l, sg h f (n + l) = sg h f n + sg h (fun m => f (n + m)) l
  | 0 => rfl
  | l + 1 => by
    rw [← Nat.add_assoc, sg, sg, sg_split l]
    omega
def ind (v : Nat) : Nat → Nat := fun x => if x = v then 1 else 0
theorem sg_no {f : Nat → Nat} {v : Nat} : ∀ n, (∀ m, m < n → f m ≠ v) → sg (ind v) f n = 0
  | 0, _ => rfl
  | n + 1, e => by
    rw [sg, sg_no n fun m hm => e m (by omega)]
    unfold ind
    rw [if_neg (e n (by omega))]
theorem sg_mem {f : Nat → Nat} {v : Nat} : ∀ n, 0 < sg (ind v) f n → ∃ m, m < n ∧ f m = v
  | 0, h => by unfold sg at h; omega
  | n + 1, h => by
    by_cases e : f n = v
    · exact ⟨n, by omega, e⟩
    · rw [sg] at h
      unfold ind at h
      rw [if_neg e] at h
      obtain ⟨m, hm, h1⟩ := sg_mem n h
      exact ⟨m, by omega, h1⟩
theorem sg_in {f : Nat → Nat} {v m : Nat} : ∀ n, m < n → f m = v → 0 < sg (ind v) f n
  | 0, h, _ => by omega
  | n + 1, h, e => by
    rw [sg]
    by_cases e1 : m = n
    · subst e1
      unfold ind
      rw [if_pos e]
      omega
    · have := sg_in (f := f) n (by omega : m < n) e
      omega
/-- where a value is put into a sorted row of n -/
def qF (v : Nat) (f : Nat → Nat) : Nat → Nat
  | 0 => 0
  | n + 1 => if v < f n then qF v f n else n + 1
theorem qF_le {v : Nat} {f : Nat → Nat} : ∀ n, qF v f n ≤ n
  | 0 => Nat.le_refl _
  | n + 1 => by
    unfold qF
    split
    · have := @qF_le v f n; omega
    · omega
theorem qF_gt {v : Nat} {f : Nat → Nat} : ∀ n m, qF v f n ≤ m → m < n → v < f m
  | 0, m, _, h => by omega
  | n + 1, m, h1, h2 => by
    unfold qF at h1
    by_cases e : v < f n
    · rw [if_pos e] at h1
      by_cases e1 : m = n
      · subst e1; exact e
      · exact qF_gt n m h1 (by omega)
    · rw [if_neg e] at h1
      omega
theorem qF_lo {v : Nat} {f : Nat → Nat} : ∀ n, 0 < qF v f n → f (qF v f n - 1) ≤ v
  | 0, h => by unfold qF at h; omega
  | n + 1, h => by
    unfold qF at h ⊢
    by_cases e : v < f n
    · rw [if_pos e] at h ⊢
      exact qF_lo n h
    · rw [if_neg e]
      rw [Nat.add_sub_cancel]
      omega
/-- the row with the value in -/
def insF (f : Nat → Nat) (q v : Nat) : Nat → Nat := fun n => if n < q then f n else if n = q then v else f (n - 1)
theorem sg_ins {h f : Nat → Nat} {q v : Nat} : ∀ n, q ≤ n → sg h (insF f q v) (n + 1) = sg h f n + h v
  | 0, hq => by
    have e : q = 0 := by omega
    subst e
    simp [sg, insF]
  | n + 1, hq => by
    by_cases e : q = n + 1
    · subst e
      rw [sg, sg_congr (g := f) (n + 1) (fun m hm => by unfold insF; rw [if_pos hm])]
      unfold insF
      rw [if_neg (by omega), if_pos rfl]
    · rw [sg, sg_ins n (by omega), sg]
      have e1 : insF f q v (n + 1) = f n := by
        unfold insF
        rw [if_neg (by omega), if_neg (by omega), Nat.add_sub_cancel]
      rw [e1]
      omega
/-- sorted -/
def SRT (f : Nat → Nat) (r : Nat) : Prop := ∀ m n, m ≤ n → n < r → f m ≤ f n
theorem SRT_ins {f : Nat → Nat} {r v : Nat} (hs : SRT f r) : SRT (insF f (qF v f r) v) (r + 1) := by
  intro m n hmn hn
  have hq := @qF_le v f r
  have h1 := @qF_gt v f r
  have h2 := @qF_lo v f r
  unfold insF
  by_cases a : n < qF v f r
  · rw [if_pos (by omega), if_pos a]
    exact hs m n hmn (by omega)
  · rw [if_neg a]
    by_cases b : n = qF v f r
    · rw [if_pos b]
      by_cases c : m < qF v f r
      · rw [if_pos c]
        have := hs m (qF v f r - 1) (by omega) (by omega)
        have := h2 (by omega)
        omega
      · rw [if_neg c, if_pos (by omega)]
        exact Nat.le_refl _
    · rw [if_neg b]
      by_cases c : m < qF v f r
      · rw [if_pos c]
        exact hs m (n - 1) (by omega) (by omega)
      · rw [if_neg c]
        by_cases d : m = qF v f r
        · rw [if_pos d]
          have := h1 (n - 1) (by omega) (by omega)
          omega
        · rw [if_neg d]
          exact hs (m - 1) (n - 1) (by omega) (by omega)
/-! the table's order -/
theorem prF_swap {pl : Nat → Int32} {r a b : Nat} : ∀ j, prF pl r b a j = ((prF pl r a b j).2, (prF pl r a b j).1)
  | 0 => rfl
  | j + 1 => by
    rw [prF, prF, prF_swap j]
    by_cases h : (prF pl r a b j).1 = (prF pl r a b j).2
    · rw [if_pos h, if_pos h.symm]
    · rw [if_neg h, if_neg (fun q => h q.symm)]
theorem prF_tr {pl : Nat → Int32} {r a b c : Nat} : ∀ j,
    ((prF pl r a b j).1 < (prF pl r a b j).2 → (prF pl r b c j).1 < (prF pl r b c j).2 → (prF pl r a c j).1 < (prF pl r a c j).2) ∧
    ((prF pl r a b j).1 < (prF pl r a b j).2 → (prF pl r b c j).1 = (prF pl r b c j).2 → (prF pl r a c j).1 < (prF pl r a c j).2) ∧
    ((prF pl r a b j).1 = (prF pl r a b j).2 → (prF pl r b c j).1 < (prF pl r b c j).2 → (prF pl r a c j).1 < (prF pl r a c j).2) ∧
    ((prF pl r a b j).1 = (prF pl r a b j).2 → (prF pl r b c j).1 = (prF pl r b c j).2 → (prF pl r a c j).1 = (prF pl r a c j).2)
  | 0 => by
    simp only [prF]
    omega
  | j + 1 => by
    obtain ⟨h1, h2, h3, h4⟩ := prF_tr (pl := pl) (r := r) (a := a) (b := b) (c := c) j
    simp only [prF]
    by_cases e1 : (prF pl r a b j).1 = (prF pl r a b j).2
    · rw [if_pos e1]
      by_cases e2 : (prF pl r b c j).1 = (prF pl r b c j).2
      · rw [if_pos e2, if_pos (h4 e1 e2)]
        dsimp only
        omega
      · rw [if_neg e2]
        by_cases e3 : (prF pl r b c j).1 < (prF pl r b c j).2
        · have e4 := h3 e1 e3
          rw [if_neg (by omega)]
          dsimp only
          omega
        · dsimp only
          refine ⟨fun _ q => absurd q e3, fun _ q => absurd q e2, fun _ q => absurd q e3, fun _ q => absurd q e2⟩
    · rw [if_neg e1]
      by_cases e0 : (prF pl r a b j).1 < (prF pl r a b j).2
      · by_cases e2 : (prF pl r b c j).1 = (prF pl r b c j).2
        · have e4 := h2 e0 e2
          rw [if_pos e2, if_neg (by omega)]
          dsimp only
          refine ⟨fun _ _ => e4, fun _ _ => e4, fun q => absurd q e1, fun q => absurd q e1⟩
        · rw [if_neg e2]
          by_cases e3 : (prF pl r b c j).1 < (prF pl r b c j).2
          · have e4 := h1 e0 e3
            rw [if_neg (by omega)]
            refine ⟨fun _ _ => e4, fun _ _ => e4, fun q => absurd q e1, fun q => absurd q e1⟩
          · refine ⟨fun _ q => absurd q e3, fun _ q => absurd q e2, fun _ q => absurd q e3, fun _ q => absurd q e2⟩
      · refine ⟨fun q => absurd q e0, fun q => absurd q e0, fun q => absurd q e1, fun q => absurd q e1⟩
theorem btR_irr {pl : Nat → Int32} {r a : Nat} : ¬ btR pl r a a := by
  have h := congrArg Prod.fst (prF_swap (pl := pl) (r := r) (a := a) (b := a) 10)
  dsimp only at h
  rintro (q | ⟨_, q⟩) <;> omega
theorem btR_ord (pl : Nat → Int32) (r : Nat) : ORD (fun _ => True) (btR pl r) := by
  constructor
  · intro a b _ _ hab
    have h1 := congrArg Prod.fst (prF_swap (pl := pl) (r := r) (a := a) (b := b) 10)
    have h2 := congrArg Prod.snd (prF_swap (pl := pl) (r := r) (a := a) (b := b) 10)
    dsimp only at h1 h2
    unfold btR
    rw [h1, h2]
    omega
  · intro a b c _ _ _ _ _ _
    have h := prF_tr (pl := pl) (r := r) (a := a) (b := b) (c := c) 10
    unfold btR
    omega
theorem tbN_plV {pl : Nat → Int32} {r c : Nat} : nI (tbN pl r c) = plV (fun _ => True) (btR pl r) c 10 := by
  rw [plV_t trivial]
  unfold tbN
  congr 1
  exact cnF_congr fun o _ => ⟨fun q => ⟨q.1, trivial, q.2⟩, fun q => ⟨q.1, q.2.2⟩⟩
/-- a place as a result: 10 for none -/
def vl (x : Int32) : Nat := if x = -1 then 10 else cnt x
theorem vl_le {x : Int32} (h : okP x) : vl x ≤ 10 := by
  unfold vl
  rcases h with rfl | ⟨p, hp, rfl⟩
  · rw [if_pos rfl]; exact Nat.le_refl _
  · rw [if_neg (by rw [eq_m1 (by omega)]; exact id), cnt_nI (by omega)]; omega
theorem ptV_vl {x : Int32} (h : okP x) : ptV x = ptsN (vl x) := by
  unfold ptV vl
  rcases h with rfl | ⟨p, hp, rfl⟩
  · rw [if_pos rfl, if_pos rfl]; rfl
  · rw [if_neg (by rw [eq_m1 (by omega)]; exact id), if_neg (by rw [eq_m1 (by omega)]; exact id)]
theorem vl_eq {x : Int32} {a : Nat} (h : okP x) (ha : a < 10) : x = nI a ↔ vl x = a := by
  unfold vl
  rcases h with rfl | ⟨p, hp, rfl⟩
  · rw [if_pos rfl, m1_eq (by omega)]
    exact ⟨fun q => q.elim, fun q => by omega⟩
  · rw [if_neg (by rw [eq_m1 (by omega)]; exact id), cnt_nI (by omega)]
    exact nI_eq (by omega) (by omega)
/-- a car's results, by the reference -/
def gR (pl : Nat → Int32) (c : Nat) : Nat → Nat := fun k => vl (pl (10 * k + c))
section SEAS
variable {pl : Nat → Int32} {r : Nat}
theorem smN_sg {c : Nat} (hP : ∀ k, k < r → ∀ c, c < 10 → okP (pl (10 * k + c))) (hc : c < 10) : ∀ n, n ≤ r → smN pl c n = sg ptsN (gR pl c) n
  | 0, _ => rfl
  | n + 1, hn => by
    rw [smN, sg, smN_sg hP hc n (by omega), ptV_vl (hP n (by omega) c hc)]
    rfl
theorem ofN_sg {c a : Nat} (hP : ∀ k, k < r → ∀ c, c < 10 → okP (pl (10 * k + c))) (hc : c < 10) (ha : a < 10) : ∀ n, n ≤ r → ofN pl c a n = sg (ind a) (gR pl c) n
  | 0, _ => rfl
  | n + 1, hn => by
    rw [ofN, sg, ofN_sg hP hc ha n (by omega)]
    have := vl_eq (hP n (by omega) c hc) ha
    unfold ind gR
    by_cases h : pl (10 * n + c) = nI a
    · rw [if_pos h, if_pos (this.mp h)]
    · rw [if_neg h, if_neg (fun q => h (this.mpr q))]
theorem lsN_lo {c : Nat} : ∀ n, (∀ k, k < n → lsN pl c n ≤ ptV (pl (10 * k + c))) ∧ (lsN pl c n = 100 ∨ ∃ k, k < n ∧ lsN pl c n = ptV (pl (10 * k + c)))
  | 0 => ⟨fun k hk => by omega, Or.inl rfl⟩
  | n + 1 => by
    obtain ⟨h1, h2⟩ := lsN_lo (c := c) n
    unfold lsN
    by_cases e : ptV (pl (10 * n + c)) < lsN pl c n
    · rw [if_pos e]
      refine ⟨fun k hk => ?_, Or.inr ⟨n, by omega, rfl⟩⟩
      by_cases e1 : k = n
      · subst e1; exact Nat.le_refl _
      · have := h1 k (by omega); omega
    · rw [if_neg e]
      refine ⟨fun k hk => ?_, ?_⟩
      · by_cases e1 : k = n
        · subst e1; omega
        · exact h1 k (by omega)
      · rcases h2 with h2 | ⟨k, hk, h2⟩
        · exact Or.inl h2
        · exact Or.inr ⟨k, by omega, h2⟩
theorem ptsN_anti : ∀ a b, a ≤ b → b ≤ 10 → ptsN b ≤ ptsN a := by
  intro a b h1 h2
  have hb : b = 0 ∨ b = 1 ∨ b = 2 ∨ b = 3 ∨ b = 4 ∨ b = 5 ∨ b = 6 ∨ b = 7 ∨ b = 8 ∨ b = 9 ∨ b = 10 := by omega
  have ha : a = 0 ∨ a = 1 ∨ a = 2 ∨ a = 3 ∨ a = 4 ∨ a = 5 ∨ a = 6 ∨ a = 7 ∨ a = 8 ∨ a = 9 ∨ a = 10 := by omega
  rcases hb with rfl | rfl | rfl | rfl | rfl | rfl | rfl | rfl | rfl | rfl | rfl <;>
    rcases ha with rfl | rfl | rfl | rfl | rfl | rfl | rfl | rfl | rfl | rfl | rfl <;> first | decide | omega
/-- the results of a car, sorted -/
def RS (pl : Nat → Int32) (r c : Nat) (f : Nat → Nat) : Prop := SRT f r ∧ (∀ n, n < r → f n ≤ 10) ∧ ∀ h, sg h f r = sg h (gR pl c) r
theorem RS_sum {c : Nat} {f : Nat → Nat} (hP : ∀ k, k < r → ∀ c, c < 10 → okP (pl (10 * k + c))) (hc : c < 10) (hS : RS pl r c f) : sg ptsN f (if r < 3 then r else r - 1) = sumV pl r c := by
  obtain ⟨h1, h2, h3⟩ := hS
  have hs := h3 ptsN
  rw [← smN_sg hP hc r (Nat.le_refl _)] at hs
  unfold sumV
  by_cases h : r < 3
  · rw [if_pos h, if_pos h, hs]
  · rw [if_neg h, if_neg h]
    obtain ⟨n, rfl⟩ : ∃ n, r = n + 1 := ⟨r - 1, by omega⟩
    rw [Nat.add_sub_cancel]
    rw [sg] at hs
    have hl : lsN pl c (n + 1) = ptsN (f n) := by
      obtain ⟨l1, l2⟩ := lsN_lo (pl := pl) (c := c) (n + 1)
      -- the last one is one of the reference's
      have hm := sg_in (f := f) (v := f n) (m := n) (n + 1) (by omega) rfl
      rw [h3] at hm
      obtain ⟨k, hk, ek⟩ := sg_mem (n + 1) hm
      have a1 := l1 k hk
      rw [ptV_vl (hP k hk c hc)] at a1
      unfold gR at ek
      rw [ek] at a1
      rcases l2 with l2 | ⟨k2, hk2, l2⟩
      · have := ptsN_le (f n)
        omega
      · have hm2 := sg_in (f := gR pl c) (v := gR pl c k2) (m := k2) (n + 1) hk2 rfl
        rw [← h3] at hm2
        obtain ⟨k3, hk3, e3⟩ := sg_mem (n + 1) hm2
        have a2 := h1 k3 n (by omega) (by omega)
        have a3 := ptsN_anti (f k3) (f n) a2 (h2 n (by omega))
        rw [ptV_vl (hP k2 hk2 c hc)] at l2
        rw [e3] at a3
        unfold gR at a3
        omega
    rw [hl, ← hs]
    omega
/-- the first difference decides -/
theorem RS_dec {a b n : Nat} {f g : Nat → Nat} (hP : ∀ k, k < r → ∀ c, c < 10 → okP (pl (10 * k + c))) (ha : a < 10) (hb : b < 10) (hf : RS pl r a f) (hg : RS pl r b g) (hsum : sumV pl r a = sumV pl r b) (hn : n < r) (he : ∀ m, m < n → f m = g m) (hd : f n < g n) : (prF pl r a b 10).1 < (prF pl r a b 10).2 := by
  have hu : f n ≤ 9 := by have := hg.2.1 n hn; omega
  obtain ⟨l, hl⟩ : ∃ l, r = n + l := ⟨r - n, by omega⟩
  have cnt1 : ∀ v, v < f n → ofN pl b v r = ofN pl a v r := fun v hv => by
    rw [ofN_sg hP hb (by omega) r (Nat.le_refl _), ofN_sg hP ha (by omega) r (Nat.le_refl _), ← hf.2.2, ← hg.2.2, hl, sg_split, sg_split, sg_congr n he, sg_no l fun m hm => ?_, sg_no l fun m hm => ?_]
    · have := hf.1 n (n + m) (by omega) (by omega)
      omega
    · have := hg.1 n (n + m) (by omega) (by omega)
      omega
  have cnt2 : ofN pl b (f n) r < ofN pl a (f n) r := by
    rw [ofN_sg hP hb (by omega) r (Nat.le_refl _), ofN_sg hP ha (by omega) r (Nat.le_refl _), ← hf.2.2, ← hg.2.2, hl, sg_split, sg_split, sg_congr n he, sg_no (f := fun m => g (n + m)) l fun m hm => ?_]
    · have := sg_in (f := fun m => f (n + m)) (v := f n) (m := 0) l (by omega) rfl
      omega
    · have := hg.1 n (n + m) (by omega) (by omega)
      omega
  have hz : ∀ j, j ≤ f n → (prF pl r a b j).1 = (prF pl r a b j).2 := by
    intro j
    induction j with
    | zero => intro _; exact hsum.symm
    | succ j ih =>
      intro hj
      rw [prF, if_pos (ih (by omega))]
      exact cnt1 j (by omega)
  have hx : prF pl r a b (f n + 1) = (ofN pl b (f n) r, ofN pl a (f n) r) := by
    rw [prF, if_pos (hz _ (Nat.le_refl _))]
  have hy := prF_stay (pl := pl) (r := r) (a := a) (b := b) (j := f n + 1) (by rw [hx]; dsimp only; omega) (9 - f n)
  rw [show f n + 1 + (9 - f n) = 10 by omega] at hy
  rw [hy, hx]
  exact cnt2
theorem RS_eq {a b : Nat} {f g : Nat → Nat} (hP : ∀ k, k < r → ∀ c, c < 10 → okP (pl (10 * k + c))) (ha : a < 10) (hb : b < 10) (hf : RS pl r a f) (hg : RS pl r b g) (hsum : sumV pl r a = sumV pl r b) (he : ∀ m, m < r → f m = g m) : (prF pl r a b 10).1 = (prF pl r a b 10).2 := by
  have hz : ∀ j, j ≤ 10 → (prF pl r a b j).1 = (prF pl r a b j).2 := by
    intro j
    induction j with
    | zero => intro _; exact hsum.symm
    | succ j ih =>
      intro hj
      rw [prF, if_pos (ih (by omega))]
      show ofN pl b j r = ofN pl a j r
      rw [ofN_sg hP hb (by omega) r (Nat.le_refl _), ofN_sg hP ha (by omega) r (Nat.le_refl _), ← hf.2.2, ← hg.2.2, sg_congr r he]
  exact hz 10 (Nat.le_refl _)
end SEAS
