/-! the order: the best of all codes is the best leg by leg -/
abbrev PlD : Type := (Nat × Nat × Nat) × (Nat → Bool) × (Nat → Nat → Nat) × (Nat → Nat → Nat → Option Nat)
def PlD.np (D : PlD) : Nat := D.1.1
def PlD.hd (D : PlD) : Nat := D.1.2.1
def PlD.la (D : PlD) : Nat := D.1.2.2
def PlD.kn (D : PlD) : Nat → Bool := D.2.1
def PlD.pr (D : PlD) : Nat → Nat → Nat := D.2.2.1
def PlD.wy (D : PlD) : Nat → Nat → Nat → Option Nat := D.2.2.2
def PlD.arr (D : PlD) (a b t : Nat) : Option Nat := if b = a ∨ ¬ b < D.np ∨ D.kn b = false then none else match D.wy a b t with
  | none => none
  | some w => if t + w ≤ D.la then some (t + w) else none
def PlD.cnt (D : PlD) (a g c : Nat) : Nat := min D.hd (c / (D.pr a g + 1))
def PlD.aft (D : PlD) (a b g c : Nat) : Nat := if g < 4 then c - D.cnt a g c * (D.pr a g + 1) + D.cnt a g c * D.pr b g else c
def PlD.oneP (D : PlD) (a b c : Nat) : Nat → Nat
  | 0 => c
  | g + 1 => max (PlD.oneP D a b c g) (D.aft a b g c)
def PlD.one (D : PlD) (a b c : Nat) : Nat := D.oneP a b c 4
def PlD.mostL (D : PlD) (f : Nat → Nat → Int) (a t : Nat) : Nat → Int
  | 0 => -1
  | m + 1 => match D.arr a m t with
    | none => PlD.mostL D f a t m
    | some t1 => max (PlD.mostL D f a t m) (f m t1)
def PlD.mostP (D : PlD) : Nat → Nat → Nat → Nat → Int
  | 0, _, _, c => c
  | k + 1, a, t, c => D.mostL (fun b t1 => PlD.mostP D k b t1 (D.one a b c)) a t D.np
def PlD.runP (D : PlD) : Nat → Nat → Nat → Nat → Nat → Option (Nat × Nat)
  | 0, _, _, t, c => some (c, t)
  | k + 1, code, a, t, c => match D.arr a (code / 30 ^ k % 30 % 6) t with
    | none => none
    | some t1 => PlD.runP D k code (code / 30 ^ k % 30 % 6) t1 (D.aft a (code / 30 ^ k % 30 % 6) (code / 30 ^ k % 30 / 6) c)
theorem PlD.arr_lt {D : PlD} {a b t t1 : Nat} (h : D.arr a b t = some t1) : b < D.np := by
  unfold arr at h
  by_cases c : b = a ∨ ¬ b < D.np ∨ D.kn b = false
  · rw [if_pos c] at h; cases h
  · exact Decidable.not_not.mp (fun q => c (Or.inr (Or.inl q)))
theorem PlD.cnt_le {D : PlD} {a g c : Nat} : D.cnt a g c * (D.pr a g + 1) ≤ c := by
  unfold cnt
  exact Nat.le_trans (Nat.mul_le_mul_right _ (Nat.min_le_right _ _)) (Nat.div_mul_le_self _ _)
theorem PlD.aft_lose {D : PlD} {a b g c : Nat} (h : D.pr b g ≤ D.pr a g + 1) : D.aft a b g c ≤ c := by
  unfold aft
  by_cases q : g < 4
  · rw [if_pos q]
    have h1 := cnt_le (D := D) (a := a) (g := g) (c := c)
    have h2 := Nat.mul_le_mul_left (D.cnt a g c) h
    omega
  · rw [if_neg q]; exact Nat.le_refl _
theorem PlD.aft_gain {D : PlD} {a b g c C : Nat} (h : D.pr a g + 1 ≤ D.pr b g) (hc : c ≤ C) : D.aft a b g c ≤ D.aft a b g C := by
  unfold aft
  by_cases q : g < 4
  · rw [if_pos q, if_pos q]
    obtain ⟨e, he⟩ := Nat.exists_eq_add_of_le h
    have h1 := cnt_le (D := D) (a := a) (g := g) (c := c)
    have h2 := cnt_le (D := D) (a := a) (g := g) (c := C)
    have hm : D.cnt a g c ≤ D.cnt a g C := by
      unfold cnt
      have := Nat.div_le_div_right (c := D.pr a g + 1) hc
      omega
    rw [he, Nat.mul_add (D.cnt a g c) (D.pr a g + 1) e, Nat.mul_add (D.cnt a g C) (D.pr a g + 1) e]
    have h3 := Nat.mul_le_mul_right e hm
    generalize D.cnt a g c * (D.pr a g + 1) = x at *
    generalize D.cnt a g C * (D.pr a g + 1) = y at *
    generalize D.cnt a g c * e = x2 at *
    generalize D.cnt a g C * e = y2 at *
    omega
  · rw [if_neg q, if_neg q]; exact hc
theorem PlD.oneP_c {D : PlD} {a b c : Nat} : ∀ g, c ≤ D.oneP a b c g
  | 0 => Nat.le_refl _
  | g + 1 => Nat.le_trans (oneP_c g) (Nat.le_max_left _ _)
theorem PlD.oneP_aft {D : PlD} {a b c : Nat} : ∀ m g, g < m → D.aft a b g c ≤ D.oneP a b c m
  | 0, g, h => absurd h (Nat.not_lt_zero _)
  | m + 1, g, h => by
    by_cases e : g = m
    · subst e; exact Nat.le_max_right _ _
    · exact Nat.le_trans (oneP_aft m g (by omega)) (Nat.le_max_left _ _)
theorem PlD.aft_one {D : PlD} {a b c g : Nat} : D.aft a b g c ≤ D.one a b c := by
  by_cases q : g < 4
  · exact oneP_aft 4 g q
  · unfold aft; rw [if_neg q]; exact oneP_c 4
theorem PlD.oneP_at {D : PlD} {a b c : Nat} : ∀ m, m ≤ 4 → ∃ g, g ≤ 4 ∧ D.oneP a b c m = D.aft a b g c
  | 0, _ => ⟨4, by omega, (if_neg (by omega)).symm⟩
  | m + 1, hm => by
    obtain ⟨g, hg, e⟩ := oneP_at (a := a) (b := b) (c := c) m (by omega)
    show ∃ g, g ≤ 4 ∧ max (D.oneP a b c m) (D.aft a b m c) = _
    by_cases q : D.oneP a b c m ≤ D.aft a b m c
    · exact ⟨m, by omega, Nat.max_eq_right q⟩
    · exact ⟨g, hg, by rw [Nat.max_eq_left (by omega), e]⟩
theorem PlD.one_mono {D : PlD} {a b c C : Nat} (h : c ≤ C) : D.one a b c ≤ D.one a b C := by
  obtain ⟨g, hg, e⟩ := oneP_at (D := D) (a := a) (b := b) (c := c) 4 (Nat.le_refl _)
  show D.oneP a b c 4 ≤ _
  rw [e]
  by_cases q : D.pr a g + 1 ≤ D.pr b g
  · exact Nat.le_trans (aft_gain q h) aft_one
  · exact Nat.le_trans (aft_lose (by omega)) (Nat.le_trans h (oneP_c 4))
theorem PlD.mostL_le {D : PlD} {f : Nat → Nat → Int} {a t : Nat} : ∀ m b t1, b < m → D.arr a b t = some t1 → f b t1 ≤ D.mostL f a t m
  | 0, b, t1, h, _ => absurd h (Nat.not_lt_zero _)
  | m + 1, b, t1, h, e => by
    by_cases q : b = m
    · subst q
      show _ ≤ (match D.arr a b t with | none => D.mostL f a t b | some t1 => max (D.mostL f a t b) (f b t1))
      rw [e]
      exact Int.le_max_right _ _
    · have ih := mostL_le (f := f) m b t1 (by omega) e
      show _ ≤ (match D.arr a m t with | none => D.mostL f a t m | some t1 => max (D.mostL f a t m) (f m t1))
      cases D.arr a m t with
      | none => exact ih
      | some t2 => exact Int.le_trans ih (Int.le_max_left _ _)
theorem PlD.mostL_at {D : PlD} {f : Nat → Nat → Int} {a t : Nat} : ∀ m, D.mostL f a t m = -1 ∨ ∃ b t1, b < m ∧ D.arr a b t = some t1 ∧ D.mostL f a t m = f b t1
  | 0 => Or.inl rfl
  | m + 1 => by
    have ih := mostL_at (D := D) (f := f) (a := a) (t := t) m
    show (match D.arr a m t with | none => D.mostL f a t m | some t1 => max (D.mostL f a t m) (f m t1)) = -1 ∨ ∃ b t1, b < m + 1 ∧ D.arr a b t = some t1 ∧ (match D.arr a m t with | none => D.mostL f a t m | some t1 => max (D.mostL f a t m) (f m t1)) = f b t1
    cases e : D.arr a m t with
    | none =>
      refine ih.imp id ?_
      rintro ⟨b, t1, h1, h2, h3⟩
      exact ⟨b, t1, by omega, h2, h3⟩
    | some t2 =>
      show max (D.mostL f a t m) (f m t2) = -1 ∨ ∃ b t1, b < m + 1 ∧ D.arr a b t = some t1 ∧ max (D.mostL f a t m) (f m t2) = f b t1
      by_cases q : D.mostL f a t m ≤ f m t2
      · rw [Int.max_eq_right q]
        exact Or.inr ⟨m, t2, by omega, e, rfl⟩
      · rw [Int.max_eq_left (by omega)]
        refine ih.imp id ?_
        rintro ⟨b, t1, h1, h2, h3⟩
        exact ⟨b, t1, by omega, h2, h3⟩
theorem PlD.most_ge {D : PlD} : ∀ (k : Nat) {code a t c C c1 t1 : Nat}, D.runP k code a t c = some (c1, t1) → c ≤ C → (c1 : Int) ≤ D.mostP k a t C
  | 0, code, a, t, c, C, c1, t1, h, hc => by
    cases h
    exact Int.ofNat_le.mpr hc
  | k + 1, code, a, t, c, C, c1, t1, h, hc => by
    have h : (match D.arr a (code / 30 ^ k % 30 % 6) t with | none => none | some t1 => D.runP k code (code / 30 ^ k % 30 % 6) t1 (D.aft a (code / 30 ^ k % 30 % 6) (code / 30 ^ k % 30 / 6) c)) = some (c1, t1) := h
    cases e : D.arr a (code / 30 ^ k % 30 % 6) t with
    | none => rw [e] at h; cases h
    | some t2 =>
      rw [e] at h
      have ih := most_ge k h (Nat.le_trans aft_one (one_mono hc))
      exact Int.le_trans ih (mostL_le (f := fun b t1 => D.mostP k b t1 (D.one a b C)) D.np _ t2 (arr_lt e) e)
theorem PlD.run_mod {D : PlD} : ∀ (k : Nat) {x y a t c : Nat}, x % 30 ^ k = y % 30 ^ k → D.runP k x a t c = D.runP k y a t c
  | 0, x, y, a, t, c, _ => rfl
  | k + 1, x, y, a, t, c, h => by
    have h1 : x % 30 ^ k = y % 30 ^ k := by
      have := congrArg (fun z => z % 30 ^ k) h
      simpa [Nat.pow_succ, Nat.mod_mul_right_mod] using this
    have h2 : x / 30 ^ k % 30 = y / 30 ^ k % 30 := by
      have e1 : x % (30 ^ k * 30) / 30 ^ k = y % (30 ^ k * 30) / 30 ^ k := by rw [← Nat.pow_succ, h]
      rwa [Nat.mod_mul_right_div_self, Nat.mod_mul_right_div_self] at e1
    unfold runP
    rw [h2]
    cases D.arr a (y / 30 ^ k % 30 % 6) t with
    | none => rfl
    | some t1 => exact run_mod k h1
theorem PlD.cd_div {x r k : Nat} (hr : r < 30 ^ k) (hx : x < 30) : (x * 30 ^ k + r) / 30 ^ k % 30 = x ∧ (x * 30 ^ k + r) % 30 ^ k = r := by
  have h0 : 0 < 30 ^ k := Nat.pow_pos (by decide)
  rw [Nat.mul_comm x, Nat.mul_add_div h0, Nat.div_eq_of_lt hr, Nat.mul_add_mod, Nat.mod_eq_of_lt hr]
  exact ⟨by omega, rfl⟩
theorem PlD.cd_lt {x r k : Nat} (hr : r < 30 ^ k) (hx : x < 30) : x * 30 ^ k + r < 30 ^ (k + 1) := by
  have h := Nat.mul_le_mul_right (30 ^ k) (show x + 1 ≤ 30 from hx)
  rw [Nat.pow_succ, Nat.mul_comm (30 ^ k) 30]
  rw [Nat.add_mul, Nat.one_mul] at h
  omega
theorem PlD.most_at {D : PlD} (hn : D.np ≤ 6) : ∀ (k : Nat) {a t c : Nat}, D.mostP k a t c = -1 ∨ ∃ w code t1, code < 30 ^ k ∧ D.runP k code a t c = some (w, t1) ∧ D.mostP k a t c = (w : Nat)
  | 0, a, t, c => Or.inr ⟨c, 0, t, by decide, rfl, rfl⟩
  | k + 1, a, t, c => by
    rcases mostL_at (D := D) (f := fun b t1 => D.mostP k b t1 (D.one a b c)) (a := a) (t := t) D.np with h | ⟨b, t1, hb, e, h⟩
    · exact Or.inl h
    · have h : D.mostP (k + 1) a t c = D.mostP k b t1 (D.one a b c) := h
      rcases most_at hn k (a := b) (t := t1) (c := D.one a b c) with g | ⟨w, code, t2, h1, h2, h3⟩
      · exact Or.inl (h.trans g)
      · obtain ⟨g, hg, eg⟩ := oneP_at (D := D) (a := a) (b := b) (c := c) 4 (Nat.le_refl _)
        have eg : D.one a b c = D.aft a b g c := eg
        refine Or.inr ⟨w, (6 * g + b) * 30 ^ k + code, t2, cd_lt h1 (by omega), ?_, h.trans h3⟩
        obtain ⟨q1, q2⟩ := cd_div (x := 6 * g + b) h1 (by omega)
        unfold runP
        rw [q1, show (6 * g + b) % 6 = b by omega, show (6 * g + b) / 6 = g by omega, e]
        show D.runP k ((6 * g + b) * 30 ^ k + code) b t1 (D.aft a b g c) = some (w, t2)
        rw [run_mod k (y := code) (by rw [q2, Nat.mod_eq_of_lt h1]), ← eg]
        exact h2
theorem PlD.most_mono {D : PlD} (hn : D.np ≤ 6) {k a t c C : Nat} (h : c ≤ C) : D.mostP k a t c = -1 ∨ D.mostP k a t c ≤ D.mostP k a t C := by
  rcases most_at hn k (a := a) (t := t) (c := c) with g | ⟨w, code, t2, h1, h2, h3⟩
  · exact Or.inl g
  · exact Or.inr (h3 ▸ most_ge k h2 h)
/-- the choice x can be the first of k + 1 legs that bring w -/
def PlD.may (D : PlD) (w k a t c x : Nat) : Prop := ∃ t1, D.arr a (x % 6) t = some t1 ∧ D.mostP k (x % 6) t1 (D.aft a (x % 6) (x / 6) c) = (w : Nat)
def PlD.Greedy (D : PlD) (w : Nat) : Nat → Nat → Nat → Nat → Nat → Nat → Prop
  | 0, _, t, _, code, t9 => code = 0 ∧ t9 = t
  | k + 1, a, t, c, code, t9 => code / 30 ^ k < 30 ∧ (∀ y, y < code / 30 ^ k → ¬ D.may w k a t c y) ∧ ∃ t1, D.arr a (code / 30 ^ k % 6) t = some t1 ∧ D.mostP k (code / 30 ^ k % 6) t1 (D.aft a (code / 30 ^ k % 6) (code / 30 ^ k / 6) c) = (w : Nat) ∧ Greedy D w k (code / 30 ^ k % 6) t1 (D.aft a (code / 30 ^ k % 6) (code / 30 ^ k / 6) c) (code % 30 ^ k) t9
theorem PlD.greedy {D : PlD} (hn : D.np ≤ 6) {w : Nat} : ∀ (k : Nat) {a t c code t9 : Nat}, D.mostP k a t c = (w : Nat) → D.Greedy w k a t c code t9 → D.runP k code a t c = some (w, t9) ∧ ∀ code2 t2, code2 < 30 ^ k → D.runP k code2 a t c = some (w, t2) → code ≤ code2
  | 0, a, t, c, code, t9, hm, hg => by
    have hm : (c : Int) = (w : Nat) := hm
    obtain ⟨h1, h2⟩ := hg
    refine ⟨?_, fun code2 t2 _ _ => by omega⟩
    have : c = w := by omega
    subst this; subst h2
    rfl
  | k + 1, a, t, c, code, t9, hm, hg => by
    obtain ⟨h1, h2, t1, h3, h4, h5⟩ := hg
    obtain ⟨g1, g2⟩ := greedy hn k h4 h5
    have em : code / 30 ^ k % 30 = code / 30 ^ k := Nat.mod_eq_of_lt h1
    refine ⟨?_, fun code2 t2 hc2 hr2 => ?_⟩
    · unfold runP
      rw [em, h3]
      show D.runP k code _ t1 _ = some (w, t9)
      rw [run_mod k (y := code % 30 ^ k) (by rw [Nat.mod_mod]), g1]
    · have h0 : 0 < 30 ^ k := Nat.pow_pos (by decide)
      have hx2 : code2 / 30 ^ k < 30 := by
        rw [Nat.div_lt_iff_lt_mul h0, Nat.mul_comm, ← Nat.pow_succ]; exact hc2
      have em2 : code2 / 30 ^ k % 30 = code2 / 30 ^ k := Nat.mod_eq_of_lt hx2
      unfold runP at hr2
      rw [em2] at hr2
      cases e : D.arr a (code2 / 30 ^ k % 6) t with
      | none => rw [e] at hr2; cases hr2
      | some t3 =>
        rw [e] at hr2
        have hr2 : D.runP k code2 (code2 / 30 ^ k % 6) t3 (D.aft a (code2 / 30 ^ k % 6) (code2 / 30 ^ k / 6) c) = some (w, t2) := hr2
        have a1 := most_ge k hr2 (Nat.le_refl _)
        have a2 : D.mostP k (code2 / 30 ^ k % 6) t3 (D.aft a (code2 / 30 ^ k % 6) (code2 / 30 ^ k / 6) c) ≤ (w : Nat) := by
          rcases most_mono hn (k := k) (a := code2 / 30 ^ k % 6) (t := t3) (aft_one (D := D) (a := a) (b := code2 / 30 ^ k % 6) (g := code2 / 30 ^ k / 6) (c := c)) with q | q
          · omega
          · have := mostL_le (D := D) (f := fun b t1 => D.mostP k b t1 (D.one a b c)) D.np _ t3 (arr_lt e) e
            exact Int.le_trans q (Int.le_trans this (Int.le_of_eq hm))
        have hmay : D.may w k a t c (code2 / 30 ^ k) := ⟨t3, e, Int.le_antisymm a2 a1⟩
        have hle : code / 30 ^ k ≤ code2 / 30 ^ k := Nat.not_lt.mp (fun q => h2 _ q hmay)
        have d1 := Nat.div_add_mod code (30 ^ k)
        have d2 := Nat.div_add_mod code2 (30 ^ k)
        rcases Nat.lt_or_eq_of_le hle with q | q
        · have := Nat.mul_le_mul_left (30 ^ k) (show code / 30 ^ k + 1 ≤ code2 / 30 ^ k from q)
          rw [Nat.mul_add, Nat.mul_one] at this
          have := Nat.mod_lt code h0
          omega
        · rw [← q] at hr2 e d2
          rw [h3] at e
          cases e
          rw [run_mod k (y := code2 % 30 ^ k) (by rw [Nat.mod_mod])] at hr2
          have := g2 _ _ (Nat.mod_lt _ h0) hr2
          omega
