/-! the order: the best, found by the class -/
def PlD.Best (D : PlD) (a t c n L W t9 C : Nat) : Prop := (L = 0 ∧ ∀ k code, 1 ≤ k → k ≤ n → code < 30 ^ k → D.runP k code a t c = none) ∨ (1 ≤ L ∧ L ≤ n ∧ C < 30 ^ L ∧ D.runP L C a t c = some (W, t9) ∧ ∀ k code w t2, 1 ≤ k → k ≤ n → code < 30 ^ k → D.runP k code a t c = some (w, t2) → w < W ∨ (w = W ∧ (L < k ∨ (L = k ∧ C ≤ code))))
theorem PlD.Best.uniq {D : PlD} {a t c n L W t9 C L2 W2 t92 C2 : Nat} (h : D.Best a t c n L W t9 C) (h2 : D.Best a t c n L2 W2 t92 C2) : L = L2 ∧ (1 ≤ L → W = W2 ∧ t9 = t92 ∧ C = C2) := by
  rcases h with ⟨e, h⟩ | ⟨h1, h3, h4, h5, h6⟩
  · rcases h2 with ⟨e2, g⟩ | ⟨g1, g3, g4, g5, g6⟩
    · exact ⟨e.trans e2.symm, fun q => by omega⟩
    · rw [h L2 C2 g1 g3 g4] at g5; cases g5
  · rcases h2 with ⟨e2, g⟩ | ⟨g1, g3, g4, g5, g6⟩
    · rw [g L C h1 h3 h4] at h5; cases h5
    · have a1 := h6 L2 C2 W2 t92 g1 g3 g4 g5
      have a2 := g6 L C W t9 h1 h3 h4 h5
      have eL : L = L2 := by omega
      subst eL
      have eC : C = C2 := by omega
      subst eC
      rw [h5] at g5
      cases g5
      exact ⟨rfl, fun _ => ⟨rfl, rfl, rfl⟩⟩
theorem PlD.findP_at {D : PlD} (hn : D.np ≤ 6) {a t c : Nat} : ∀ m, ((D.findP a t c m).1 = -1 ∧ (D.findP a t c m).2 = 0 ∧ ∀ k, 1 ≤ k → k ≤ m → D.mostP k a t c = -1) ∨ (1 ≤ (D.findP a t c m).2 ∧ (D.findP a t c m).2 ≤ m ∧ 0 ≤ (D.findP a t c m).1 ∧ D.mostP (D.findP a t c m).2 a t c = (D.findP a t c m).1 ∧ ∀ k, 1 ≤ k → k ≤ m → D.mostP k a t c ≤ (D.findP a t c m).1 ∧ (D.mostP k a t c = (D.findP a t c m).1 → (D.findP a t c m).2 ≤ k))
  | 0 => Or.inl ⟨rfl, rfl, fun k h1 h2 => by omega⟩
  | m + 1 => by
    have ih := PlD.findP_at hn (a := a) (t := t) (c := c) m
    have e : D.findP a t c (m + 1) = if (D.findP a t c m).1 < D.mostP (m + 1) a t c then (D.mostP (m + 1) a t c, m + 1) else D.findP a t c m := rfl
    rw [e]
    generalize D.findP a t c m = F at ih ⊢
    have b : D.mostP (m + 1) a t c = -1 ∨ 0 ≤ D.mostP (m + 1) a t c := by
      rcases PlD.most_at hn (m + 1) (a := a) (t := t) (c := c) with q | ⟨w, _, _, _, _, q⟩
      · exact Or.inl q
      · exact Or.inr (by omega)
    by_cases q : F.1 < D.mostP (m + 1) a t c
    · rw [if_pos q]
      refine Or.inr ⟨by show 1 ≤ m + 1; omega, Nat.le_refl _, ?_, rfl, fun k h1 h2 => ?_⟩
      · show 0 ≤ D.mostP (m + 1) a t c
        rcases ih with ⟨i1, _⟩ | ⟨_, _, i3, _⟩ <;> omega
      · show D.mostP k a t c ≤ D.mostP (m + 1) a t c ∧ (D.mostP k a t c = D.mostP (m + 1) a t c → m + 1 ≤ k)
        by_cases ek : k = m + 1
        · subst ek; exact ⟨Int.le_refl _, fun _ => Nat.le_refl _⟩
        · rcases ih with ⟨i1, _, i3⟩ | ⟨_, _, _, _, i5⟩
          · have := i3 k h1 (by omega); exact ⟨by omega, fun z => by omega⟩
          · have := (i5 k h1 (by omega)).1; exact ⟨by omega, fun z => by omega⟩
    · rw [if_neg q]
      rcases ih with ⟨i1, i2, i3⟩ | ⟨i1, i2, i3, i4, i5⟩
      · refine Or.inl ⟨i1, i2, fun k h1 h2 => ?_⟩
        by_cases ek : k = m + 1
        · subst ek; omega
        · exact i3 k h1 (by omega)
      · refine Or.inr ⟨i1, by omega, i3, i4, fun k h1 h2 => ?_⟩
        by_cases ek : k = m + 1
        · subst ek; exact ⟨by omega, fun _ => by omega⟩
        · exact i5 k h1 (by omega)
theorem PlD.best_of {D : PlD} (hn : D.np ≤ 6) {a t c n t9 C : Nat} (hg : D.Greedy (D.findP a t c n).1.toNat (D.findP a t c n).2 a t c C t9) (hC : C < 30 ^ (D.findP a t c n).2) : D.Best a t c n (D.findP a t c n).2 (D.findP a t c n).1.toNat t9 C := by
  rcases PlD.findP_at hn (a := a) (t := t) (c := c) n with ⟨i1, i2, i3⟩ | ⟨i1, i2, i3, i4, i5⟩
  · refine Or.inl ⟨i2, fun k code h1 h2 h3 => ?_⟩
    cases e : D.runP k code a t c with
    | none => rfl
    | some p =>
      have := PlD.most_ge k (show D.runP k code a t c = some (p.1, p.2) from e) (Nat.le_refl _)
      rw [i3 k h1 h2] at this
      omega
  · have hm : D.mostP (D.findP a t c n).2 a t c = ((D.findP a t c n).1.toNat : Nat) := by rw [i4]; omega
    obtain ⟨g1, g2⟩ := PlD.greedy hn _ hm hg
    refine Or.inr ⟨i1, i2, hC, g1, fun k code w t2 h1 h2 h3 h4 => ?_⟩
    have a1 := PlD.most_ge k h4 (Nat.le_refl _)
    have a2 := i5 k h1 h2
    by_cases q : w < (D.findP a t c n).1.toNat
    · exact Or.inl q
    · have ew : w = (D.findP a t c n).1.toNat := by omega
      refine Or.inr ⟨ew, ?_⟩
      have a3 := a2.2 (by omega)
      rcases Nat.lt_or_eq_of_le a3 with z | z
      · exact Or.inl z
      · refine Or.inr ⟨z, ?_⟩
        rw [← z] at h3 h4
        rw [ew] at h4
        exact g2 code t2 h3 h4
