/-! the model's order: finds -/
def sn (k j k2 code : Nat) : Prop := (1 ≤ k2 ∧ k2 < k ∧ code < 30 ^ k2) ∨ (k2 = k ∧ code < j)
def IvF (D : PlD) (P t c k j : Nat) (T : xS) : Prop := ∃ L W t9 C : Nat, T.1 36 0 51 = nI L ∧ L ≤ 3 ∧ ((L = 0 ∧ ∀ k2 code, sn k j k2 code → D.runP k2 code P t c = none) ∨ (1 ≤ L ∧ T.1 36 0 50 = nI W ∧ T.1 36 0 52 = nI t9 ∧ T.1 36 0 53 = nI C ∧ sn k j L C ∧ D.runP L C P t c = some (W, t9) ∧ ∀ k2 code w t2, sn k j k2 code → D.runP k2 code P t c = some (w, t2) → w < W ∨ (w = W ∧ (L < k2 ∨ (L = k2 ∧ C ≤ code)))))
theorem PlD.run_bd {D : PlD} (ok : D.ok) {k code a t c w t2 : Nat} (h : D.runP k code a t c = some (w, t2)) : w ≤ c + 9801 * k := by
  have h1 := PlD.most_ge k h (Nat.le_refl _)
  have h2 := PlD.most_bd ok k (a := a) (t := t) (c := c)
  omega
theorem sn_s {k j k2 code : Nat} (h : sn k (j + 1) k2 code) : sn k j k2 code ∨ (k2 = k ∧ code = j) := by
  rcases h with h | ⟨h1, h2⟩
  · exact Or.inl (Or.inl h)
  · by_cases e : code = j
    · exact Or.inr ⟨h1, e⟩
    · exact Or.inl (Or.inr ⟨h1, by omega⟩)
theorem sn_u {k j k2 code : Nat} (h : sn k j k2 code) : sn k (j + 1) k2 code := by
  rcases h with h | ⟨h1, h2⟩
  · exact Or.inl h
  · exact Or.inr ⟨h1, by omega⟩
/-- a code that can't be -/
theorem IvF.skip {D : PlD} {P t c k j : Nat} {T T2 : xS} (h : IvF D P t c k j T) (e : D.runP k j P t c = none) (h0 : T2.1 36 0 50 = T.1 36 0 50) (h1 : T2.1 36 0 51 = T.1 36 0 51) (h2 : T2.1 36 0 52 = T.1 36 0 52) (h3 : T2.1 36 0 53 = T.1 36 0 53) : IvF D P t c k (j + 1) T2 := by
  obtain ⟨L, W, t9, C, q1, q0, q⟩ := h
  refine ⟨L, W, t9, C, h1.trans q1, q0, ?_⟩
  rcases q with ⟨q2, q3⟩ | ⟨q2, q3, q4, q5, q6, q7, q8⟩
  · refine Or.inl ⟨q2, fun k2 code hs => ?_⟩
    rcases sn_s hs with g | ⟨g1, g2⟩
    · exact q3 k2 code g
    · rw [g1, g2]; exact e
  · refine Or.inr ⟨q2, h0.trans q3, h2.trans q4, h3.trans q5, sn_u q6, q7, fun k2 code w t2 hs hr => ?_⟩
    rcases sn_s hs with g | ⟨g1, g2⟩
    · exact q8 k2 code w t2 g hr
    · rw [g1, g2, e] at hr; cases hr
/-- a code that is no better -/
theorem IvF.keep {D : PlD} {P t c k j w0 t0 L W t9 C : Nat} {T T2 : xS} (q1 : T.1 36 0 51 = nI L) (q0 : L ≤ 3) (q : 1 ≤ L ∧ T.1 36 0 50 = nI W ∧ T.1 36 0 52 = nI t9 ∧ T.1 36 0 53 = nI C ∧ sn k j L C ∧ D.runP L C P t c = some (W, t9) ∧ ∀ k2 code w t2, sn k j k2 code → D.runP k2 code P t c = some (w, t2) → w < W ∨ (w = W ∧ (L < k2 ∨ (L = k2 ∧ C ≤ code)))) (e : D.runP k j P t c = some (w0, t0)) (hw : w0 ≤ W) (h0 : T2.1 36 0 50 = T.1 36 0 50) (h1 : T2.1 36 0 51 = T.1 36 0 51) (h2 : T2.1 36 0 52 = T.1 36 0 52) (h3 : T2.1 36 0 53 = T.1 36 0 53) : IvF D P t c k (j + 1) T2 := by
  obtain ⟨q2, q3, q4, q5, q6, q7, q8⟩ := q
  refine ⟨L, W, t9, C, h1.trans q1, q0, Or.inr ⟨q2, h0.trans q3, h2.trans q4, h3.trans q5, sn_u q6, q7, fun k2 code w t2 hs hr => ?_⟩⟩
  rcases sn_s hs with g | ⟨g1, g2⟩
  · exact q8 k2 code w t2 g hr
  · rw [g1, g2, e] at hr
    cases hr
    by_cases z : w0 < W
    · exact Or.inl z
    · refine Or.inr ⟨by omega, ?_⟩
      rw [g1, g2]
      rcases q6 with ⟨_, h, _⟩ | ⟨h, h'⟩
      · exact Or.inl h
      · exact Or.inr ⟨h, by omega⟩
/-- a better code -/
theorem IvF.take {D : PlD} {P t c k j w0 t0 : Nat} {T T2 : xS} (h : IvF D P t c k j T) (hk : 1 ≤ k) (k3 : k ≤ 3) (e : D.runP k j P t c = some (w0, t0)) (hw : ∀ L W : Nat, T.1 36 0 51 = nI L → L ≤ 3 → 1 ≤ L → T.1 36 0 50 = nI W → (∃ L2 C2 t2, D.runP L2 C2 P t c = some (W, t2) ∧ L2 ≤ 3) → W < w0) (h0 : T2.1 36 0 50 = nI w0) (h1 : T2.1 36 0 51 = nI k) (h2 : T2.1 36 0 52 = nI t0) (h3 : T2.1 36 0 53 = nI j) : IvF D P t c k (j + 1) T2 := by
  obtain ⟨L, W, t9, C, q1, q0, q⟩ := h
  refine ⟨k, w0, t0, j, h1, k3, Or.inr ⟨hk, h0, h2, h3, Or.inr ⟨rfl, by omega⟩, e, fun k2 code w t2 hs hr => ?_⟩⟩
  rcases sn_s hs with g | ⟨g1, g2⟩
  · rcases q with ⟨q2, q3⟩ | ⟨q2, q3, q4, q5, q6, q7, q8⟩
    · rw [q3 k2 code g] at hr; cases hr
    · have a := hw L W q1 q0 q2 q3 ⟨L, C, t9, q7, q0⟩
      have b := q8 k2 code w t2 g hr
      exact Or.inl (by omega)
  · rw [g1, g2, e] at hr
    cases hr
    exact Or.inr ⟨rfl, Or.inr ⟨g1.symm, by omega⟩⟩
theorem IvF.next {D : PlD} {P t c k : Nat} {T : xS} (h : IvF D P t c k (30 ^ k) T) (hk : 1 ≤ k) : IvF D P t c (k + 1) 0 T := by
  have sw : ∀ k2 code, sn (k + 1) 0 k2 code → sn k (30 ^ k) k2 code := by
    intro k2 code hs
    rcases hs with ⟨h1, h2, h3⟩ | ⟨h1, h2⟩
    · by_cases e : k2 = k
      · subst e; exact Or.inr ⟨rfl, h3⟩
      · exact Or.inl ⟨h1, by omega, h3⟩
    · omega
  have sw2 : ∀ k2 code, sn k (30 ^ k) k2 code → sn (k + 1) 0 k2 code := by
    intro k2 code hs
    rcases hs with ⟨h1, h2, h3⟩ | ⟨h1, h2⟩
    · exact Or.inl ⟨h1, by omega, h3⟩
    · subst h1; exact Or.inl ⟨hk, by omega, h2⟩
  obtain ⟨L, W, t9, C, q1, q0, q⟩ := h
  refine ⟨L, W, t9, C, q1, q0, ?_⟩
  rcases q with ⟨q2, q3⟩ | ⟨q2, q3, q4, q5, q6, q7, q8⟩
  · exact Or.inl ⟨q2, fun k2 code hs => q3 k2 code (sw k2 code hs)⟩
  · exact Or.inr ⟨q2, q3, q4, q5, sw2 _ _ q6, q7, fun k2 code w t2 hs hr => q8 k2 code w t2 (sw k2 code hs) hr⟩
