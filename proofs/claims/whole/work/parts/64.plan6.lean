/-! the class's planner: learn -/
def fgC (S : xS) : xS := xupd (xupd (xupd (xupd (xupd (xupd S 9 10 0 (-1)) 9 10 1 (-1)) 9 10 2 (-1)) 9 10 3 (-1)) 9 10 4 (-1)) 9 10 5 (-1)
theorem ct_forget {d : Nat} {S : xS} {Q : xQ} (h : Q none (fgC S)) : CT (d + 1) 0 0 m_News_forget [.inr (.inr (8, 10))] S Q := by
  refine ct_of (xmok_all (by decide)) rfl (V_go (pc := 0) pk_6 [] 20 ?_)
  exact ct_fill_9 h
theorem fgC_9 (S : xS) {q : Nat} (hq : q < 6) : (fgC S).1 9 10 q = -1 := by
  match q, hq with
  | 0, _ => rfl
  | 1, _ => rfl
  | 2, _ => rfl
  | 3, _ => rfl
  | 4, _ => rfl
  | 5, _ => rfl
theorem fgC_off (S : xS) {k i j : Nat} (h : ¬ (k = 9 ∧ i = 10)) : (fgC S).1 k i j = S.1 k i j := by
  have h2 : ∀ c, ¬ (k = 9 ∧ j = c ∧ i = 10) := fun c q => h ⟨q.1, q.2.2⟩
  unfold fgC
  simp (decide := true) only [xu, true_and, false_and, and_true, and_false, if_true, if_false, h2]
def lnR (S S' : xS) (P D : Nat) (t la : Int32) : Prop :=
  (∀ k i j, ¬ ((k = 9 ∨ k = 10) ∧ i = 10) → ¬ (k = 31 ∧ 4 ≤ j ∧ j ≤ 8) → S'.1 k i j = S.1 k i j) ∧ S'.2 = S.2 ∧
  (S'.1 31 0 4 = nI P ∧ S'.1 31 0 5 = t ∧ S'.1 31 0 7 = S.1 12 D 3 ∧ S'.1 31 0 8 = la) ∧
  S'.1 31 0 6 = S.1 12 D 4 + S.1 13 D 0 * S'.1 10 10 (4 * P + 0) + S.1 13 D 1 * S'.1 10 10 (4 * P + 1) + S.1 13 D 2 * S'.1 10 10 (4 * P + 2) + S.1 13 D 3 * S'.1 10 10 (4 * P + 3) ∧
  (∀ q, q < 6 → S'.1 9 10 q = if S.1 9 (D + 6) q < S.1 9 P q then S.1 9 P q else S.1 9 (D + 6) q) ∧
  ∀ q, q < 6 → ¬ S'.1 9 10 q = -1 → ∀ g, g < 4 → S'.1 10 10 (4 * q + g) = if S.1 9 (D + 6) q < S.1 9 P q then S.1 10 P (4 * q + g) else S.1 10 (D + 6) (4 * q + g)
def csL (N : xS) (P D : Nat) : Nat → Int32
  | 0 => N.1 12 D 4
  | j + 1 => csL N P D j + N.1 13 D j * N.1 10 10 (4 * P + j)
theorem ct_learn {d P D : Nat} {t la : Int32} {S : xS} {Q : xQ} (hP : P < 6) (hD : D < 4) (hp : S.1 12 D 0 = nI P) (hu : ∀ q, q < 6 → S.1 9 (D + 6) q = -1 ∨ ∃ c, c < 2 ^ 31 ∧ S.1 9 (D + 6) q = nI c) (h : ∀ S', lnR S S' P D t la → Q none S') : CT (d + 3) 0 0 m_Planner_learn [P0, .inr (.inr (12, D)), .inl t, .inl la] S Q := by
  have eP : (nI P).toNatClampNeg = P := nI_clamp (by omega)
  have tail : ∀ N : xS, (∀ k i j, ¬ ((k = 9 ∨ k = 10) ∧ i = 10) → ¬ (k = 31 ∧ 4 ≤ j ∧ j ≤ 8) → N.1 k i j = S.1 k i j) → N.2 = S.2 → (N.1 31 0 4 = nI P ∧ N.1 31 0 5 = t ∧ N.1 31 0 7 = S.1 12 D 3 ∧ N.1 31 0 8 = la) → (∀ q, q < 6 → N.1 9 10 q = if S.1 9 (D + 6) q < S.1 9 P q then S.1 9 P q else S.1 9 (D + 6) q) → (∀ q, q < 6 → ¬ N.1 9 10 q = -1 → ∀ g, g < 4 → N.1 10 10 (4 * q + g) = if S.1 9 (D + 6) q < S.1 9 P q then S.1 10 P (4 * q + g) else S.1 10 (D + 6) (4 * q + g)) → V (d + 3) 0 0 m_Planner_learn 66 [some P0, some (.inr (.inr (12, D))), some (.inl t), some (.inl la), none] [] N Q := by
    intro N n1 n2 n3 n4 n5
    have loop : ∀ m j, j + m = 4 → V (d + 3) 0 0 m_Planner_learn 77 [some P0, some (.inr (.inr (12, D))), some (.inl t), some (.inl la), some (.inl (nI j))] [] (xupd N 31 0 6 (csL N P D j)) Q := by
      intro m
      induction m with
      | zero =>
        intro j hj
        obtain rfl : j = 4 := by omega
        refine V_go pk_11 [77] 40 ?_
        refine And.intro (fun _ => ?_) (fun q => absurd (Int32.le_refl (nI 4)) q)
        refine h _ ⟨fun k i j h1 h2 => (if_neg (fun q => h2 ⟨q.1, by omega⟩)).trans (n1 k i j h1 h2), n2, n3, ?_, n4, n5⟩
        show csL N P D 4 = _
        rw [← n1 12 D 4 (by omega) (by omega), ← n1 13 D 0 (by omega) (by omega), ← n1 13 D 1 (by omega) (by omega), ← n1 13 D 2 (by omega) (by omega), ← n1 13 D 3 (by omega) (by omega)]
        rfl
      | succ m ih =>
        intro j hj
        have ej : (nI j).toNatClampNeg = j := nI_clamp (by omega)
        have ih := ih (j + 1) (by omega)
        have e : csL N P D (j + 1) = csL N P D j + N.1 13 D j * N.1 10 10 (4 * P + j) := rfl
        rw [e, ← nI_1] at ih
        generalize csL N P D j = c at ih ⊢
        refine V_go pk_11 [77] 60 ?_
        refine And.intro (fun q => ?_) (fun _ => ?_)
        · exact absurd ((nI_leI (a := 4) (by omega) (by omega)).mp q) (by omega)
        · refine And.intro (vi (N := 4) (by omega)) ?_
          rw [ej]
          show CT (d + 2) 0 0 m_News_priceOf [.inr (.inr (8, 10)), .inl (N.1 31 0 4), .inl (nI j)] (xupd N 31 0 6 c) _
          rw [n3.1]
          refine ct_News_priceOf (inC_nI hP) (inC_nI (by omega)) ?_
          rw [eP, ej]
          have ih2 : V (d + 3) 0 0 m_Planner_learn 77 [some P0, some (.inr (.inr (12, D))), some (.inl t), some (.inl la), some (.inl (nI j + 1))] [] (xupd (xupd N 31 0 6 c) 31 0 6 (c + N.1 13 D j * N.1 10 10 (4 * P + j))) Q := by
            rw [xupd_2]; exact ih
          exact ih2
    refine V_go pk_11 [77] 60 ?_
    exact loop 4 0 (by omega)
  have key : ∀ s1 : xS, (∀ k i j, ¬ (k = 31 ∧ 4 ≤ j ∧ j ≤ 8) → s1.1 k i j = S.1 k i j) → s1.2 = S.2 → (s1.1 31 0 4 = nI P ∧ s1.1 31 0 5 = t ∧ s1.1 31 0 7 = S.1 12 D 3 ∧ s1.1 31 0 8 = la) → V (d + 3) 0 0 m_Planner_learn 26 [some P0, some (.inr (.inr (12, D))), some (.inl t), some (.inl la), none] [] s1 Q := by
    intro s1 u1 u2 u3
    have o1 : ∀ k i j, ¬ ((k = 9 ∨ k = 10) ∧ i = 10) → (hrC (fgC s1) 10 (D + 6) 6).1 k i j = s1.1 k i j := fun k i j h => (hrC_off _ _ _ 6 k i j (fun q => h ⟨Or.inl q.1, q.2⟩) (fun q => h ⟨Or.inr q.1, q.2⟩)).trans (fgC_off s1 (fun q => h ⟨Or.inl q.1, q.2⟩))
    have n9 : ∀ q, q < 6 → (hrC (fgC s1) 10 (D + 6) 6).1 9 10 q = S.1 9 (D + 6) q := by
      intro q hq
      rw [hrC_9 (by omega), fgC_9 s1 hq, fgC_off s1 (by omega), u1 9 (D + 6) q (by omega)]
      rcases hu q hq with e | ⟨c, hc, e⟩
      · rw [e, if_neg (fun z => Int32.lt_irrefl z.2)]
      · rw [e, if_pos ⟨hq, Int32.lt_of_lt_of_le (show (-1 : Int32) < 0 by decide) (nI_pos' hc)⟩]
    have n10 : ∀ q, q < 6 → ¬ S.1 9 (D + 6) q = -1 → ∀ g, g < 4 → (hrC (fgC s1) 10 (D + 6) 6).1 10 10 (4 * q + g) = S.1 10 (D + 6) (4 * q + g) := by
      intro q hq hn g hg
      have ed : (4 * q + g) / 4 = q := by omega
      rw [hrC_10 (by omega), ed, fgC_9 s1 hq, fgC_off s1 (k := 9) (by omega), fgC_off s1 (k := 10) (by omega), u1 9 (D + 6) q (by omega), u1 10 (D + 6) _ (by omega)]
      rcases hu q hq with e | ⟨c, hc, e⟩
      · exact absurd e hn
      · rw [e, if_pos ⟨hq, Int32.lt_of_lt_of_le (show (-1 : Int32) < 0 by decide) (nI_pos' hc)⟩]
    have n31 : ∀ j, (hrC (fgC s1) 10 (D + 6) 6).1 31 0 j = s1.1 31 0 j := fun j => o1 31 0 j (by omega)
    have n2 : (hrC (fgC s1) 10 (D + 6) 6).2 = S.2 := (hrC_2 _ _ _ 6).trans u2
    refine V_go pk_11 [66] 90 ?_
    refine ct_forget ?_
    refine ct_hear ?_
    have n4 := (n31 4).trans u3.1
    generalize hrC (fgC s1) 10 (D + 6) 6 = N at o1 n9 n10 n31 n2 n4 ⊢
    refine And.intro (by rw [n4]; exact vi (N := 6) hP) ?_
    rw [n4, eP]
    refine ct_hear ?_
    have oN : ∀ k i j, ¬ ((k = 9 ∨ k = 10) ∧ i = 10) → (hrC N 10 P 6).1 k i j = N.1 k i j := fun k i j h => hrC_off _ _ _ 6 k i j (fun q => h ⟨Or.inl q.1, q.2⟩) (fun q => h ⟨Or.inr q.1, q.2⟩)
    have m9 : ∀ q, q < 6 → (hrC N 10 P 6).1 9 10 q = if S.1 9 (D + 6) q < S.1 9 P q then S.1 9 P q else S.1 9 (D + 6) q := by
      intro q hq
      rw [hrC_9 (by omega), n9 q hq, o1 9 P q (by omega), u1 9 P q (by omega)]
      by_cases z : S.1 9 (D + 6) q < S.1 9 P q
      · rw [if_pos ⟨hq, z⟩, if_pos z]
      · rw [if_neg (fun y => z y.2), if_neg z]
    refine tail _ (fun k i j h1 h2 => (oN k i j h1).trans ((o1 k i j h1).trans (u1 k i j h2))) ((hrC_2 _ _ _ 6).trans n2) ⟨(oN 31 0 4 (by omega)).trans n4, (oN 31 0 5 (by omega)).trans ((n31 5).trans u3.2.1), (oN 31 0 7 (by omega)).trans ((n31 7).trans u3.2.2.1), (oN 31 0 8 (by omega)).trans ((n31 8).trans u3.2.2.2)⟩ m9 (fun q hq hn g hg => ?_)
    have ed : (4 * q + g) / 4 = q := by omega
    rw [m9 q hq] at hn
    rw [hrC_10 (by omega), ed, n9 q hq, o1 9 P q (by omega), u1 9 P q (by omega), o1 10 P _ (by omega), u1 10 P _ (by omega)]
    by_cases z : S.1 9 (D + 6) q < S.1 9 P q
    · rw [if_pos ⟨hq, z⟩, if_pos z]
    · rw [if_neg z] at hn
      rw [if_neg (fun y => z y.2), if_neg z]
      exact n10 q hq hn g hg
  refine ct_of (xmok_all (by decide)) rfl (V_go (pc := 0) pk_11 [26] 90 ?_)
  refine key _ (fun k i j h => ?_) rfl ⟨hp, rfl, rfl, rfl⟩
  refine (if_neg (fun q => h ⟨q.1, by omega⟩)).trans ((if_neg (fun q => h ⟨q.1, by omega⟩)).trans ((if_neg (fun q => h ⟨q.1, by omega⟩)).trans (if_neg (fun q => h ⟨q.1, by omega⟩))))
