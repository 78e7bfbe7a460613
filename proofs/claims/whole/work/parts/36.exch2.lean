theorem IC.of {np t : Nat} {E M : xS} (w1 : ∀ p q, p < 6 → q < 6 → p ≠ q → M.1 51 0 (6 * p + q) = E.1 9 p q ∧ ∀ g, g < 4 → M.1 52 0 (4 * (6 * p + q) + g) = E.1 10 p (4 * q + g)) (w2 : ∀ d q, d < 4 → q < 6 → M.1 51 0 (36 + 6 * d + q) = E.1 9 (6 + d) q ∧ ∀ g, g < 4 → M.1 52 0 (4 * (36 + 6 * d + q) + g) = E.1 10 (6 + d) (4 * q + g)) (w3 : ∀ a q, a < 10 → q < 6 → (E.1 9 a q = -1 ∨ (q < np ∧ ∃ c, c ≤ t ∧ E.1 9 a q = nI c)) ∧ ∀ g, g < 4 → ∃ c, c ≤ 99 ∧ E.1 10 a (4 * q + g) = nI c) : IC np t (mix E M) := ⟨w1, w2, w3⟩
theorem IC.to {np t : Nat} {E M : xS} (h : IC np t (mix E M)) : (∀ p q, p < 6 → q < 6 → p ≠ q → M.1 51 0 (6 * p + q) = E.1 9 p q ∧ ∀ g, g < 4 → M.1 52 0 (4 * (6 * p + q) + g) = E.1 10 p (4 * q + g)) ∧ (∀ d q, d < 4 → q < 6 → M.1 51 0 (36 + 6 * d + q) = E.1 9 (6 + d) q ∧ ∀ g, g < 4 → M.1 52 0 (4 * (36 + 6 * d + q) + g) = E.1 10 (6 + d) (4 * q + g)) ∧ ∀ a q, a < 10 → q < 6 → (E.1 9 a q = -1 ∨ (q < np ∧ ∃ c, c ≤ t ∧ E.1 9 a q = nI c)) ∧ ∀ g, g < 4 → ∃ c, c ≤ 99 ∧ E.1 10 a (4 * q + g) = nI c := h
theorem IC.exch {n np t P D : Nat} {S T : xS} (hA : IA n (mix S T)) (hn : n ≤ 600) (h : IC np t (mix S T)) (hP : P < np) (hnp : np ≤ 6) (hD : D < 4) (ht : t ≤ 9999) (hy : S.1 0 0 13 = nI t) (hy2 : T.1 36 0 0 = nI t) : IC np t (mix (exC S P D) (tkM (knM T P) P D np)) := by
  have hP6 : P < 6 := by omega
  obtain ⟨h1, h2, h3⟩ := h.to
  have pr : ∀ g, g < 4 → mPrice T (nI P) (nI g) = pPrice S P (nI g) := fun g hg => pm_N hA hP6 hg
  have prb : ∀ g, g < 4 → ∃ c, 1 ≤ c ∧ c ≤ 99 ∧ pPrice S P (nI g) = nI c := fun g hg => pr_b hA hn hP6 hg
  -- the words before, of both sides
  have kpi : ∀ q, q < 6 → (knM T P).1 51 0 (pi P q) = aW S P (nI t) q ∧ ∀ g, g < 4 → (knM T P).1 52 0 (4 * pi P q + g) = aP S P q g := by
    intro q hq
    unfold aW aP
    by_cases e : q = P
    · subst e
      refine ⟨?_, fun g hg => ?_⟩
      · rw [knM_51, if_pos (show pi q q = 7 * q by show 6 * q + q = 7 * q; omega), if_pos rfl, hy2]
      · rw [knM_52 _ _ _ _ hg, if_pos (show pi q q = 7 * q by show 6 * q + q = 7 * q; omega), if_pos rfl, pr g hg]
    · have ne : ¬ pi P q = 7 * P := fun g => e (by have g : 6 * P + q = 7 * P := g; omega)
      refine ⟨?_, fun g hg => ?_⟩
      · rw [knM_51, if_neg ne, if_neg e]; exact (h1 P q hP6 hq (Ne.symm e)).1
      · rw [knM_52 _ _ _ _ hg, if_neg ne, if_neg e]; exact (h1 P q hP6 hq (Ne.symm e)).2 g hg
  have kpm : ∀ q, q < 6 → (knM T P).1 51 0 (pm D q) = S.1 9 (D + 6) q ∧ ∀ g, g < 4 → (knM T P).1 52 0 (4 * pm D q + g) = S.1 10 (D + 6) (4 * q + g) := by
    intro q hq
    have ne : ¬ pm D q = 7 * P := fun g => by have g : 36 + 6 * D + q = 7 * P := g; omega
    rw [Nat.add_comm D 6]
    refine ⟨?_, fun g hg => ?_⟩
    · rw [knM_51, if_neg ne]; exact (h2 D q hD hq).1
    · rw [knM_52 _ _ _ _ hg, if_neg ne]; exact (h2 D q hD hq).2 g hg
  obtain ⟨tk, tkw⟩ := tk_spec (S := knM T P) hP6 hD np hnp
  -- a word of a port that isn't there moves on neither side
  have far : ∀ q, q < 6 → ¬ q < np → S.1 9 (D + 6) q = -1 ∧ aW S P (nI t) q = -1 := by
    intro q hq hn
    refine ⟨?_, ?_⟩
    · rcases (h3 (D + 6) q (by omega) hq).1 with g | g
      · exact g
      · exact absurd g.1 hn
    · unfold aW
      rw [if_neg (by omega)]
      rcases (h3 P q (by omega) hq).1 with g | g
      · exact g
      · exact absurd g.1 hn
  have new : ∀ q, q < 6 → ((tkM (knM T P) P D np).1 51 0 (pm D q) = (exC S P D).1 9 (D + 6) q ∧ (tkM (knM T P) P D np).1 51 0 (pi P q) = (exC S P D).1 9 P q ∧ ∀ g, g < 4 → (tkM (knM T P) P D np).1 52 0 (4 * pm D q + g) = (exC S P D).1 10 (D + 6) (4 * q + g) ∧ (tkM (knM T P) P D np).1 52 0 (4 * pi P q + g) = (exC S P D).1 10 P (4 * q + g)) := by
    intro q hq
    obtain ⟨x1, x2, x3⟩ := exC_spec hy hP6 hD hq
    obtain ⟨y1, y2, y3⟩ := tk q hq
    by_cases c : q < np
    · simp only [c, true_and] at y1 y2 y3
      rw [x1, x2, y1, y2, (kpi q hq).1, (kpm q hq).1]
      refine ⟨rfl, rfl, fun g hg => ?_⟩
      rw [(x3 g hg).1, (x3 g hg).2, (y3 g hg).1, (y3 g hg).2, (kpi q hq).1, (kpm q hq).1, (kpi q hq).2 g hg, (kpm q hq).2 g hg]
      exact ⟨rfl, rfl⟩
    · obtain ⟨f1, f2⟩ := far q hq c
      simp only [c, false_and, if_false] at y1 y2 y3
      rw [f1, f2, if_neg (by decide)] at x1 x2
      rw [x1, x2, y1, y2, (kpi q hq).1, (kpm q hq).1, f1, f2]
      refine ⟨rfl, rfl, fun g hg => ?_⟩
      rw [(x3 g hg).1, (x3 g hg).2, (y3 g hg).1, (y3 g hg).2, f1, f2, if_neg (by decide), if_neg (by decide), (kpi q hq).2 g hg, (kpm q hq).2 g hg]
      exact ⟨rfl, rfl⟩
  have offw : ∀ w, w < 60 → (∀ q, q < 6 → w ≠ pm D q ∧ w ≠ pi P q) → (tkM (knM T P) P D np).1 51 0 w = T.1 51 0 w ∧ ∀ g, g < 4 → (tkM (knM T P) P D np).1 52 0 (4 * w + g) = T.1 52 0 (4 * w + g) := by
    intro w hw hq
    have n7 : ¬ w = 7 * P := fun e => (hq P hP6).2 (by show w = 6 * P + P; omega)
    refine ⟨?_, fun g hg => ?_⟩
    · rw [(tkw w hq).1, knM_51, if_neg n7]
    · rw [(tkw w hq).2 g hg, knM_52 _ _ _ _ hg, if_neg n7]
  have wb : ∀ (a : Nat) q, a < 10 → q < 6 → ((exC S P D).1 9 a q = -1 ∨ (q < np ∧ ∃ c, c ≤ t ∧ (exC S P D).1 9 a q = nI c)) ∧ ∀ g, g < 4 → ∃ c, c ≤ 99 ∧ (exC S P D).1 10 a (4 * q + g) = nI c := by
    intro a q ha hq
    have bA : (aW S P (nI t) q = -1 ∨ (q < np ∧ ∃ c, c ≤ t ∧ aW S P (nI t) q = nI c)) ∧ ∀ g, g < 4 → ∃ c, c ≤ 99 ∧ aP S P q g = nI c := by
      unfold aW aP
      by_cases e : q = P
      · subst e
        simp only [if_true]
        refine ⟨Or.inr ⟨hP, t, by omega, rfl⟩, fun g hg => ?_⟩
        obtain ⟨c, -, c2, c3⟩ := prb g hg
        exact ⟨c, c2, c3⟩
      · simp only [if_neg e]
        exact h3 P q (by omega) hq
    have bD := h3 (D + 6) q (by omega) hq
    obtain ⟨x1, x2, x3⟩ := exC_spec hy hP6 hD hq
    by_cases e1 : a = D + 6
    · subst e1
      refine ⟨?_, fun g hg => ?_⟩
      · rw [x1]
        by_cases c : S.1 9 (D + 6) q < aW S P (nI t) q
        · rw [if_pos c]; exact bA.1
        · rw [if_neg c]; exact bD.1
      · rw [(x3 g hg).1]
        by_cases c : S.1 9 (D + 6) q < aW S P (nI t) q
        · rw [if_pos c]; exact bA.2 g hg
        · rw [if_neg c]; exact bD.2 g hg
    · by_cases e2 : a = P
      · subst e2
        refine ⟨?_, fun g hg => ?_⟩
        · rw [x2]
          by_cases c : aW S a (nI t) q < S.1 9 (D + 6) q
          · rw [if_pos c]; exact bD.1
          · rw [if_neg c]; exact bA.1
        · rw [(x3 g hg).2]
          by_cases c : aW S a (nI t) q < S.1 9 (D + 6) q
          · rw [if_pos c]; exact bD.2 g hg
          · rw [if_neg c]; exact bA.2 g hg
      · have off : ∀ k j, (exC S P D).1 k a j = S.1 k a j := fun k j => exC_off (fun g => g.2.elim e2 e1)
        rw [off]
        refine ⟨(h3 a q ha hq).1, fun g hg => ?_⟩
        rw [off]; exact (h3 a q ha hq).2 g hg
  refine IC.of ?_ ?_ wb
  · intro p q hp hq hpq
    by_cases e : p = P
    · subst e
      exact ⟨(new q hq).2.1, fun g hg => ((new q hq).2.2 g hg).2⟩
    · have ow := offw (6 * p + q) (by omega) (fun q' hq' => ⟨by show 6 * p + q ≠ 36 + 6 * D + q'; omega, by show 6 * p + q ≠ 6 * P + q'; omega⟩)
      have off : ∀ k j, (exC S P D).1 k p j = S.1 k p j := fun k j => exC_off (fun g => g.2.elim e (fun g => by omega))
      rw [ow.1, off]
      refine ⟨(h1 p q hp hq hpq).1, fun g hg => ?_⟩
      rw [ow.2 g hg, off]; exact (h1 p q hp hq hpq).2 g hg
  · intro d q hd hq
    by_cases e : d = D
    · subst e
      rw [Nat.add_comm 6 d]
      exact ⟨(new q hq).1, fun g hg => ((new q hq).2.2 g hg).1⟩
    · have ow := offw (36 + 6 * d + q) (by omega) (fun q' hq' => ⟨by show 36 + 6 * d + q ≠ 36 + 6 * D + q'; omega, by show 36 + 6 * d + q ≠ 6 * P + q'; omega⟩)
      have off : ∀ k j, (exC S P D).1 k (6 + d) j = S.1 k (6 + d) j := fun k j => exC_off (fun g => g.2.elim (fun g => by omega) (fun g => by omega))
      rw [ow.1, off]
      refine ⟨(h2 d q hd hq).1, fun g hg => ?_⟩
      rw [ow.2 g hg, off]; exact (h2 d q hd hq).2 g hg
