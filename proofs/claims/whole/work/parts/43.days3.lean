/-! days: both sides stay alike -/
theorem frMix2 {l1 l2 l : List Nat} {S T A B : xS} (hA : Fr (fl l1) S A) (hB : Fr (fl l2) T B) (h1 : l1.all (fun q => l.elem q) = true) (h2 : l2.all (fun q => l.elem q) = true) : Fr (fl l) (mix S T) (mix A B) := by
  have sub : ∀ {l0 : List Nat}, l0.all (fun q => l.elem q) = true → ∀ k j, fl l k j = false → fl l0 k j = false := fun {l0} h0 k j hf => by
    cases hb : fl l0 k j with
    | false => rfl
    | true =>
      have := List.all_eq_true.mp h0 _ (List.elem_iff.mp hb)
      rw [show fl l k j = true from this] at hf
      cases hf
  refine ⟨fun k i j hf => ?_, ?_⟩
  · show cond (Nat.ble 36 k && Nat.ble k 74) (B.1 k i j) (A.1 k i j) = cond (Nat.ble 36 k && Nat.ble k 74) (T.1 k i j) (S.1 k i j)
    rw [hA.1 k i j (sub h1 k j hf), hB.1 k i j (sub h2 k j hf)]
  · show (fun k i j => cond (Nat.ble 36 k && Nat.ble k 74) (B.2 k i j) (A.2 k i j)) = fun k i j => cond (Nat.ble 36 k && Nat.ble k 74) (T.2 k i j) (S.2 k i j)
    rw [hA.2, hB.2]
def RD (n np nd t : Nat) (S T : xS) : Prop := (IA n (mix S T) ∧ IB n np nd t (mix S T) ∧ IC np t (mix S T)) ∧ S.1 0 0 13 = nI t ∧ T.1 36 0 0 = nI t ∧ T.1 36 0 1 = nI np
theorem IB.back {n np nd t D : Nat} {S : xS} (h : IB n np nd t S) (hD : D < nd) (hl : ¬ S.1 12 D 0 = -1) : IB n np nd t (xupd (xupd S 12 D 1 (-1)) 44 0 D (-1)) := by
  intro d hd
  refine ⟨fun q => ?_, fun q => ?_⟩
  · obtain ⟨⟨a1, a2, a3⟩, a7, a8, a9⟩ := (h d hd).1 q
    by_cases e : d = D
    · subst e
      refine ⟨⟨a1, ?_, a3⟩, Or.inl (a7.resolve_right (fun g => hl g.2.1)), Or.inl ?_, a9⟩ <;> simp (decide := true) only [xu, true_and, false_and, and_true, and_false, if_true, if_false]
    · refine ⟨⟨a1, ?_, a3⟩, ?_, ?_, a9⟩
      · simp (decide := true) only [xu, true_and, false_and, and_true, and_false, if_true, if_false, e]; exact a2
      · simp (decide := true) only [xu, true_and, false_and, and_true, and_false, if_true, if_false, e]; exact a7
      · simp (decide := true) only [xu, true_and, false_and, and_true, and_false, if_true, if_false, e]; exact a8
  · have e : ¬ d = D := by omega
    obtain ⟨a1, a2, a3⟩ := (h d hd).2 q
    refine ⟨a1, ?_, a3⟩
    simp (decide := true) only [xu, true_and, false_and, and_true, and_false, if_true, if_false, e]; exact a2
theorem nI_m {c : Nat} (h : c < 2 ^ 31) : ¬ nI c = -1 := fun g => by
  have := congrArg Int32.toInt g
  rw [nI_toInt h, show (-1 : Int32).toInt = -1 from rfl] at this
  omega
theorem RD.one {n np nd t D : Nat} {S T : xS} (h : RD n np nd t S T) (hn : n ≤ 600) (hnp : np ≤ 6) (hnd : nd ≤ 4) (ht : t ≤ 9999) (hD : D < nd) : RD n np nd t (b1C S D) (b1M T np D) := by
  obtain ⟨⟨hA, hB, hC⟩, h13, h36, hp⟩ := id h
  obtain ⟨⟨-, a2, -⟩, a7, -⟩ := (hB D (by omega)).1 hD
  have a2 : T.1 44 0 D = S.1 12 D 1 := a2
  have a7 : (S.1 12 D 2 = 0 ∧ ∃ p, p < np ∧ S.1 12 D 0 = nI p ∧ T.1 43 0 D = nI p) ∨ (S.1 12 D 2 = 1 ∧ S.1 12 D 0 = -1 ∧ S.1 12 D 1 = -1) := a7
  by_cases c : S.1 12 D 1 = nI t
  · have cm : T.1 44 0 D = T.1 36 0 0 := by rw [a2, c, h36]
    obtain ⟨-, P, hP, p1, p2⟩ := a7.resolve_right (fun g => nI_m (by omega) (c.symm.trans g.2.2))
    have nP : ¬ S.1 12 D 0 = -1 := by rw [p1]; exact nI_m (by omega)
    have cc : (¬ S.1 12 D 0 = -1 ∧ ¬ S.1 12 D 1 = -1) ∧ S.1 12 D 1 = S.1 0 0 13 := ⟨⟨nP, by rw [c]; exact nI_m (by omega)⟩, by rw [c, h13]⟩
    have e1 : b1C S D = exC (xupd S 12 D 1 (-1)) P D := by
      unfold b1C
      rw [if_pos cc, p1, nI_clamp (show P < 2 ^ 31 by omega)]
    have e2 : b1M T np D = tkM (knM (xupd T 44 0 D (-1)) P) P D np := by
      unfold b1M
      rw [if_pos cm, p2, nI_clamp (show P < 2 ^ 31 by omega)]
    rw [e1, e2]
    have em : mix (xupd S 12 D 1 (-1)) (xupd T 44 0 D (-1)) = xupd (xupd (mix S T) 12 D 1 (-1)) 44 0 D (-1) := by rw [mix_up2 rfl, mix_up1 rfl]
    have f0 : Fr (fl [13001, 44]) (mix S T) (mix (xupd S 12 D 1 (-1)) (xupd T 44 0 D (-1))) := by rw [em]; exact (Fr.rf.up rfl).up rfl
    have hA' := hA.fr f0 (by decide)
    have hC' := hC.fr f0 (by decide)
    have hB' : IB n np nd t (mix (xupd S 12 D 1 (-1)) (xupd T 44 0 D (-1))) := by rw [em]; exact hB.back hD nP
    have g13 : (xupd S 12 D 1 (-1)).1 0 0 13 = nI t := h13
    have g36 : (xupd T 44 0 D (-1)).1 36 0 0 = nI t := h36
    have gp : (xupd T 44 0 D (-1)).1 36 0 1 = nI np := hp
    generalize xupd S 12 D 1 (-1) = S1 at hA' hB' hC' g13 ⊢
    generalize xupd T 44 0 D (-1) = T1 at hA' hB' hC' g36 gp ⊢
    have fC := exC_fr S1 P D
    have fM := tkk_fr T1 P D np
    have key := IC.exch (D := D) (P := P) hA' hn hC' hP hnp (by omega) ht g13 g36
    have fr : Fr (fl [9, 10, 51, 52]) (mix S1 T1) (mix (exC S1 P D) (tkM (knM T1 P) P D np)) := frMix2 fC fM (by decide) (by decide)
    exact ⟨⟨hA'.fr fr (by decide), hB'.fr fr (by decide), key⟩, (fC.1 0 0 13 rfl).trans g13, (fM.1 36 0 0 rfl).trans g36, (fM.1 36 0 1 rfl).trans gp⟩
  · have e1 : b1C S D = S := by
      unfold b1C
      rw [if_neg (fun g => c (by rw [← h13]; exact g.2))]
    have e2 : b1M T np D = T := by
      unfold b1M
      rw [if_neg (fun g => c (by rw [← a2, g, h36]))]
    rw [e1, e2]; exact h
theorem RD.all {n np nd t : Nat} {S T : xS} (h : RD n np nd t S T) (hn : n ≤ 600) (hnp : np ≤ 6) (hnd : nd ≤ 4) (ht : t ≤ 9999) : ∀ m, m ≤ nd → RD n np nd t (biC S m) (biM T np m)
  | 0, _ => h
  | m + 1, hm => (RD.all h hn hnp hnd ht m (by omega)).one hn hnp hnd ht (by omega)
theorem RD.day {n np nd t : Nat} {S T : xS} (h : RD n np nd t S T) : RD n np nd (t + 1) (xupd S 0 0 13 (S.1 0 0 13 + 1)) (xupd T 36 0 0 (T.1 36 0 0 + 1)) := by
  obtain ⟨⟨hA, hB, hC⟩, h13, h36, hp⟩ := h
  have em : mix (xupd S 0 0 13 (S.1 0 0 13 + 1)) (xupd T 36 0 0 (T.1 36 0 0 + 1)) = xupd (xupd (mix S T) 0 0 13 (S.1 0 0 13 + 1)) 36 0 0 (T.1 36 0 0 + 1) := by rw [mix_up2 rfl, mix_up1 rfl]
  have f0 : Fr (fl [1013, 37000]) (mix S T) (mix (xupd S 0 0 13 (S.1 0 0 13 + 1)) (xupd T 36 0 0 (T.1 36 0 0 + 1))) := by rw [em]; exact (Fr.rf.up rfl).up rfl
  have hB' := hB.fr f0 (by decide)
  have hC' := hC.fr f0 (by decide)
  refine ⟨⟨hA.fr f0 (by decide), ?_, ?_⟩, ?_, ?_, hp⟩
  · intro d hd
    refine ⟨fun q => ?_, (hB' d hd).2⟩
    obtain ⟨a1, a2, a3, a4, a5, a6, c, a7, a8⟩ := (hB' d hd).1 q
    exact ⟨a1, a2, a3, a4, a5, a6, c, by omega, a8⟩
  · obtain ⟨a1, a2, a3⟩ := hC'
    exact ⟨a1, a2, fun a q ha hq => ⟨(a3 a q ha hq).1.imp id (fun ⟨g, c, g1, g2⟩ => ⟨g, c, by omega, g2⟩), (a3 a q ha hq).2⟩⟩
  · show S.1 0 0 13 + 1 = _
    rw [h13, nI_1]
  · show T.1 36 0 0 + 1 = _
    rw [h36, nI_1]
theorem RD.days {n np nd t : Nat} {S T : xS} (h : RD n np nd t S T) (hn : n ≤ 600) (hnp : np ≤ 6) (hnd : nd ≤ 4) : ∀ m, t + m ≤ 9999 → RD n np nd (t + m) (dyC S nd m) (dyM T np nd m)
  | 0, _ => h
  | m + 1, hm => (RD.days h hn hnp hnd m (by omega)).day.all hn hnp hnd hm nd (Nat.le_refl _)
theorem dyM_off (S : xS) (np nd : Nat) : ∀ m k i j, ¬ (36 ≤ k ∧ k ≤ 74) → (dyM S np nd m).1 k i j = S.1 k i j
  | 0, _, _, _, _ => rfl
  | m + 1, k, i, j, h => by
    show (biM (xupd (dyM S np nd m) 36 0 0 ((dyM S np nd m).1 36 0 0 + 1)) np nd).1 k i j = _
    rw [(biM_fr _ np nd).1 k i j (fl_no36 (by decide) h), xu, if_neg (fun g => h (by rw [g.1]; decide))]
    exact dyM_off S np nd m k i j h
theorem cm_days {dp n np nd nv nt r t : Nat} {S : xS} (hn : n ≤ 600) (hN : IN np nd nv nt r t S) (hA : IA n S) (hB : IB n np nd t S) (hC : IC np t S) {x : Int32} : CT (dp + 6) 0 0 m_C_days [C0, .inl x] S (fun a S1 => CT (dp + 6) 0 0 m_M_days [M0, .inl x] S1 (fun a' S2 => a' = a ∧ (∃ t', IN np nd nv nt r t' S2 ∧ IA n S2 ∧ IB n np nd t' S2 ∧ IC np t' S2) ∧ Fr (fl [9, 10, 13001, 1013, 51, 52, 44, 37000]) S S2)) := by
  obtain ⟨⟨b1, b2, b3, b4, b5, b6⟩, ⟨e1, e2⟩, ⟨e3, e4⟩, ⟨e7, e8⟩, e9, e11, e13, e14⟩ := id hN
  have keep : ∃ t', IN np nd nv nt r t' S ∧ IA n S ∧ IB n np nd t' S ∧ IC np t' S := ⟨t, hN, hA, hB, hC⟩
  have hpC : pC nd S := fun D hD => by
    obtain ⟨-, a7, -⟩ := (hB D (by omega)).1 hD
    exact a7.elim (fun ⟨_, p, g1, g2, _⟩ => Or.inr ⟨p, by omega, g2⟩) (fun g => Or.inl g.2.1)
  have hpM : pM nd S := fun D hD => by
    obtain ⟨⟨-, a2, -⟩, a7, -⟩ := (hB D (by omega)).1 hD
    exact a7.elim (fun ⟨_, p, g1, _, g3⟩ => Or.inr ⟨p, by omega, g3⟩) (fun g => Or.inl (a2.trans g.2.2))
  refine ct_C_days e3 b2 e13 b6 hpC (fun q => ?_) (fun q q2 => ?_) (fun q q2 => ?_)
  · exact ct_M_days e4 b2 e2 b1 e14 b6 hpM (fun _ => ⟨rfl, keep, Fr.rf⟩) (fun g => absurd g q) (fun g => absurd g q)
  · exact ct_M_days e4 b2 e2 b1 e14 b6 hpM (fun g => absurd q g) (fun _ _ => ⟨rfl, keep, Fr.rf⟩) (fun _ g => absurd g (by omega))
  · have f1 := dyC_fr S nd x.toNatClampNeg
    have h36 : ∀ k i j, 36 ≤ k → k ≤ 74 → (dyC S nd x.toNatClampNeg).1 k i j = S.1 k i j := fun k i j h1 h2 => f1.1 k i j (fl_36 (by decide) h1 h2)
    have hmx : mix S (dyC S nd x.toNatClampNeg) = S := mix_eq h36 f1.2
    have base : RD n np nd t S (dyC S nd x.toNatClampNeg) := ⟨by rw [hmx]; exact ⟨hA, hB, hC⟩, e13, (h36 36 0 0 (by decide) (by decide)).trans e14, (h36 36 0 1 (by decide) (by decide)).trans e2⟩
    have fin := base.days hn b1 b2 x.toNatClampNeg q2
    generalize dyC S nd x.toNatClampNeg = S1 at f1 h36 fin ⊢
    refine ct_M_days ((h36 36 0 8 (by decide) (by decide)).trans e4) b2 ((h36 36 0 1 (by decide) (by decide)).trans e2) b1 ((h36 36 0 0 (by decide) (by decide)).trans e14) b6 (fun D hD => by rw [h36 44 0 D (by decide) (by decide), h36 43 0 D (by decide) (by decide)]; exact hpM D hD) (fun g => absurd q g) (fun _ g => absurd g (by omega)) (fun _ _ => ⟨rfl, ⟨t + x.toNatClampNeg, ?_, ?_⟩, ?_⟩)
    · have f2 := dyM_fr S1 np nd x.toNatClampNeg
      have o : ∀ k j, fl [9, 10, 13001, 1013] k j = false → fl [51, 52, 44, 37000] k j = false → ∀ i, (dyM S1 np nd x.toNatClampNeg).1 k i j = S.1 k i j := fun k j g1 g2 i => (f2.1 k i j g2).trans (f1.1 k i j g1)
      exact ⟨⟨b1, b2, b3, b4, b5, q2⟩, ⟨(o 1 2 rfl rfl 0).trans e1, (o 36 1 rfl rfl 0).trans e2⟩, ⟨(o 0 9 rfl rfl 0).trans e3, (o 36 8 rfl rfl 0).trans e4⟩, ⟨(o 0 10 rfl rfl 0).trans e7, (o 36 19 rfl rfl 0).trans e8⟩, ⟨(o 0 11 rfl rfl 0).trans e9.1, (o 36 33 rfl rfl 0).trans e9.2⟩, ⟨(o 0 12 rfl rfl 0).trans e11.1, (o 36 34 rfl rfl 0).trans e11.2⟩, (f2.1 0 0 13 rfl).trans fin.2.1, fin.2.2.1⟩
    · have e : mix S1 (dyM S1 np nd x.toNatClampNeg) = dyM S1 np nd x.toNatClampNeg := mix_eq2 (fun k i j h => dyM_off S1 np nd _ k i j h) (dyM_fr S1 np nd _).2
      rw [← e]
      exact fin.1
    · exact (f1.wk (by decide)).tr ((dyM_fr S1 np nd x.toNatClampNeg).wk (by decide))
