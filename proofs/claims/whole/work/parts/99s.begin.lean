/-! what holds at the first call -/
theorem st_INV {S0 S1 S2 : xS} (hK : IK S0) (hS : gStr S0) (h1 : mnS S0 S1) (h2 : moE S1 S2) : INV 0 S2 := by
  obtain ⟨T, rfl, ⟨w1, w2, w3⟩, ⟨c0, c1, c2, c3, c4, c5⟩, ⟨n0, n1, n2⟩, t23, t11, tf, -⟩ := h1
  obtain ⟨⟨f51, f65, f66, f67, f72, ⟨a51, a65, a66, a67, a72⟩, fr⟩, ⟨g0, g1, g2⟩, e33⟩ := h2
  have rM : ∀ k i j, fl fMo k j = false → S2.1 k i j = (moS S1 f51 f65 f66 f67 f72).1 k i j := fun k i j h => fr.1 k i j h
  have rL : ∀ k i j, fl fMo k j = false → lo k = true → S2.1 k i j = S1.1 k i j := fun k i j h hl => (rM k i j h).trans (moS_lo k i j hl).1
  have rC : ∀ k i j, fl fMo k j = false → lo k = true → fl (1011 :: 24001 :: 27 :: fRd) k j = false → fl [24, 24001] k j = false → k ≠ 18 → k ≠ 19 → S2.1 k i j = (mS S0).1 k i j := fun k i j h hl h1 h2 h8 h9 =>
    (rL k i j h hl).trans ((tf k i j h1 (fun q => by rcases q.1 with q | q <;> omega)).trans ((fdC_fr _ _ _ 42).1 k i j h2))
  have z : (0 : Int32) = nI 0 := by decide
  have hN : IN 0 0 0 1 0 0 S2 := ⟨by decide, ⟨rC 1 0 2 rfl rfl rfl rfl (by decide) (by decide), rM 36 0 1 rfl⟩, ⟨rC 0 0 9 rfl rfl rfl rfl (by decide) (by decide), rM 36 0 8 rfl⟩, ⟨rC 0 0 10 rfl rfl rfl rfl (by decide) (by decide), rM 36 0 19 rfl⟩, ⟨(rL 0 0 11 rfl rfl).trans t11, e33⟩, ⟨rC 0 0 12 rfl rfl rfl rfl (by decide) (by decide), rM 36 0 34 rfl⟩, rC 0 0 13 rfl rfl rfl rfl (by decide) (by decide), rM 36 0 0 rfl⟩
  have hA : IA 0 S2 := by
    have e1 : S2.1 1 0 2 = 0 := hN.2.1.1
    refine ⟨by rw [e1]; decide, hN.2.1.2.trans hN.2.1.1.symm, fun p hp => ?_, fun p g hp hg => ?_, fun m hm => ?_⟩
    · have q0 : S2.1 4 p 0 = 0 := rC 4 p 0 rfl rfl rfl rfl (by decide) (by decide)
      have q1 : S2.1 4 p 1 = 0 := rC 4 p 1 rfl rfl rfl rfl (by decide) (by decide)
      refine ⟨(rM 37 0 p rfl).trans q0.symm, (rM 38 0 p rfl).trans q1.symm, ?_, ?_⟩
      · rw [q0]; decide
      · rw [q1]; decide
    · have q0 : S2.1 5 p g = 0 := rC 5 p g rfl rfl rfl rfl (by decide) (by decide)
      have q1 : S2.1 6 p g = 0 := rC 6 p g rfl rfl rfl rfl (by decide) (by decide)
      have q2 : S2.1 7 p g = 0 := rC 7 p g rfl rfl rfl rfl (by decide) (by decide)
      refine ⟨⟨(rM 39 0 _ rfl).trans q0.symm, (rM 40 0 _ rfl).trans q1.symm, (rM 41 0 _ rfl).trans q2.symm⟩, ?_, ?_, ?_⟩
      · rw [q0]; decide
      · rw [q1]; decide
      · rw [q2]; decide
    · have q0 : S2.1 3 0 m = 0 := rC 3 0 m rfl rfl rfl rfl (by decide) (by decide)
      refine ⟨(rM 42 0 m rfl).trans q0.symm, ?_⟩
      rw [q0]; decide
  have hB : IB 0 0 0 0 S2 := fun d hd => ⟨fun q => absurd q (Nat.not_lt_zero _), fun _ => ⟨rC 12 d 0 rfl rfl rfl rfl (by decide) (by decide), rC 12 d 1 rfl rfl rfl rfl (by decide) (by decide), rC 12 d 2 rfl rfl rfl rfl (by decide) (by decide), rC 12 d 6 rfl rfl rfl rfl (by decide) (by decide), rC 12 d 7 rfl rfl rfl rfl (by decide) (by decide), fun g hg => ⟨rC 13 d g rfl rfl rfl rfl (by decide) (by decide), rM 50 0 _ rfl⟩, rM 49 0 d rfl, rM 48 0 d rfl⟩⟩
  have q9 : ∀ a q, S2.1 9 a q = -1 := fun a q => rC 9 a q rfl rfl rfl rfl (by decide) (by decide)
  have q10 : ∀ a q, S2.1 10 a q = 0 := fun a q => rC 10 a q rfl rfl rfl rfl (by decide) (by decide)
  have hC : IC 0 0 S2 := ⟨fun p q hp hq _ => ⟨((rM 51 0 _ rfl).trans (a51 _ (by omega))).trans (q9 p q).symm, fun g hg => (rM 52 0 _ rfl).trans (q10 _ _).symm⟩, fun d q hd hq => ⟨((rM 51 0 _ rfl).trans (a51 _ (by omega))).trans (q9 _ q).symm, fun g hg => (rM 52 0 _ rfl).trans (q10 _ _).symm⟩, fun a q ha hq => ⟨Or.inl (q9 a q), fun g hg => ⟨0, by decide, (q10 _ _).trans z⟩⟩⟩
  have hD : ID 0 0 S2 := fun v hv => ⟨fun q => absurd q (Nat.not_lt_zero _), fun _ => ⟨rC 15 v 4 rfl rfl rfl rfl (by decide) (by decide), rC 15 v 5 rfl rfl rfl rfl (by decide) (by decide), rC 15 v 7 rfl rfl rfl rfl (by decide) (by decide), rM 58 0 v rfl, rM 59 0 v rfl⟩⟩
  have hE : IE S2 := fun s hs => by
    have q1 : S2.1 21 s 1 = -1 := rC 21 s 1 rfl rfl rfl rfl (by decide) (by decide)
    have q2 : S2.1 21 s 2 = 0 := rC 21 s 2 rfl rfl rfl rfl (by decide) (by decide)
    exact ⟨⟨((rM 72 0 s rfl).trans (a72 s hs)).trans q1.symm, (rM 73 0 s rfl).trans q2.symm⟩, Or.inl q1, ⟨0, by decide, q2.trans z⟩, fun i hi => (rM 74 0 _ rfl).trans (rC 22 s i rfl rfl rfl rfl (by decide) (by decide)).symm⟩
  have hF : IF 0 S2 := ⟨Nat.zero_le _, (rL 23 0 1 rfl rfl).trans t23, rM 36 0 32 rfl, fun i hi => absurd hi (Nat.not_lt_zero _)⟩
  have q18 : ∀ j, S2.1 18 0 j = S1.1 18 0 j := fun j => rL 18 0 j rfl rfl
  have q19 : ∀ j, S2.1 19 0 j = S1.1 19 0 j := fun j => rL 19 0 j rfl rfl
  have hG : IG 1 S2 := fun T P hT hP => by
    obtain rfl : T = 0 := by omega
    have z18 : S2.1 18 0 65536 = nI 5 := (q18 _).trans c5
    rcases (show P = 0 ∨ P = 1 ∨ P = 2 by omega) with rfl | rfl | rfl
    · exact IGp.new (a := 0) (tot := 5) w1 rfl ((q19 0).trans n0) (by decide) (by decide) z18 g0 (fun j hj => by
        have hj : j < 1 := hj
        obtain rfl : j = 0 := by omega
        exact (q18 0).trans c0)
    · refine IGp.new (a := 1) (tot := 5) w2 ((q19 0).trans n0) ((q19 1).trans n1) (by decide) (by decide) z18 g1 (fun j hj => ?_)
      have hj : j < 3 := hj
      rcases (show j = 0 ∨ j = 1 ∨ j = 2 by omega) with rfl | rfl | rfl
      · exact (q18 1).trans c1
      · exact (q18 2).trans c2
      · exact (q18 3).trans c3
    · refine IGp.new (a := 4) (tot := 5) w3 ((q19 1).trans n1) ((q19 2).trans n2) (by decide) (by decide) z18 g2 (fun j hj => ?_)
      have hj : j < 1 := hj
      obtain rfl : j = 0 := by omega
      exact (q18 4).trans c4
  have q34 : ∀ j, S2.1 34 0 j = S0.1 34 0 j := fun j => rC 34 0 j rfl rfl rfl rfl (by decide) (by decide)
  have hK2 : IK S2 := by
    unfold IK at hK ⊢
    simp only [q34]
    exact hK
  have q75 : ∀ i, S2.1 75 i 1 = S0.1 75 i 1 := fun i => rC 75 i 1 rfl rfl rfl rfl (by decide) (by decide)
  have q76 : ∀ i j, S2.1 76 i j = S0.1 76 i j := fun i j => rC 76 i j rfl rfl rfl rfl (by decide) (by decide)
  have hS2 : gStr S2 := by
    unfold gStr at hS ⊢
    simp only [q75, q76]
    exact hS
  have hM : gMw S2 := ⟨fun m hm => ⟨(rM 67 0 m rfl).trans (a67 m hm), (rM 66 0 m rfl).trans (a66 m hm)⟩, fun j hj => (rM 65 0 j rfl).trans (a65 j hj)⟩
  exact ⟨0, 0, 0, 1, 0, 0, 0, hN, hA, hB, hC, hD, hE, hF, hG, hK2, hS2, hM⟩
