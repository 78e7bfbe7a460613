/-! the order: both sides' figures are one D -/
theorem pm_ok {n0 np nd nv nt r t P D la : Nat} {S S1 S' T : xS} {c : Nat} (hn0 : n0 ≤ 600) (hN : IN np nd nv nt r t S) (hA : IA n0 S) (hB : IB n0 np nd t S) (hC : IC np t S) (hD : D < nd) (hP : P < np) (hla : la ≤ 9999) (th : cThere S D) (eP : S.1 12 D 0 = nI P) (hl : lnR (ntC S P (nI t)) S1 P D (nI t) (nI la)) (hc : S1.1 31 0 6 = nI c) (h36 : ∀ k i j, 36 ≤ k → k ≤ 74 → S'.1 k i j = S.1 k i j) (fT : Fr (fl [70, 71]) (knM S' P) T) (hT : ∀ q, q < np → T.1 70 0 q = (if (knM S' P).1 51 0 (bwM (knM S' P) P D q) < 0 then (0 : Int32) else 1) ∧ ∀ g, g < 4 → T.1 71 0 (4 * q + g) = (knM S' P).1 52 0 (4 * bwM (knM S' P) P D q + g)) : PMd (plD S1) D P t c T ∧ (plD S1).ok ∧ P < (plD S1).np ∧ (plD S1).kn P = true ∧ (plD S1).la = la := by
  obtain ⟨⟨b1, b2, b3, b4, b5, b6⟩, ⟨e1, e2⟩, ⟨e3, e4⟩, ⟨e7, e8⟩, ⟨e9, e10⟩, ⟨e11, e12⟩, e13, e14⟩ := id hN
  obtain ⟨⟨a1, a2, a3, a4, a5, a6⟩, hpl, _, ⟨h, G, ⟨hh1, hh9⟩, hh, hG, hG9⟩, ⟨A, hA9, eA⟩, _⟩ := (hB D (by omega)).1 hD
  have fU := ntC_fr S P (nI t)
  have hCU := IC.note hA hn0 hC hP b1
  have hPP : (ntC S P (nI t)).1 9 P P = nI t := by rw [ntC_9, if_pos rfl]; exact if_pos rfl
  obtain ⟨hPC, enp, epr, eP1, ekP⟩ := pc_ok hA hCU b1 e1 fU hP (by omega) b6 hh hh9 hla hPP hl
  obtain ⟨l1, l2, ⟨l3, l4, l5, l6⟩, l7, l8, l9⟩ := hl
  have e43 : S'.1 43 0 D = nI P := by
    rw [h36 43 0 D (by decide) (by decide)]
    rcases hpl with ⟨_, p, _, q1, q2⟩ | q
    · rw [q2, ← q1, eP]
    · exact absurd q.2.1 th.1
  have kf : Fr (fl [51, 52]) S' (knM S' P) := ((((Fr.rf.up rfl).up rfl).up rfl).up rfl).up rfl
  have gT : Fr (fl [51, 52, 70, 71]) S' T := (kf.wk (by decide)).tr (fT.wk (by decide))
  have m36 : ∀ j, S'.1 36 0 j = S.1 36 0 j := fun j => h36 36 0 j (by decide) (by decide)
  have ela : (plD S1).la = la := by show (S1.1 31 0 8).toNatClampNeg = la; rw [l6]; exact nI_clamp (by omega)
  have ehd : (plD S1).hd = h := by
    show (S1.1 31 0 7).toNatClampNeg = h
    rw [l5, fU.1 12 D 3 rfl, hh]; exact nI_clamp (by omega)
  -- the words
  have w51 : ∀ q, q < 6 → (knM S' P).1 51 0 (6 * P + q) = (ntC S P (nI t)).1 9 P q ∧ ∀ g, g < 4 → (knM S' P).1 52 0 (4 * (6 * P + q) + g) = (ntC S P (nI t)).1 10 P (4 * q + g) := by
    intro q hq
    by_cases e : q = P
    · subst e
      refine ⟨?_, fun g hg => ?_⟩
      · rw [knM_51, if_pos (by omega), m36, e14, hPP]
      · rw [knM_52 _ _ _ _ hg, if_pos (by omega), ntC_10 _ _ _ _ _ _ hg, if_pos rfl]
        show mPrice S' (nI q) (nI g) = if q = q then pPrice S q (nI g) else _
        rw [if_pos rfl]
        have : mPrice S' (nI q) (nI g) = mPrice S (nI q) (nI g) := by
          unfold mPrice
          rw [h36 39 0 _ (by decide) (by decide), h36 40 0 _ (by decide) (by decide), h36 41 0 _ (by decide) (by decide)]
        rw [this]
        exact pm_N hA hq hg
    · refine ⟨?_, fun g hg => ?_⟩
      · rw [knM_51, if_neg (by omega), h36 51 0 _ (by decide) (by decide), (hC.1 P q (by omega) hq (fun z => e z.symm)).1, ntC_9, if_pos rfl]
        exact (if_neg e).symm
      · rw [knM_52 _ _ _ _ hg, if_neg (by omega), h36 52 0 _ (by decide) (by decide), (hC.1 P q (by omega) hq (fun z => e z.symm)).2 g hg, ntC_10 _ _ _ _ _ _ hg, if_pos rfl]
        exact (if_neg e).symm
  have v51 : ∀ q, q < 6 → (knM S' P).1 51 0 (36 + 6 * D + q) = (ntC S P (nI t)).1 9 (D + 6) q ∧ ∀ g, g < 4 → (knM S' P).1 52 0 (4 * (36 + 6 * D + q) + g) = (ntC S P (nI t)).1 10 (D + 6) (4 * q + g) := by
    intro q hq
    have := hC.2.1 D q (by omega) hq
    rw [Nat.add_comm 6 D] at this
    refine ⟨?_, fun g hg => ?_⟩
    · rw [knM_51, if_neg (by omega), h36 51 0 _ (by decide) (by decide), this.1, ntC_9, if_neg (by omega)]
    · rw [knM_52 _ _ _ _ hg, if_neg (by omega), h36 52 0 _ (by decide) (by decide), this.2 g hg, ntC_10 _ _ _ _ _ _ hg, if_neg (by omega)]
  have bst : ∀ q, q < 6 → (knM S' P).1 51 0 (bwM (knM S' P) P D q) = S1.1 9 10 q ∧ (¬ S1.1 9 10 q = -1 → ∀ g, g < 4 → (knM S' P).1 52 0 (4 * bwM (knM S' P) P D q + g) = S1.1 10 10 (4 * q + g)) := by
    intro q hq
    have hb : bwM (knM S' P) P D q = if (ntC S P (nI t)).1 9 (D + 6) q < (ntC S P (nI t)).1 9 P q then 6 * P + q else 36 + 6 * D + q := by
      unfold bwM
      rw [(w51 q hq).1, (v51 q hq).1]
    rw [hb]
    have x8 := l8 q hq
    have x9 := l9 q hq
    by_cases z : (ntC S P (nI t)).1 9 (D + 6) q < (ntC S P (nI t)).1 9 P q
    · rw [if_pos z] at x8 ⊢
      exact ⟨(w51 q hq).1.trans x8.symm, fun hn g hg => by rw [(w51 q hq).2 g hg, x9 hn g hg, if_pos z]⟩
    · rw [if_neg z] at x8 ⊢
      exact ⟨(v51 q hq).1.trans x8.symm, fun hn g hg => by rw [(v51 q hq).2 g hg, x9 hn g hg, if_neg z]⟩
  have ekn : ∀ q, (plD S1).kn q = true ↔ ¬ S1.1 9 10 q = -1 := fun q => by
    show (!decide (S1.1 9 10 q = -1)) = true ↔ _
    rw [Bool.not_eq_true', decide_eq_false_iff_not]
  have w9 : ∀ q, q < 6 → S1.1 9 10 q = -1 ∨ ∃ y, y < 2 ^ 31 ∧ S1.1 9 10 q = nI y := by
    intro q hq
    rw [l8 q hq]
    split
    · rcases (hCU.2.2 P q (by omega) hq).1 with z | ⟨_, y, hy, z⟩
      · exact Or.inl z
      · exact Or.inr ⟨y, by omega, z⟩
    · rcases (hCU.2.2 (D + 6) q (by omega) hq).1 with z | ⟨_, y, hy, z⟩
      · exact Or.inl z
      · exact Or.inr ⟨y, by omega, z⟩
  have t70 : ∀ q, q < np → T.1 70 0 q = if (plD S1).kn q = true then 1 else 0 := by
    intro q hq
    rw [(hT q hq).1, (bst q (by omega)).1]
    by_cases z : S1.1 9 10 q = -1
    · rw [z, if_pos (by decide), if_neg (fun y => (ekn q).mp y z)]
    · rcases w9 q (by omega) with y | ⟨y, hy, e⟩
      · exact absurd y z
      · rw [if_pos ((ekn q).mpr z), e, if_neg (nI_pos hy)]
  have t71 : ∀ q, q < np → (plD S1).kn q = true → ∀ g, g < 4 → T.1 71 0 (4 * q + g) = S1.1 10 10 (4 * q + g) := by
    intro q hq k g hg
    rw [(hT q hq).2 g hg, (bst q (by omega)).2 ((ekn q).mp k) g hg]
  refine ⟨⟨?_, ?_, ?_, ?_, ?_, ?_, ?_, ?_⟩, hPC.ok, by rw [enp]; exact hP, ekP, ela⟩
  · rw [enp, gT.1 36 0 1 rfl, m36]; exact e2
  · rw [ehd, gT.1 45 0 D rfl, h36 45 0 D (by decide) (by decide), a3, hh]
  · rw [gT.1 43 0 D rfl]; exact e43
  · rw [gT.1 36 0 0 rfl, m36]; exact e14
  · rw [t71 P hP ekP 0 (by decide), t71 P hP ekP 1 (by decide), t71 P hP ekP 2 (by decide), t71 P hP ekP 3 (by decide), gT.1 46 0 D rfl, gT.1 50 0 _ rfl, gT.1 50 0 _ rfl, gT.1 50 0 _ rfl, gT.1 50 0 _ rfl, h36 46 0 D (by decide) (by decide), h36 50 0 _ (by decide) (by decide), h36 50 0 _ (by decide) (by decide), h36 50 0 _ (by decide) (by decide), h36 50 0 _ (by decide) (by decide), a4, (hG 0 (by decide)).2, (hG 1 (by decide)).2, (hG 2 (by decide)).2, (hG 3 (by decide)).2]
    rw [l7, fU.1 12 D 4 rfl, fU.1 13 D 0 rfl, fU.1 13 D 1 rfl, fU.1 13 D 2 rfl, fU.1 13 D 3 rfl, (hG 0 (by decide)).1, (hG 1 (by decide)).1, (hG 2 (by decide)).1, (hG 3 (by decide)).1] at hc
    exact hc
  · rw [enp]; exact t70
  · rw [enp]
    intro q hq k g hg
    rw [t71 q hq k g hg]
    obtain ⟨y, _, z1, z2⟩ := epr q (by omega) k g hg
    rw [z1, z2]
  · intro a b y ha hb
    have f4 : ∀ k i j, ¬ (k = 9 ∨ k = 10) → ¬ k = 31 → S1.1 k i j = (ntC S P (nI t)).1 k i j := fun k i j h1 h2 => l1 k i j (fun q => h1 q.1) (fun q => h2 q.1)
    have ec : cCross S1 a b (y / 30 % 12) = cCross S a b (y / 30 % 12) := by
      unfold cCross
      rw [f4 4 a 0 (by decide) (by decide), f4 4 a 1 (by decide) (by decide), f4 4 b 0 (by decide) (by decide), f4 4 b 1 (by decide) (by decide), f4 3 0 (y / 30 % 12) (by decide) (by decide)]
      rfl
    have em : mWay T a b (y / 30 % 12) = mWay S a b (y / 30 % 12) := by
      unfold mWay
      rw [gT.1 37 0 a rfl, gT.1 37 0 b rfl, gT.1 38 0 a rfl, gT.1 38 0 b rfl, gT.1 42 0 _ rfl, h36 37 0 a (by decide) (by decide), h36 37 0 b (by decide) (by decide), h36 38 0 a (by decide) (by decide), h36 38 0 b (by decide) (by decide), h36 42 0 _ (by decide) (by decide)]
    have ew : (plD S1).wy a b y = if cCross S1 a b (y / 30 % 12) = -1 then none else some (cCross S1 a b (y / 30 % 12)).toNatClampNeg := rfl
    rw [ew, ec, em]
    rcases way_eq hA ha hb (m := y / 30 % 12) (by omega) with ⟨q1, q2⟩ | ⟨z, _, hz, q1, q2⟩
    · exact Or.inl ⟨if_pos q1, q2⟩
    · refine Or.inr ⟨z, hz, ?_, q2⟩
      rw [q1, if_neg (nI_m (by omega)), nI_clamp (by omega)]
theorem IC.plan {np t P : Nat} {U S2 : xS} (hC : IC np t U) (hP : P < 6) (e9 : ∀ a q, a < 10 → S2.1 9 a q = U.1 9 a q) (e10 : ∀ a q, a < 10 → S2.1 10 a q = U.1 10 a q) (e51 : ∀ w, ¬ w = 7 * P → S2.1 51 0 w = U.1 51 0 w) (e52 : ∀ w g, ¬ w = 7 * P → g < 4 → S2.1 52 0 (4 * w + g) = U.1 52 0 (4 * w + g)) : IC np t S2 := by
  obtain ⟨h1, h2, h3⟩ := hC
  refine ⟨fun p q hp hq hpq => ?_, fun d q hd hq => ?_, fun a q ha hq => ?_⟩
  · have ne : ¬ 6 * p + q = 7 * P := by omega
    rw [e9 p q (by omega), e51 _ ne]
    exact ⟨(h1 p q hp hq hpq).1, fun g hg => by rw [e10 p _ (by omega), e52 _ g ne hg]; exact (h1 p q hp hq hpq).2 g hg⟩
  · have ne : ¬ 36 + 6 * d + q = 7 * P := by omega
    rw [e9 (6 + d) q (by omega), e51 _ ne]
    exact ⟨(h2 d q hd hq).1, fun g hg => by rw [e10 (6 + d) _ (by omega), e52 _ g ne hg]; exact (h2 d q hd hq).2 g hg⟩
  · rw [e9 a q ha]
    exact ⟨(h3 a q ha hq).1, fun g hg => by rw [e10 a _ ha]; exact (h3 a q ha hq).2 g hg⟩
