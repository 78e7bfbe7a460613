/-! selling and buying -/
theorem pm_N {n : Nat} {S : xS} (h : IA n S) {P G : Nat} (hP : P < 6) (hG : G < 4) : mPrice S (nI P) (nI G) = pPrice S P (nI G) := by
  have := pm_price h (p := nI P) (g := nI G) (nI_pos' (by omega)) (nI_le (b := 5) (by omega) (by decide)) (nI_pos' (by omega)) (nI_le (b := 3) (by omega) (by decide))
  rw [nI_clamp (show P < 2 ^ 31 by omega)] at this
  exact this
theorem pr_b {n : Nat} {S : xS} (h : IA n S) (hn : n ≤ 600) {P G : Nat} (hP : P < 6) (hG : G < 4) : ∃ c : Nat, 1 ≤ c ∧ c ≤ 99 ∧ pPrice S P (nI G) = nI c := by
  obtain ⟨-, -, -, h4, -⟩ := h
  obtain ⟨-, ⟨a1, a2⟩, ⟨a3, a4⟩, a5, a6⟩ := h4 P G hP hG
  unfold pPrice
  rw [nI_clamp (show G < 2 ^ 31 by omega)]
  obtain ⟨b, hb, eb⟩ := nI_of2 (M := 99) (n := 99) rfl (Int32.not_lt.mpr a1) a2
  obtain ⟨f, hf, ef⟩ := nI_of2 (M := 9) (n := 9) rfl (Int32.not_lt.mpr a3) a4
  obtain ⟨l, hl, el⟩ := nI_of (Int32.not_lt.mpr a5)
  rw [el, nI_toInt hl] at a6
  have hl2 : l ≤ 99 * n := by omega
  have hfl : f * l ≤ 9 * (99 * 600) := Nat.mul_le_mul hf (by omega)
  have e : S.1 6 P G * S.1 7 P G / 10 = nI (f * l / 10) := by
    rw [ef, el, nI_mul, show (10 : Int32) = nI 10 from rfl, nI_div (by omega) (by decide) (by decide)]
  rw [e, eb]
  have hm : f * l / 10 < 2 ^ 31 := by omega
  by_cases q : 1 < nI b - nI (f * l / 10)
  · rw [if_pos q]
    have q2 := Int32.lt_iff_toInt_lt.mp q
    have e2 : (nI b - nI (f * l / 10)).toInt = (b : Int) - (f * l / 10 : Nat) := by
      rw [sbI (by rw [nI_toInt (show b < 2 ^ 31 by omega), nI_toInt hm]; omega) (by rw [nI_toInt (show b < 2 ^ 31 by omega), nI_toInt hm]; omega), nI_toInt (show b < 2 ^ 31 by omega), nI_toInt hm]
    rw [e2, show (1 : Int32).toInt = 1 from rfl] at q2
    refine ⟨b - f * l / 10, by omega, by omega, ?_⟩
    apply Int32.toInt_inj.mp
    rw [e2, nI_toInt (by omega)]
    omega
  · rw [if_neg q]
    exact ⟨1, by omega, by omega, rfl⟩
theorem ct_M_price' {d P G : Nat} {p g : Int32} {S : xS} {Q : xQ} (hp : p = nI P) (hP : P < 6) (hg : g = nI G) (hG : G < 4) (h : Q (some (.inl (mPrice S (nI P) (nI G)))) S) : CT d 0 0 m_M_priceOf [.inr (.inr (36, 0)), .inl p, .inl g] S Q := by
  subst hp; subst hg
  exact ct_M_priceOf (ix4 (N := 24) (by omega)).2.1 h
theorem there_iff {n np t D : Nat} {S : xS} (h : IBl n np t D S) (hp : np ≤ 6) : (S.1 49 0 D = 0 ∧ S.1 44 0 D = -1) ↔ (¬ S.1 12 D 0 = -1 ∧ S.1 12 D 1 = -1) := by
  obtain ⟨⟨a1, a2, -⟩, a7, -⟩ := h
  rw [a1, a2]
  rcases a7 with ⟨q1, p, q2, q3, q4⟩ | ⟨q1, q2, q3⟩
  · rw [q1, q3]
    have : ¬ nI p = -1 := fun q => by
      have := congrArg Int32.toInt q
      rw [nI_toInt (by omega), show (-1 : Int32).toInt = -1 from rfl] at this
      omega
    simp [this]
  · rw [q1, q2, q3]; simp
theorem there_P {n np t D : Nat} {S : xS} (h : IBl n np t D S) (q : ¬ S.1 12 D 0 = -1) : ∃ p, p < np ∧ S.1 12 D 0 = nI p ∧ S.1 43 0 D = nI p := by
  obtain ⟨-, a7, -⟩ := h
  rcases a7 with ⟨q1, p, q2, q3, q4⟩ | ⟨q1, q2, q3⟩
  · exact ⟨p, q2, q3, q4⟩
  · exact absurd q2 q
theorem IA.landed {n P G : Nat} {S : xS} (h : IA n S) (hG : G < 4) {v : Int32} (hv : 0 ≤ v) (hv2 : v.toInt ≤ 99 * ((n + 1 : Nat) : Int)) {x1 x2 x3 x4 : Int32} {D : Nat} : IA (n + 1) (xupd (xupd (xupd (xupd (xupd (xupd S 12 D 4 x1) 13 D G x2) 7 P G v) 46 0 D x3) 50 0 (4 * D + G) x4) 41 0 (4 * P + G) v) := by
  obtain ⟨h1, h2, h3, h4, h5⟩ := h
  refine ⟨h1, h2, h3, fun p g hp hg => ?_, h5⟩
  obtain ⟨⟨q1, q2, q3⟩, q4, q5, q6, q7⟩ := h4 p g hp hg
  have e : (4 * p + g = 4 * P + G) ↔ (g = G ∧ p = P) := by omega
  refine ⟨⟨q1, q2, ?_⟩, q4, q5, ?_⟩
  · simp (decide := true) only [xu, true_and, false_and, and_true, and_false, if_true, if_false, e, q3]
  · simp (decide := true) only [xu, true_and, false_and, and_true, and_false, if_true, if_false]
    by_cases c : g = G ∧ p = P
    · simp only [if_pos c]; exact ⟨hv, hv2⟩
    · simp only [if_neg c]; exact ⟨q6, by omega⟩
theorem IB.trade {n np nd t D G P : Nat} {S : xS} (h : IB n np nd t S) (hD : D < nd) (hd4 : nd ≤ 4) (hG : G < 4) {A F : Nat} (hA : A ≤ 100000 * (n + 2)) {v : Int32}
    (hF : ∀ (H : Nat) (G0 : Nat → Nat), S.1 12 D 3 = nI H → H ≤ 99 → (∀ g, g < 4 → S.1 13 D g = nI (G0 g)) → G0 0 + G0 1 + G0 2 + G0 3 ≤ H → F ≤ G0 G ∨ (G0 0 + G0 1 + G0 2 + G0 3) + F ≤ H + G0 G) : IB (n + 1) np nd t (xupd (xupd (xupd (xupd (xupd (xupd S 12 D 4 (nI A)) 13 D G (nI F)) 7 P G v) 46 0 D (nI A)) 50 0 (4 * D + G) (nI F)) 41 0 (4 * P + G) v) := by
  intro d hd
  refine ⟨fun q => ?_, fun q => ?_⟩
  · obtain ⟨⟨a1, a2, a3, a4, a5, a6⟩, a7, a8, ⟨H, G0, a9, a10, a11, a12⟩, ⟨c, a13, a14⟩, a15, a16⟩ := (h d hd).1 q
    have k15 : S.1 12 d 6 = -1 ∨ ∃ c, c ≤ 100000 * (n + 1 + 1) ∧ S.1 12 d 6 = nI c := a15.imp id (fun ⟨c, q1, q2⟩ => ⟨c, by omega, q2⟩)
    by_cases e : d = D
    · subst e
      have hf := hF H G0 a10 a9.2 (fun g hg => (a11 g hg).1) a12
      refine ⟨⟨a1, a2, a3, ?_, a5, a6⟩, a7, a8, ⟨H, fun g => if g = G then F else G0 g, a9, a10, fun g hg => ?_, ?_⟩, ⟨A, by omega, ?_⟩, k15, a16⟩
      · simp (decide := true) only [xu, true_and, false_and, and_true, and_false, if_true, if_false]
      · have e2 : (4 * d + g = 4 * d + G) ↔ g = G := by omega
        by_cases c : g = G
        · subst c; simp (decide := true) only [xu, true_and, false_and, and_true, and_false, if_true, if_false]
        · simp (decide := true) only [xu, true_and, false_and, and_true, and_false, if_true, if_false, e2, c]; exact a11 g hg
      · have : G = 0 ∨ G = 1 ∨ G = 2 ∨ G = 3 := by omega
        rcases this with rfl | rfl | rfl | rfl <;> simp (decide := true) only [if_true, if_false] <;> omega
      · simp (decide := true) only [xu, true_and, false_and, and_true, and_false, if_true, if_false]
    · have e3 : ∀ g, g < 4 → ¬ (4 * d + g = 4 * D + G) := fun g hg => by omega
      refine ⟨⟨a1, a2, a3, ?_, a5, a6⟩, a7, a8, ⟨H, G0, a9, a10, fun g hg => ?_, a12⟩, ⟨c, by omega, ?_⟩, k15, a16⟩
      · simp (decide := true) only [xu, true_and, false_and, and_true, and_false, if_true, if_false, e]; exact a4
      · simp (decide := true) only [xu, true_and, false_and, and_true, and_false, if_true, if_false, e, e3 g hg]; exact a11 g hg
      · simp (decide := true) only [xu, true_and, false_and, and_true, and_false, if_true, if_false, e]; exact a14
  · obtain ⟨a1, a2, a3, a4, a5, a6, a7⟩ := (h d hd).2 q
    have e : ¬ d = D := by omega
    have e3 : ∀ g, g < 4 → ¬ (4 * d + g = 4 * D + G) := fun g hg => by omega
    refine ⟨a1, a2, a3, a4, a5, fun g hg => ?_, a7⟩
    simp (decide := true) only [xu, true_and, false_and, and_true, and_false, if_true, if_false, e, e3 g hg]; exact a6 g hg
