/-! Arrays.fill of the short rows; port and wants -/
theorem xu {S : xS} {k i j k' i' j' : Nat} {x : Int32} : (xupd S k i j x).1 k' i' j' = if k' = k ∧ j' = j ∧ i' = i then x else S.1 k' i' j' := rfl
theorem ct_fill_5 {d i : Nat} {v : Int32} {S : xS} {Q : xQ} (h : Q none (xupd (xupd (xupd (xupd (S) 5 i 0 v) 5 i 1 v) 5 i 2 v) 5 i 3 v)) : CT d 0 0 m_Arrays_fill [.inr (.inr (5, i)), .inl v] S Q := by
  refine ct_of (xmok_all (by decide)) rfl ?_
  refine V_go (pc := 0) pk_186 [] 120 ?_
  refine And.intro (fun q => absurd (show (4 : Int32) ≤ 0 from q) (by decide)) (fun _ => ?_)
  refine And.intro (vin (x := 0) (n := 4) (m := 3) rfl (by decide) (by decide)) ?_
  refine And.intro (fun q => absurd (show (4 : Int32) ≤ (0 + 1) from q) (by decide)) (fun _ => ?_)
  refine And.intro (vin (x := (0 + 1)) (n := 4) (m := 3) rfl (by decide) (by decide)) ?_
  refine And.intro (fun q => absurd (show (4 : Int32) ≤ ((0 + 1) + 1) from q) (by decide)) (fun _ => ?_)
  refine And.intro (vin (x := ((0 + 1) + 1)) (n := 4) (m := 3) rfl (by decide) (by decide)) ?_
  refine And.intro (fun q => absurd (show (4 : Int32) ≤ (((0 + 1) + 1) + 1) from q) (by decide)) (fun _ => ?_)
  refine And.intro (vin (x := (((0 + 1) + 1) + 1)) (n := 4) (m := 3) rfl (by decide) (by decide)) ?_
  refine And.intro (fun _ => ?_) (fun q => absurd (show (4 : Int32) ≤ ((((0 + 1) + 1) + 1) + 1) by decide) q)
  exact h
theorem ct_fill_13 {d i : Nat} {v : Int32} {S : xS} {Q : xQ} (h : Q none (xupd (xupd (xupd (xupd (S) 13 i 0 v) 13 i 1 v) 13 i 2 v) 13 i 3 v)) : CT d 0 0 m_Arrays_fill [.inr (.inr (13, i)), .inl v] S Q := by
  refine ct_of (xmok_all (by decide)) rfl ?_
  refine V_go (pc := 0) pk_186 [] 120 ?_
  refine And.intro (fun q => absurd (show (4 : Int32) ≤ 0 from q) (by decide)) (fun _ => ?_)
  refine And.intro (vin (x := 0) (n := 4) (m := 3) rfl (by decide) (by decide)) ?_
  refine And.intro (fun q => absurd (show (4 : Int32) ≤ (0 + 1) from q) (by decide)) (fun _ => ?_)
  refine And.intro (vin (x := (0 + 1)) (n := 4) (m := 3) rfl (by decide) (by decide)) ?_
  refine And.intro (fun q => absurd (show (4 : Int32) ≤ ((0 + 1) + 1) from q) (by decide)) (fun _ => ?_)
  refine And.intro (vin (x := ((0 + 1) + 1)) (n := 4) (m := 3) rfl (by decide) (by decide)) ?_
  refine And.intro (fun q => absurd (show (4 : Int32) ≤ (((0 + 1) + 1) + 1) from q) (by decide)) (fun _ => ?_)
  refine And.intro (vin (x := (((0 + 1) + 1) + 1)) (n := 4) (m := 3) rfl (by decide) (by decide)) ?_
  refine And.intro (fun _ => ?_) (fun q => absurd (show (4 : Int32) ≤ ((((0 + 1) + 1) + 1) + 1) by decide) q)
  exact h
theorem ct_fill_9 {d i : Nat} {v : Int32} {S : xS} {Q : xQ} (h : Q none (xupd (xupd (xupd (xupd (xupd (xupd (S) 9 i 0 v) 9 i 1 v) 9 i 2 v) 9 i 3 v) 9 i 4 v) 9 i 5 v)) : CT d 0 0 m_Arrays_fill [.inr (.inr (9, i)), .inl v] S Q := by
  refine ct_of (xmok_all (by decide)) rfl ?_
  refine V_go (pc := 0) pk_186 [] 120 ?_
  refine And.intro (fun q => absurd (show (6 : Int32) ≤ 0 from q) (by decide)) (fun _ => ?_)
  refine And.intro (vin (x := 0) (n := 6) (m := 5) rfl (by decide) (by decide)) ?_
  refine And.intro (fun q => absurd (show (6 : Int32) ≤ (0 + 1) from q) (by decide)) (fun _ => ?_)
  refine And.intro (vin (x := (0 + 1)) (n := 6) (m := 5) rfl (by decide) (by decide)) ?_
  refine And.intro (fun q => absurd (show (6 : Int32) ≤ ((0 + 1) + 1) from q) (by decide)) (fun _ => ?_)
  refine And.intro (vin (x := ((0 + 1) + 1)) (n := 6) (m := 5) rfl (by decide) (by decide)) ?_
  refine And.intro (fun q => absurd (show (6 : Int32) ≤ (((0 + 1) + 1) + 1) from q) (by decide)) (fun _ => ?_)
  refine And.intro (vin (x := (((0 + 1) + 1) + 1)) (n := 6) (m := 5) rfl (by decide) (by decide)) ?_
  refine And.intro (fun q => absurd (show (6 : Int32) ≤ ((((0 + 1) + 1) + 1) + 1) from q) (by decide)) (fun _ => ?_)
  refine And.intro (vin (x := ((((0 + 1) + 1) + 1) + 1)) (n := 6) (m := 5) rfl (by decide) (by decide)) ?_
  refine And.intro (fun q => absurd (show (6 : Int32) ≤ (((((0 + 1) + 1) + 1) + 1) + 1) from q) (by decide)) (fun _ => ?_)
  refine And.intro (vin (x := (((((0 + 1) + 1) + 1) + 1) + 1)) (n := 6) (m := 5) rfl (by decide) (by decide)) ?_
  refine And.intro (fun _ => ?_) (fun q => absurd (show (6 : Int32) ≤ ((((((0 + 1) + 1) + 1) + 1) + 1) + 1) by decide) q)
  exact h
theorem IA.wants {S : xS} {n : Nat} (h : IA n S) {P G : Nat} {b f : Int32} (hG : G < 4) (hb : 1 ≤ b ∧ b ≤ 99) (hf : 0 ≤ f ∧ f ≤ 9) : IA n (xupd (xupd (xupd (xupd S 5 P G b) 6 P G f) 39 0 (4 * P + G) b) 40 0 (4 * P + G) f) := by
  obtain ⟨h1, h2, h3, h4, h5⟩ := h
  refine ⟨h1, h2, h3, fun p g hp hg => ?_, h5⟩
  obtain ⟨⟨q1, q2, q3⟩, q4, q5, q6⟩ := h4 p g hp hg
  have hb0 : (0 : Int32) ≤ b := Int32.le_trans (by decide) hb.1
  have e : (4 * p + g = 4 * P + G) ↔ (g = G ∧ p = P) := by omega
  simp (decide := true) only [xu, true_and, false_and, and_true, and_false, if_true, if_false, e]
  by_cases c : g = G ∧ p = P
  · simp only [if_pos c]
    exact ⟨⟨trivial, trivial, q3⟩, ⟨hb0, hb.2⟩, hf, q6⟩
  · simp only [if_neg c]
    exact ⟨⟨q1, q2, q3⟩, q4, q5, q6⟩
theorem pPrice_off {S : xS} {P i : Nat} {g : Int32} {k j : Nat} {x : Int32} (h5 : Nat.beq 5 k = false) (h6 : Nat.beq 6 k = false) (h7 : Nat.beq 7 k = false) : pPrice (xupd S k i j x) P g = pPrice S P g := by
  unfold pPrice
  rw [xu_k h5, xu_k h6, xu_k h7]
theorem mm_wants_bad {d : Nat} {S : xS} {n : Nat} (h : IA n S) {p g b f : Int32} (hb : ¬ (0 ≤ p ∧ p ≤ S.1 1 0 2 - 1) ∨ ¬ (0 ≤ g ∧ g ≤ 3) ∨ ¬ (1 ≤ b ∧ b ≤ 99) ∨ ¬ (0 ≤ f ∧ f ≤ 9)) {Q : xQ} (hq : Q (some (.inl (-2))) S) : CT (d + 3) 0 0 m_M_wants [M0, .inl p, .inl g, .inl b, .inl f] S Q := by
  refine ct_of (xmok_all (by decide)) rfl ?_
  refine V_go (pc := 0) pk_120 [] 60 ?_
  refine ct_M_isPort (fun c1 c2 => ?_) (fun c => ?_)
  · (repeat' first | (refine And.intro (fun q => absurd q (by decide)) (fun _ => ?_)) | (refine And.intro (fun _ => ?_) (fun q => absurd q (by decide))) | fail)
    refine ct_M_isGood (fun c3 c4 => ?_) (fun c => ?_)
    · (repeat' first | (refine And.intro (fun q => absurd q (by decide)) (fun _ => ?_)) | (refine And.intro (fun _ => ?_) (fun q => absurd q (by decide))) | fail)
      refine ct_M_isIn32 (a := 1) (b := 99) rfl rfl (fun c5 c6 => ?_) (fun c => ?_)
      · (repeat' first | (refine And.intro (fun q => absurd q (by decide)) (fun _ => ?_)) | (refine And.intro (fun _ => ?_) (fun q => absurd q (by decide))) | fail)
        refine ct_M_isIn32 (a := 0) (b := 9) rfl rfl (fun c7 c8 => ?_) (fun c => ?_)
        · rcases hb with q | q | q | q
          · exact absurd ⟨c1, (isP h).1.mpr c2⟩ q
          · exact absurd ⟨c3, c4⟩ q
          · exact absurd ⟨c5, c6⟩ q
          · exact absurd ⟨c7, c8⟩ q
        · (repeat' first | (refine And.intro (fun q => absurd q (by decide)) (fun _ => ?_)) | (refine And.intro (fun _ => ?_) (fun q => absurd q (by decide))) | fail)
          exact hq
      · (repeat' first | (refine And.intro (fun q => absurd q (by decide)) (fun _ => ?_)) | (refine And.intro (fun _ => ?_) (fun q => absurd q (by decide))) | fail)
        exact hq
    · (repeat' first | (refine And.intro (fun q => absurd q (by decide)) (fun _ => ?_)) | (refine And.intro (fun _ => ?_) (fun q => absurd q (by decide))) | fail)
      exact hq
  · (repeat' first | (refine And.intro (fun q => absurd q (by decide)) (fun _ => ?_)) | (refine And.intro (fun _ => ?_) (fun q => absurd q (by decide))) | fail)
    exact hq
abbrev fWants : Nat → Nat → Bool := fl [5, 6, 39, 40]
theorem cm_wants {d : Nat} {S : xS} {n : Nat} (h : IA n S) {p g b f : Int32} : CT (d + 3) 0 0 m_C_wants [C0, .inl p, .inl g, .inl b, .inl f] S (fun r S1 => CT (d + 3) 0 0 m_M_wants [M0, .inl p, .inl g, .inl b, .inl f] S1 (fun r' S2 => r' = r ∧ IA n S2 ∧ Fr fWants S S2)) := by
  refine ct_of (xmok_all (by decide)) rfl ?_
  refine V_go (pc := 0) pk_72 [] 80 ?_
  refine ct_Sea_has (fun c1 c2 => ?_) (fun c => ?_)
  · (repeat' first | (refine And.intro (fun q => absurd q (by decide)) (fun _ => ?_)) | (refine And.intro (fun _ => ?_) (fun q => absurd q (by decide))) | fail)
    refine ct_C_isGood (fun c3 c4 => ?_) (fun c => ?_)
    · (repeat' first | (refine And.intro (fun q => absurd q (by decide)) (fun _ => ?_)) | (refine And.intro (fun _ => ?_) (fun q => absurd q (by decide))) | fail)
      refine ct_within (fun c5 c6 => ?_) (fun c => ?_)
      · (repeat' first | (refine And.intro (fun q => absurd q (by decide)) (fun _ => ?_)) | (refine And.intro (fun _ => ?_) (fun q => absurd q (by decide))) | fail)
        refine ct_within (fun c7 c8 => ?_) (fun c => ?_)
        · (repeat' first | (refine And.intro (fun q => absurd q (by decide)) (fun _ => ?_)) | (refine And.intro (fun _ => ?_) (fun q => absurd q (by decide))) | fail)
          have hp5 := (isP h).2 c2
          obtain ⟨e, e24, e1, e2⟩ := at4 c1 hp5 c3 c4
          refine And.intro (vin (m := 5) rfl c1 hp5) ?_
          refine And.intro (vin (m := 3) rfl c3 c4) ?_
          refine And.intro (vin (m := 3) rfl c3 c4) ?_
          refine ct_Port_priceOf (vin (m := 3) rfl c3 c4) ?_
          refine ct_of (xmok_all (by decide)) rfl ?_
          refine V_go (pc := 0) pk_120 [] 80 ?_
          refine ct_M_isPort (fun _ _ => ?_) (fun c => absurd ⟨c1, (isP h).1.mp c2⟩ c)
          (repeat' first | (refine And.intro (fun q => absurd q (by decide)) (fun _ => ?_)) | (refine And.intro (fun _ => ?_) (fun q => absurd q (by decide))) | fail)
          refine ct_M_isGood (fun _ _ => ?_) (fun c => absurd ⟨c3, c4⟩ c)
          (repeat' first | (refine And.intro (fun q => absurd q (by decide)) (fun _ => ?_)) | (refine And.intro (fun _ => ?_) (fun q => absurd q (by decide))) | fail)
          refine ct_M_isIn32 (a := 1) (b := 99) rfl rfl (fun _ _ => ?_) (fun c => absurd ⟨c5, c6⟩ c)
          (repeat' first | (refine And.intro (fun q => absurd q (by decide)) (fun _ => ?_)) | (refine And.intro (fun _ => ?_) (fun q => absurd q (by decide))) | fail)
          refine ct_M_isIn32 (a := 0) (b := 9) rfl rfl (fun _ _ => ?_) (fun c => absurd ⟨c7, c8⟩ c)
          (repeat' first | (refine And.intro (fun q => absurd q (by decide)) (fun _ => ?_)) | (refine And.intro (fun _ => ?_) (fun q => absurd q (by decide))) | fail)
          refine And.intro e24 ?_
          refine And.intro e24 ?_
          refine ct_M_priceOf e24 ?_
          rw [e]
          have h' := h.wants (P := p.toNatClampNeg) (G := g.toNatClampNeg) e2 ⟨c5, c6⟩ ⟨c7, c8⟩
          refine ⟨?_, h', (((Fr.rf.up rfl).up rfl).up rfl).up rfl⟩
          rw [pm_price h' c1 hp5 c3 c4, pPrice_off rfl rfl rfl, pPrice_off rfl rfl rfl]
        · (repeat' first | (refine And.intro (fun q => absurd q (by decide)) (fun _ => ?_)) | (refine And.intro (fun _ => ?_) (fun q => absurd q (by decide))) | fail)
          exact mm_wants_bad h (Or.inr (Or.inr (Or.inr c))) ⟨rfl, h, Fr.rf⟩
      · (repeat' first | (refine And.intro (fun q => absurd q (by decide)) (fun _ => ?_)) | (refine And.intro (fun _ => ?_) (fun q => absurd q (by decide))) | fail)
        exact mm_wants_bad h (Or.inr (Or.inr (Or.inl c))) ⟨rfl, h, Fr.rf⟩
    · (repeat' first | (refine And.intro (fun q => absurd q (by decide)) (fun _ => ?_)) | (refine And.intro (fun _ => ?_) (fun q => absurd q (by decide))) | fail)
      exact mm_wants_bad h (Or.inr (Or.inl c)) ⟨rfl, h, Fr.rf⟩
  · (repeat' first | (refine And.intro (fun q => absurd q (by decide)) (fun _ => ?_)) | (refine And.intro (fun _ => ?_) (fun q => absurd q (by decide))) | fail)
    exact mm_wants_bad h (Or.inl c) ⟨rfl, h, Fr.rf⟩
