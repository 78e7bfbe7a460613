theorem mm_port_bad {d : Nat} {S : xS} {x y : Int32} (hb : ¬ (0 ≤ x ∧ x ≤ 99) ∨ ¬ (0 ≤ y ∧ y ≤ 99)) {Q : xQ} (hq : Q (some (.inl (-2))) S) : CT (d + 3) 0 0 m_M_port [M0, .inl x, .inl y] S Q := by
  refine ct_of (xmok_all (by decide)) rfl ?_
  refine V_go (pc := 0) pk_118 [] 60 ?_
  refine ct_M_isIn32 (a := 0) (b := 99) rfl rfl (fun c1 c2 => ?_) (fun c => ?_)
  · (repeat' first | (refine And.intro (fun q => absurd q (by decide)) (fun _ => ?_)) | (refine And.intro (fun _ => ?_) (fun q => absurd q (by decide))) | fail)
    refine ct_M_isIn32 (a := 0) (b := 99) rfl rfl (fun c3 c4 => ?_) (fun c => ?_)
    · exact absurd ⟨c3, c4⟩ (hb.resolve_left (fun q => q ⟨c1, c2⟩))
    · (repeat' first | (refine And.intro (fun q => absurd q (by decide)) (fun _ => ?_)) | (refine And.intro (fun _ => ?_) (fun q => absurd q (by decide))) | fail)
      exact hq
  · (repeat' first | (refine And.intro (fun q => absurd q (by decide)) (fun _ => ?_)) | (refine And.intro (fun _ => ?_) (fun q => absurd q (by decide))) | fail)
    exact hq
/-- the class's store behind found(x, y) -/
def sFound (S : xS) (x y : Int32) : xS := xupd (xupd (xupd (xupd (xupd (xupd (xupd S 4 (S.1 1 0 2).toNatClampNeg 0 x) 4 (S.1 1 0 2).toNatClampNeg 1 y) 5 (S.1 1 0 2).toNatClampNeg 0 10) 5 (S.1 1 0 2).toNatClampNeg 1 10) 5 (S.1 1 0 2).toNatClampNeg 2 10) 5 (S.1 1 0 2).toNatClampNeg 3 10) 1 0 2 (S.1 1 0 2 + 1)
theorem ct_Sea_found {d : Nat} {x y : Int32} {S : xS} {Q : xQ} (hs : vp_in (S.1 1 0 2) 6) (h : Q (some (.inl (S.1 1 0 2 + 1 - 1))) (sFound S x y)) : CT (d + 1) 0 0 m_Sea_found [.inr (.inr (1, 0)), .inl x, .inl y] S Q := by
  refine ct_of (xmok_all (by decide)) rfl ?_
  refine V_go (pc := 0) pk_42 [] 60 ?_
  refine And.intro hs ?_
  refine ct_fill_5 ?_
  show Q (some (.inl _)) _
  simp (decide := true) only [xu, true_and, false_and, and_true, and_false, if_true, if_false]
  exact h
/-- the model's store behind port(x, y) -/
def sMport (S : xS) (x y : Int32) : xS := xupd (xupd (xupd (xupd (xupd (xupd (xupd S 37 0 (S.1 36 0 1).toNatClampNeg x) 38 0 (S.1 36 0 1).toNatClampNeg y) 39 0 (4 * S.1 36 0 1 + 0).toNatClampNeg 10) 39 0 (4 * S.1 36 0 1 + (0 + 1)).toNatClampNeg 10) 39 0 (4 * S.1 36 0 1 + (0 + 1 + 1)).toNatClampNeg 10) 39 0 (4 * S.1 36 0 1 + (0 + 1 + 1 + 1)).toNatClampNeg 10) 36 0 1 (S.1 36 0 1 + 1)
theorem ct_M_port_ok {d : Nat} {x y : Int32} {S : xS} {Q : xQ} (c1 : 0 ≤ x) (c2 : x ≤ 99) (c3 : 0 ≤ y) (c4 : y ≤ 99) (h0 : 0 ≤ S.1 36 0 1) (h5 : S.1 36 0 1 ≤ 5) (h : Q (some (.inl (S.1 36 0 1 + 1 - 1))) (sMport S x y)) : CT (d + 1) 0 0 m_M_port [M0, .inl x, .inl y] S Q := by
  have hv : vp_in (S.1 36 0 1) 6 := vin (m := 5) rfl h0 h5
  have hn : ¬ S.1 36 0 1 = 6 := fun q => by rw [q] at h5; exact absurd h5 (by decide)
  refine ct_of (xmok_all (by decide)) rfl ?_
  refine V_go (pc := 0) pk_118 [] 120 ?_
  refine ct_M_isIn32 (a := 0) (b := 99) rfl rfl (fun _ _ => ?_) (fun c => absurd ⟨c1, c2⟩ c)
  (repeat' first | (refine And.intro (fun q => absurd q (by decide)) (fun _ => ?_)) | (refine And.intro (fun _ => ?_) (fun q => absurd q (by decide))) | fail)
  refine ct_M_isIn32 (a := 0) (b := 99) rfl rfl (fun _ _ => ?_) (fun c => absurd ⟨c3, c4⟩ c)
  (repeat' first | (refine And.intro (fun q => absurd q (by decide)) (fun _ => ?_)) | (refine And.intro (fun _ => ?_) (fun q => absurd q (by decide))) | fail)
  refine And.intro (fun _ => ?_) (fun q => absurd q hn)
  refine And.intro hv ?_
  refine And.intro hv ?_
  (repeat' first | (refine And.intro (fun q => absurd q (by decide)) (fun _ => ?_)) | (refine And.intro (fun _ => ?_) (fun q => absurd q (by decide))) | fail)
  refine And.intro (by simp (decide := true) only [xu, true_and, false_and, and_true, and_false, if_true, if_false]; exact (at4 h0 h5 (by decide) (by decide)).2.1) ?_
  (repeat' first | (refine And.intro (fun q => absurd q (by decide)) (fun _ => ?_)) | (refine And.intro (fun _ => ?_) (fun q => absurd q (by decide))) | fail)
  refine And.intro (by simp (decide := true) only [xu, true_and, false_and, and_true, and_false, if_true, if_false]; exact (at4 h0 h5 (by decide) (by decide)).2.1) ?_
  (repeat' first | (refine And.intro (fun q => absurd q (by decide)) (fun _ => ?_)) | (refine And.intro (fun _ => ?_) (fun q => absurd q (by decide))) | fail)
  refine And.intro (by simp (decide := true) only [xu, true_and, false_and, and_true, and_false, if_true, if_false]; exact (at4 h0 h5 (by decide) (by decide)).2.1) ?_
  (repeat' first | (refine And.intro (fun q => absurd q (by decide)) (fun _ => ?_)) | (refine And.intro (fun _ => ?_) (fun q => absurd q (by decide))) | fail)
  refine And.intro (by simp (decide := true) only [xu, true_and, false_and, and_true, and_false, if_true, if_false]; exact (at4 h0 h5 (by decide) (by decide)).2.1) ?_
  (repeat' first | (refine And.intro (fun q => absurd q (by decide)) (fun _ => ?_)) | (refine And.intro (fun _ => ?_) (fun q => absurd q (by decide))) | fail)
  show Q (some (.inl _)) _
  simp (decide := true) only [xu, true_and, false_and, and_true, and_false, if_true, if_false]
  exact h
theorem IA.port {S : xS} {n : Nat} (h : IA n S) {x y : Int32} (hs5 : S.1 1 0 2 ≤ 5) (hx : 0 ≤ x ∧ x ≤ 99) (hy : 0 ≤ y ∧ y ≤ 99) : IA n (sMport (sFound S x y) x y) := by
  have h0 := h.1.1
  have e36 : (sFound S x y).1 36 0 1 = S.1 1 0 2 := by unfold sFound; simp (decide := true) only [xu, true_and, false_and, and_true, and_false, if_true, if_false]; exact h.2.1
  obtain ⟨P, hP⟩ : ∃ P : Nat, P = (S.1 1 0 2).toNatClampNeg := ⟨_, rfl⟩
  have i0 : (4 * (sFound S x y).1 36 0 1 + 0).toNatClampNeg = 4 * P + 0 := by rw [e36, hP]; exact (at4 h0 hs5 (by decide) (by decide)).1
  have i1 : (4 * (sFound S x y).1 36 0 1 + (0 + 1)).toNatClampNeg = 4 * P + 1 := by rw [e36, hP]; exact (at4 h0 hs5 (by decide) (by decide)).1
  have i2 : (4 * (sFound S x y).1 36 0 1 + (0 + 1 + 1)).toNatClampNeg = 4 * P + 2 := by rw [e36, hP]; exact (at4 h0 hs5 (by decide) (by decide)).1
  have i3 : (4 * (sFound S x y).1 36 0 1 + (0 + 1 + 1 + 1)).toNatClampNeg = 4 * P + 3 := by rw [e36, hP]; exact (at4 h0 hs5 (by decide) (by decide)).1
  have b1 : 0 ≤ S.1 1 0 2 + 1 ∧ S.1 1 0 2 + 1 ≤ 6 := by
    have a1 := leI h0; have a2 := leI hs5
    rw [show (0 : Int32).toInt = 0 from rfl] at a1
    rw [show (5 : Int32).toInt = 5 from rfl] at a2
    have e : (S.1 1 0 2 + 1).toInt = (S.1 1 0 2).toInt + 1 := adI (by rw [show (1 : Int32).toInt = 1 from rfl]; omega) (by rw [show (1 : Int32).toInt = 1 from rfl]; omega)
    exact ⟨Int32.le_iff_toInt_le.mpr (by rw [e, show (0 : Int32).toInt = 0 from rfl]; omega), Int32.le_iff_toInt_le.mpr (by rw [e, show (6 : Int32).toInt = 6 from rfl]; omega)⟩
  obtain ⟨-, -, h3, h4, h5⟩ := h
  unfold sMport
  rw [i0, i1, i2, i3, e36, ← hP]
  unfold sFound
  rw [← hP]
  refine ⟨?_, ?_, fun p hp => ?_, fun p g hp hg => ?_, fun m hm => ?_⟩
  · simp (decide := true) only [xu, true_and, false_and, and_true, and_false, if_true, if_false]
    exact b1
  · simp (decide := true) only [xu, true_and, false_and, and_true, and_false, if_true, if_false]
  · obtain ⟨q1, q2, q3⟩ := h3 p hp
    simp (decide := true) only [xu, true_and, false_and, and_true, and_false, if_true, if_false]
    by_cases c : p = P
    · simp only [if_pos c]
      exact ⟨trivial, trivial, hx, hy⟩
    · simp only [if_neg c]
      exact ⟨q1, q2, q3⟩
  · obtain ⟨⟨q1, q2, q3⟩, q4, q5, q6⟩ := h4 p g hp hg
    have hc : ∀ j, j < 4 → ((4 * p + g = 4 * P + j) ↔ (g = j ∧ p = P)) := fun j hj => by omega
    simp (decide := true) only [xu, true_and, false_and, and_true, and_false, if_true, if_false]
    simp only [hc 0 (by omega), hc 1 (by omega), hc 2 (by omega), hc 3 (by omega)]
    by_cases c : p = P
    · subst c
      simp only [true_and]
      have hg4 : g = 0 ∨ g = 1 ∨ g = 2 ∨ g = 3 := by omega
      rcases hg4 with rfl | rfl | rfl | rfl
      · exact ⟨⟨rfl, q2, q3⟩, ⟨show (0 : Int32) ≤ 10 by decide, show (10 : Int32) ≤ 99 by decide⟩, q5, q6⟩
      · exact ⟨⟨rfl, q2, q3⟩, ⟨show (0 : Int32) ≤ 10 by decide, show (10 : Int32) ≤ 99 by decide⟩, q5, q6⟩
      · exact ⟨⟨rfl, q2, q3⟩, ⟨show (0 : Int32) ≤ 10 by decide, show (10 : Int32) ≤ 99 by decide⟩, q5, q6⟩
      · exact ⟨⟨rfl, q2, q3⟩, ⟨show (0 : Int32) ≤ 10 by decide, show (10 : Int32) ≤ 99 by decide⟩, q5, q6⟩
    · simp only [c, and_false, if_false]
      exact ⟨⟨q1, q2, q3⟩, q4, q5, q6⟩
  · simp (decide := true) only [xu, true_and, false_and, and_true, and_false, if_true, if_false]
    exact h5 m hm
abbrev fPort : Nat → Nat → Bool := fl [5000, 5001, 5, 37, 38, 39, 2002, 37001]
theorem cm_port {d : Nat} {S : xS} {n : Nat} (h : IA n S) {x y : Int32} : CT (d + 3) 0 0 m_C_port [C0, .inl x, .inl y] S (fun r S1 => CT (d + 3) 0 0 m_M_port [M0, .inl x, .inl y] S1 (fun r' S2 => r' = r ∧ IA n S2 ∧ Fr fPort S S2)) := by
  refine ct_of (xmok_all (by decide)) rfl ?_
  refine V_go (pc := 0) pk_71 [] 60 ?_
  refine ct_within (fun c1 c2 => ?_) (fun c => ?_)
  · (repeat' first | (refine And.intro (fun q => absurd q (by decide)) (fun _ => ?_)) | (refine And.intro (fun _ => ?_) (fun q => absurd q (by decide))) | fail)
    refine ct_within (fun c3 c4 => ?_) (fun c => ?_)
    · (repeat' first | (refine And.intro (fun q => absurd q (by decide)) (fun _ => ?_)) | (refine And.intro (fun _ => ?_) (fun q => absurd q (by decide))) | fail)
      have hs := h.1
      have h36 := h.2.1
      refine And.intro (fun c5 => ?_) (fun c5 => ?_)
      · have hs5 : S.1 1 0 2 ≤ 5 := by
          have := ltI c5
          rw [show (6 : Int32).toInt = 6 from rfl] at this
          exact Int32.le_iff_toInt_le.mpr (by rw [show (5 : Int32).toInt = 5 from rfl]; omega)
        refine ct_Sea_found (vin (m := 5) rfl hs.1 hs5) ?_
        have e36 : (sFound S x y).1 36 0 1 = S.1 1 0 2 := by unfold sFound; simp (decide := true) only [xu, true_and, false_and, and_true, and_false, if_true, if_false]; exact h36
        refine ct_M_port_ok c1 c2 c3 c4 (by rw [e36]; exact hs.1) (by rw [e36]; exact hs5) ?_
        refine ⟨by rw [e36], ?_, ?_⟩
        · exact h.port hs5 ⟨c1, c2⟩ ⟨c3, c4⟩
        · unfold sMport sFound
          exact (((((((((((((Fr.rf.up rfl).up rfl).up rfl).up rfl).up rfl).up rfl).up rfl).up rfl).up rfl).up rfl).up rfl).up rfl).up rfl).up rfl
      · refine ct_of (xmok_all (by decide)) rfl ?_
        refine V_go (pc := 0) pk_118 [] 100 ?_
        refine ct_M_isIn32 (a := 0) (b := 99) rfl rfl (fun _ _ => ?_) (fun c => absurd ⟨c1, c2⟩ c)
        (repeat' first | (refine And.intro (fun q => absurd q (by decide)) (fun _ => ?_)) | (refine And.intro (fun _ => ?_) (fun q => absurd q (by decide))) | fail)
        refine ct_M_isIn32 (a := 0) (b := 99) rfl rfl (fun _ _ => ?_) (fun c => absurd ⟨c3, c4⟩ c)
        (repeat' first | (refine And.intro (fun q => absurd q (by decide)) (fun _ => ?_)) | (refine And.intro (fun _ => ?_) (fun q => absurd q (by decide))) | fail)
        have e6 : S.1 36 0 1 = 6 := by rw [h36]; exact Int32.le_antisymm hs.2 (Int32.not_lt.mp c5)
        refine And.intro (fun q => absurd e6 q) (fun _ => ?_)
        exact ⟨rfl, h, Fr.rf⟩
    · (repeat' first | (refine And.intro (fun q => absurd q (by decide)) (fun _ => ?_)) | (refine And.intro (fun _ => ?_) (fun q => absurd q (by decide))) | fail)
      exact mm_port_bad (Or.inr c) ⟨rfl, h, Fr.rf⟩
  · (repeat' first | (refine And.intro (fun q => absurd q (by decide)) (fun _ => ?_)) | (refine And.intro (fun _ => ?_) (fun q => absurd q (by decide))) | fail)
    exact mm_port_bad (Or.inl c) ⟨rfl, h, Fr.rf⟩
