theorem ID.mono {nd nd' nv : Nat} {S : xS} (h : ID nd nv S) (hn : nd ≤ nd') : ID nd' nv S := fun v hv => ⟨fun q => by
  obtain ⟨a1, a2, a3, a4⟩ := (h v hv).1 q
  exact ⟨a1, a2, a3.imp id (fun ⟨d, q1, q2⟩ => ⟨d, by omega, q2⟩), a4⟩, (h v hv).2⟩
theorem ID.venture {nd nv : Nat} {S : xS} (h : ID nd nv S) (hv : nv < 16) (hd : nd ≤ 4) {k x a p : Int32} (ok : okV nd k x a p) {D : Nat} {u w : Int32} : ID nd (nv + 1) (xupd (xupd (xupd (xupd (xupd (xupd (xupd (xupd (xupd (xupd (xupd (xupd (xupd (xupd S 15 nv 0 k) 15 nv 1 x) 15 nv 2 a) 15 nv 3 p) 15 nv 4 (owV k a (S.1 15 nv 4))) 12 D 4 u) 0 0 10 (nI (nv + 1))) 46 0 D w) 53 0 nv k) 54 0 nv x) 55 0 nv a) 56 0 nv p) 57 0 nv (owV k a 0)) 36 0 19 (nI (nv + 1))) := by
  intro v hv16
  by_cases e : v = nv
  · subst e
    refine ⟨fun _ => ?_, fun q => absurd q (by omega)⟩
    obtain ⟨f4, f5, f7, m58, m59⟩ := (h v hv16).2 (Nat.le_refl _)
    obtain ⟨⟨K, -, k2, rfl⟩, ⟨X, x1, rfl⟩, ⟨A, a1, a2, rfl⟩, ⟨P, -, p2, rfl⟩⟩ := ok
    refine ⟨⟨?_, ?_, ?_, ?_, ?_, ?_, ?_⟩, ⟨K, by omega, ?_⟩, Or.inr ⟨X, x1, ?_⟩, ⟨A, a2, ?_⟩, ⟨P, p2, ?_⟩, ?_, Or.inl ?_⟩
    · simp (decide := true) only [xu, true_and, false_and, and_true, and_false, if_true, if_false]
    · simp (decide := true) only [xu, true_and, false_and, and_true, and_false, if_true, if_false]
    · simp (decide := true) only [xu, true_and, false_and, and_true, and_false, if_true, if_false]
    · simp (decide := true) only [xu, true_and, false_and, and_true, and_false, if_true, if_false]
    · simp (decide := true) only [xu, true_and, false_and, and_true, and_false, if_true, if_false, f4]
    · show S.1 59 0 v = S.1 15 v 5
      rw [f5, m59]
    · show S.1 58 0 v = S.1 15 v 7
      rw [f7, m58]
    · simp (decide := true) only [xu, true_and, false_and, and_true, and_false, if_true, if_false]
    · simp (decide := true) only [xu, true_and, false_and, and_true, and_false, if_true, if_false]
    · simp (decide := true) only [xu, true_and, false_and, and_true, and_false, if_true, if_false]
    · simp (decide := true) only [xu, true_and, false_and, and_true, and_false, if_true, if_false]
    · simp (decide := true) only [xu, true_and, false_and, and_true, and_false, if_true, if_false, f4]
      unfold owV
      by_cases c : nI K = 2
      · exact ⟨A, by omega, if_pos c⟩
      · by_cases c2 : nI K = 5
        · refine ⟨A + A / 10, by omega, ?_⟩
          rw [if_neg c, if_pos c2, show (10 : Int32) = nI 10 from rfl, nI_div (by omega) (by decide) (by decide), nI_add]
        · exact ⟨0, by omega, by rw [if_neg c, if_neg c2]; rfl⟩
    · exact f7
  · refine ⟨fun q => ?_, fun q => ?_⟩
    · have := (h v hv16).1 (by omega)
      unfold IDl at this ⊢
      simp (decide := true) only [xu, true_and, false_and, and_true, and_false, if_true, if_false, e]
      exact this
    · have := (h v hv16).2 (by omega)
      unfold IDf at this ⊢
      simp (decide := true) only [xu, true_and, false_and, and_true, and_false, if_true, if_false, e]
      exact this
theorem IB.purse {n np nd t D A : Nat} {S : xS} (h : IB n np nd t S) (hA : A ≤ 100000 * (n + 2)) (hD : D < nd) : IB (n + 1) np nd t (xupd (xupd S 12 D 4 (nI A)) 46 0 D (nI A)) := by
  intro d hd
  refine ⟨fun q => ?_, fun q => ?_⟩
  · obtain ⟨⟨a1, a2, a3, a4, a5, a6⟩, a7, a8, a9, ⟨c, a13, a14⟩, a15, a16⟩ := (h d hd).1 q
    have k15 : S.1 12 d 6 = -1 ∨ ∃ c, c ≤ 100000 * (n + 1 + 1) ∧ S.1 12 d 6 = nI c := a15.imp id (fun ⟨c, q1, q2⟩ => ⟨c, by omega, q2⟩)
    by_cases e : d = D
    · subst e
      exact ⟨⟨a1, a2, a3, by simp (decide := true) only [xu, true_and, false_and, and_true, and_false, if_true, if_false], a5, a6⟩, a7, a8, a9, ⟨A, by omega, by simp (decide := true) only [xu, true_and, false_and, and_true, and_false, if_true, if_false]⟩, k15, a16⟩
    · exact ⟨⟨a1, a2, a3, by simp (decide := true) only [xu, true_and, false_and, and_true, and_false, if_true, if_false, e]; exact a4, a5, a6⟩, a7, a8, a9, ⟨c, by omega, by simp (decide := true) only [xu, true_and, false_and, and_true, and_false, if_true, if_false, e]; exact a14⟩, k15, a16⟩
  · exact (h d hd).2 q
theorem nI_ng {a b : Nat} (h : b ≤ a) (ha : a < 2 ^ 31) : nI a + -nI b = nI (a - b) := by rw [← Int32.sub_eq_add_neg, nI_sb h ha]
theorem cm_venture {dp n np nd nv nt r t : Nat} {S : xS} (hn : n ≤ 600) (hN : IN np nd nv nt r t S) (hB : IB n np nd t S) (hD : ID nd nv S) {k x a p : Int32} : CT (dp + 3) 0 0 m_C_venture [C0, .inl k, .inl x, .inl a, .inl p] S (fun q S1 => CT (dp + 3) 0 0 m_M_venture [M0, .inl k, .inl x, .inl a, .inl p] S1 (fun q' S2 => q' = q ∧ (∃ nv', IN np nd nv' nt r t S2 ∧ IB (n + 1) np nd t S2 ∧ ID nd nv' S2) ∧ Fr (fl [16000, 16001, 16002, 16003, 16004, 13004, 1010, 46, 53, 54, 55, 56, 57, 37019]) S S2)) := by
  obtain ⟨⟨b1, b2, b3, b4, b5, b6⟩, ⟨e1, e2⟩, ⟨e3, e4⟩, ⟨e7, e8⟩, e9⟩ := id hN
  have keep : ∃ nv', IN np nd nv' nt r t S ∧ IB (n + 1) np nd t S ∧ ID nd nv' S := ⟨nv, hN, hB.succ, hD⟩
  have hl : ∀ D, D < nd → IBl n np t D S := fun D hD => (hB D (by omega)).1 hD
  have iff1 : okV nd k x a p → ((mThere S x.toNatClampNeg ∧ (k = 1 ∨ S.1 47 0 x.toNatClampNeg = -1) ∧ (¬ k = 2 ∨ a ≤ S.1 46 0 x.toNatClampNeg)) ↔ (cThere S x.toNatClampNeg ∧ (k = 1 ∨ S.1 12 x.toNatClampNeg 6 = -1) ∧ (¬ k = 2 ∨ a ≤ S.1 12 x.toNatClampNeg 4))) := fun ok => by
    have hb := hl _ ok.2.1.lt
    rw [there_eq hb b1, hb.1.2.2.2.2.1, hb.1.2.2.2.1]
  refine ct_C_venture e3 e7 b2 b3 (fun q => ?_) (fun ok q => ?_) (fun ok q q2 => ?_) (fun ok q q2 => ?_)
  · exact ct_M_venture e4 e8 b2 b3 (fun _ => ⟨rfl, keep, Fr.rf⟩) (fun g => absurd g q) (fun g => absurd g q) (fun g => absurd g q)
  · exact ct_M_venture e4 e8 b2 b3 (fun g => absurd ok g) (fun _ _ => ⟨rfl, keep, Fr.rf⟩) (fun _ g => absurd ((iff1 ok).mp g) q) (fun _ g => absurd ((iff1 ok).mp g) q)
  · exact ct_M_venture e4 e8 b2 b3 (fun g => absurd ok g) (fun _ g => absurd ((iff1 ok).mpr q) g) (fun _ _ _ => ⟨rfl, keep, Fr.rf⟩) (fun _ _ g => absurd g (by omega))
  · have hb := hl _ ok.2.1.lt
    obtain ⟨A, hA1, eA⟩ := hb.2.2.2.2.1
    have e46 : S.1 46 0 x.toNatClampNeg = nI A := hb.1.2.2.2.1.trans eA
    refine ct_M_venture (nd := nd) (nv := nv) (by exact e4) (by exact e8) b2 b3 (fun g => absurd ok g) (fun _ g => absurd ((iff1 ok).mpr q) g) (fun _ _ g => absurd g (by omega)) (fun _ _ _ => ⟨rfl, ⟨nv + 1, ?_, ?_, ?_⟩, ?_⟩)
    · exact ⟨⟨b1, b2, by omega, b4, b5, b6⟩, ⟨e1, e2⟩, ⟨e3, e4⟩, ⟨rfl, rfl⟩, e9⟩
    · obtain ⟨A', hA', eA'⟩ : ∃ A', A' ≤ 100000 * (n + 2) ∧ nI A + brV k a = nI A' := by
        obtain ⟨B, -, hB2, eB⟩ := ok.2.2.1
        unfold brV
        by_cases c : k = 1
        · exact ⟨A, by omega, by rw [if_pos c]; exact Int32.add_zero _⟩
        · by_cases c2 : k = 2
          · have := q.2.2.resolve_left (fun g => g c2)
            rw [eB, eA, nI_leI (by omega) (by omega)] at this
            exact ⟨A - B, by omega, by rw [if_neg c, if_pos c2, eB, nI_ng this (by omega)]⟩
          · exact ⟨A + B, by omega, by rw [if_neg c, if_neg c2, eB, nI_add]⟩
      have := hB.purse hA' ok.2.1.lt
      refine IB.fr (l := [16000, 16001, 16002, 16003, 16004, 1010, 53, 54, 55, 56, 57, 37019]) (S := xupd (xupd S 12 x.toNatClampNeg 4 (nI A')) 46 0 x.toNatClampNeg (nI A')) ?_ (by decide) this
      refine ⟨fun i j l hij => ?_, rfl⟩
      show (xupd (xupd (xupd (xupd (xupd (xupd (xupd (xupd (xupd (xupd (xupd (xupd (xupd (xupd S 15 nv 0 k) 15 nv 1 x) 15 nv 2 a) 15 nv 3 p) 15 nv 4 (owV k a (S.1 15 nv 4))) 12 x.toNatClampNeg 4 (S.1 12 x.toNatClampNeg 4 + brV k a)) 0 0 10 (nI (nv + 1))) 46 0 x.toNatClampNeg (brV k a + S.1 46 0 x.toNatClampNeg)) 53 0 nv k) 54 0 nv x) 55 0 nv a) 56 0 nv p) 57 0 nv (owV k a 0)) 36 0 19 (nI (nv + 1))).1 i j l = _
      rw [eA, e46, Int32.add_comm (brV k a) (nI A), eA']
      have hz : ∀ (k' j' : Nat), fl [16000, 16001, 16002, 16003, 16004, 1010, 53, 54, 55, 56, 57, 37019] k' j' = true → ¬ (i = k' ∧ l = j') := fun k' j' g q => by rw [q.1, q.2, g] at hij; cases hij
      have z1 := hz 15 0 rfl; have z2 := hz 15 1 rfl; have z3 := hz 15 2 rfl; have z4 := hz 15 3 rfl; have z5 := hz 15 4 rfl; have z6 := hz 0 10 rfl; have z7 := hz 53 nv rfl; have z8 := hz 54 nv rfl; have z9 := hz 55 nv rfl; have z10 := hz 56 nv rfl; have z11 := hz 57 nv rfl; have z12 := hz 36 19 rfl
      simp only [xu, ← and_assoc, z1, z2, z3, z4, z5, z6, z7, z8, z9, z10, z11, z12, false_and, if_false]
    · exact hD.venture q2 b2 ok
    · exact (((((((((((((Fr.rf.up rfl).up rfl).up rfl).up rfl).up rfl).up rfl).up rfl).up rfl).up rfl).up rfl).up rfl).up rfl).up rfl).up rfl
