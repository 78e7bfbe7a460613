theorem ge_m1 {s : Int32} (h : -1 ≤ s) : (s < 0 ↔ s = -1) := by
  have h1 := Int32.le_iff_toInt_le.mp h
  rw [show (-1 : Int32).toInt = -1 from rfl] at h1
  constructor
  · intro q
    have q := Int32.lt_iff_toInt_lt.mp q
    rw [show (0 : Int32).toInt = 0 from rfl] at q
    apply Int32.toInt_inj.mp
    rw [show (-1 : Int32).toInt = -1 from rfl]; omega
  · intro q; rw [q]; decide
theorem ct_M_sheet {d : Nat} {x s n : Int32} {S : xS} {Q : xQ} (hb : ¬ okSheet x s n → Q (some (.inl (-2))) S) (hz : okSheet x s n → (¬ s = -1 ∧ n < 0) → Q (some (.inl (-14))) S)
    (hk : okSheet x s n → ¬ (¬ s = -1 ∧ n < 0) → Q (some (.inl 1)) (sFill (xupd (xupd S 72 0 x.toNatClampNeg s) 73 0 x.toNatClampNeg (szS s n)) 74 0 (40 * x.toNatClampNeg) 40 0)) : CT (d + 3) 0 0 m_M_sheet [M0, .inl x, .inl s, .inl n] S Q := by
  refine ct_of (xmok_all (by decide)) rfl (V_go (pc := 0) pk_183 [39] 60 ?_)
  refine cM_w 0 3 rfl rfl (by decide) (by decide) (fun h1 => ?_) (fun q => ?_)
  · (repeat' first | (refine And.intro (fun q => absurd q (by decide)) (fun _ => ?_)) | (refine And.intro (fun _ => ?_) (fun q => absurd q (by decide))) | fail)
    have h1 : inC 4 x := by
      obtain ⟨k, -, k2, k3⟩ := h1
      exact ⟨k, by omega, k3⟩
    have hv := h1.vp (N := 4) (by decide)
    refine ct_M_isIn32 (a := -1) (b := 2) rfl rfl (fun g1 g2 => ?_) (fun q => ?_)
    · (repeat' first | (refine And.intro (fun q => absurd q (by decide)) (fun _ => ?_)) | (refine And.intro (fun _ => ?_) (fun q => absurd q (by decide))) | fail)
      have hX := h1.lt
      have ex : (40 : Int32) * x = nI (40 * x.toNatClampNeg) := by rw [show (40 : Int32) * x = 40 * nI x.toNatClampNeg by rw [← h1.eq], show (40 : Int32) = nI 40 from rfl, nI_mul]
      have loop : ∀ (S' : xS) (m j : Nat), j + m = 40 → Q (some (.inl 1)) (sFill S' 74 0 (40 * x.toNatClampNeg) 40 0) → V (d + 3) 0 0 m_M_sheet 78 [some M0, some (.inl x), some (.inl s), some (.inl n), some (.inl (nI (40 * x.toNatClampNeg + j)))] [] (sFill S' 74 0 (40 * x.toNatClampNeg) j 0) Q := by
        intro S' m
        induction m with
        | zero =>
          intro j hj hq
          obtain rfl : j = 40 := by omega
          refine V_go pk_183 [78] 40 ?_
          refine And.intro (fun _ => hq) (fun q => absurd ?_ q)
          show (40 : Int32) * x + 40 ≤ nI (40 * x.toNatClampNeg + 40)
          rw [ex, show (40 : Int32) = nI 40 from rfl, nI_add]
          exact Int32.le_refl _
        | succ m ih =>
          intro j hj hq
          refine V_go pk_183 [78] 40 ?_
          refine And.intro (fun q => ?_) (fun _ => ?_)
          · have q : (40 : Int32) * x + 40 ≤ nI (40 * x.toNatClampNeg + j) := q
            rw [ex, show (40 : Int32) = nI 40 from rfl, nI_add] at q
            exact absurd ((nI_leI (by omega) (by omega)).mp q) (by omega)
          · refine And.intro (vi (N := 160) (by omega)) ?_
            show V (d + 3) 0 0 m_M_sheet 78 [some M0, some (.inl x), some (.inl s), some (.inl n), some (.inl (nI (40 * x.toNatClampNeg + j) + 1))] [] (xupd (sFill S' 74 0 (40 * x.toNatClampNeg) j 0) 74 0 (nI (40 * x.toNatClampNeg + j)).toNatClampNeg 0) Q
            rw [nI_1, nI_clamp (show 40 * x.toNatClampNeg + j < 2 ^ 31 by omega), sFill_s]
            exact ih (j + 1) (by omega) hq
      have fin : okSheet x s n → V (d + 3) 0 0 m_M_sheet 39 [some M0, some (.inl x), some (.inl s), some (.inl n), none] [] S Q := by
        intro ok
        have go : ∀ w : Int32, w = szS s n → ¬ (¬ s = -1 ∧ n < 0) → V (d + 3) 0 0 m_M_sheet 78 [some M0, some (.inl x), some (.inl s), some (.inl n), some (.inl (40 * x))] [] (xupd (xupd S 72 0 x.toNatClampNeg s) 73 0 x.toNatClampNeg w) Q := by
          intro w hw hn
          have hk := hk ok hn
          rw [← hw] at hk
          have := loop (xupd (xupd S 72 0 x.toNatClampNeg s) 73 0 x.toNatClampNeg w) 40 0 (by omega) hk
          rw [sFill_0, Nat.add_zero (40 * x.toNatClampNeg), ← ex] at this
          exact this
        refine V_go pk_183 [78] 60 ?_
        refine And.intro (fun c => ?_) (fun c => ?_)
        · have e := (ge_m1 g1).mp c
          refine And.intro hv ?_
          refine And.intro (fun g => absurd c (Int32.not_lt.mpr g)) (fun _ => ?_)
          refine And.intro hv ?_
          exact go 0 (by unfold szS; rw [if_pos e]) (fun q => q.1 e)
        · have e : ¬ s = -1 := fun q => c ((ge_m1 g1).mpr q)
          refine And.intro (fun c3 => ?_) (fun c3 => ?_)
          · refine And.intro hv ?_
            refine And.intro (fun _ => ?_) (fun g => absurd (Int32.not_le.mp g) c)
            refine And.intro hv ?_
            exact go n (by unfold szS; rw [if_neg e]) (fun q => absurd q.2 (Int32.not_lt.mpr c3))
          · exact hz ok ⟨e, Int32.not_le.mp c3⟩
      refine And.intro (fun c => ?_) (fun c => ?_)
      · exact fin ⟨h1, ⟨g1, g2⟩, fun q => q.1 ((ge_m1 g1).mp c)⟩
      · refine And.intro (fun c2 => ?_) (fun c2 => ?_)
        · exact fin ⟨h1, ⟨g1, g2⟩, fun q => absurd q.2 (Int32.not_lt.mpr c2)⟩
        · exact hb (fun q => q.2.2 ⟨fun g => c ((ge_m1 g1).mpr g), Int32.not_le.mp c2⟩)
    · (repeat' first | (refine And.intro (fun q => absurd q (by decide)) (fun _ => ?_)) | (refine And.intro (fun _ => ?_) (fun q => absurd q (by decide))) | fail)
      exact hb (fun g => q g.2.1)
  · (repeat' first | (refine And.intro (fun q => absurd q (by decide)) (fun _ => ?_)) | (refine And.intro (fun _ => ?_) (fun q => absurd q (by decide))) | fail)
    refine hb (fun g => q ?_)
    obtain ⟨k, k1, k2⟩ := g.1
    exact ⟨k, by omega, by omega, k2⟩
theorem IE.sheet {S : xS} (h : IE S) {X : Nat} (hX : X < 4) {s w : Int32} (hs : s = -1 ∨ ∃ c, c ≤ 2 ∧ s = nI c) (hw : ∃ c, c ≤ 40 ∧ w = nI c) : IE (sFill (xupd (xupd (sFill (xupd (xupd S 21 X 1 s) 21 X 2 w) 22 X 0 40 0) 72 0 X s) 73 0 X w) 74 0 (40 * X) 40 0) := by
  intro q hq
  obtain ⟨⟨a1, a2⟩, a3, a4, a5⟩ := h q hq
  by_cases e : q = X
  · subst e
    refine ⟨⟨?_, ?_⟩, ?_, ?_, fun i hi => ?_⟩
    · simp (decide := true) only [sFill_at, xu, true_and, false_and, and_true, and_false, if_true, if_false]
    · simp (decide := true) only [sFill_at, xu, true_and, false_and, and_true, and_false, if_true, if_false]
    · simp (decide := true) only [sFill_at, xu, true_and, false_and, and_true, and_false, if_true, if_false]; exact hs
    · simp (decide := true) only [sFill_at, xu, true_and, false_and, and_true, and_false, if_true, if_false]; exact hw
    · have c1 : 40 * q ≤ 40 * q + i ∧ 40 * q + i < 40 * q + 40 := by omega
      have c2 : 0 ≤ i ∧ i < 0 + 40 := by omega
      simp (decide := true) only [sFill_at, xu, true_and, false_and, and_true, and_false, if_true, if_false, c1, c2, and_self]
  · refine ⟨⟨?_, ?_⟩, ?_, ?_, fun i hi => ?_⟩
    · simp (decide := true) only [sFill_at, xu, true_and, false_and, and_true, and_false, if_true, if_false, e]; exact a1
    · simp (decide := true) only [sFill_at, xu, true_and, false_and, and_true, and_false, if_true, if_false, e]; exact a2
    · simp (decide := true) only [sFill_at, xu, true_and, false_and, and_true, and_false, if_true, if_false, e]; exact a3
    · simp (decide := true) only [sFill_at, xu, true_and, false_and, and_true, and_false, if_true, if_false, e]; exact a4
    · have c1 : ¬ (40 * X ≤ 40 * q + i ∧ 40 * q + i < 40 * X + 40) := by omega
      simp (decide := true) only [sFill_at, xu, true_and, false_and, and_true, and_false, if_true, if_false, c1, e]; exact a5 i hi
theorem Fr.fill {f : Nat → Nat → Bool} {S S2 : xS} (h : Fr f S S2) {k i a m : Nat} {v : Int32} (hk : ∀ j, f k j = true) : Fr f S (sFill S2 k i a m v) := by
  refine ⟨fun k' i' j' hf => ?_, h.2⟩
  rw [sFill_at, if_neg (fun q => by rw [q.1, hk] at hf; cases hf)]
  exact h.1 k' i' j' hf
theorem cm_sheet {dp : Nat} {S : xS} (hE : IE S) {x s n : Int32} : CT (dp + 3) 0 0 m_C_sheet [C0, .inl x, .inl s, .inl n] S (fun a S1 => CT (dp + 3) 0 0 m_M_sheet [M0, .inl x, .inl s, .inl n] S1 (fun a' S2 => a' = a ∧ IE S2 ∧ Fr (fl [22001, 22002, 22, 72, 73, 74]) S S2)) := by
  refine ct_C_sheet_ (fun q => ?_) (fun ok q => ?_) (fun ok q => ?_)
  · exact ct_M_sheet (fun _ => ⟨rfl, hE, Fr.rf⟩) (fun g => absurd g q) (fun g => absurd g q)
  · exact ct_M_sheet (fun g => absurd ok g) (fun _ _ => ⟨rfl, hE, Fr.rf⟩) (fun _ g => absurd q g)
  · refine ct_M_sheet (fun g => absurd ok g) (fun _ g => absurd g q) (fun _ _ => ⟨rfl, ?_, ?_⟩)
    · refine hE.sheet ok.1.lt ?_ ?_
      · by_cases c : s = -1
        · exact Or.inl c
        · have h0 : ¬ s < 0 := fun q => c ((ge_m1 ok.2.1.1).mp q)
          obtain ⟨j, hj, e⟩ := nI_of2 (M := 2) (n := 2) rfl h0 ok.2.1.2
          exact Or.inr ⟨j, hj, e⟩
      · unfold szS
        by_cases c : s = -1
        · exact ⟨0, by omega, by rw [if_pos c]; rfl⟩
        · rw [if_neg c]
          have h0 : ¬ n < 0 := fun g => q ⟨c, g⟩
          have h40 : n ≤ 40 := Int32.not_lt.mp (fun g => ok.2.2 ⟨c, g⟩)
          obtain ⟨j, hj, e⟩ := nI_of2 (M := 40) (n := 40) rfl h0 h40
          exact ⟨j, hj, e⟩
    · exact (((((Fr.rf.up rfl).up rfl).fill (fun _ => rfl)).up rfl).up rfl).fill (fun _ => rfl)
