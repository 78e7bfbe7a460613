/-! cell, taken -/
def cV (s v : Int32) : Int32 := if s = 0 then v.toInt8.toInt32 else if s = 1 then v.toInt16.toInt32 else v
theorem ct_put {d i : Nat} {j v : Int32} {S : xS} {Q : xQ} (hj : vp_in j 40) (h : Q none (xupd S 22 i j.toNatClampNeg (cV (S.1 21 i 1) v))) : CT d 0 0 m_Sheet_put [.inr (.inr (21, i)), .inl j, .inl v] S Q := by
  unfold cV at h
  refine ct_of (xmok_all (by decide)) rfl (V_go (pc := 0) pk_49 [] 60 ?_)
  refine And.intro (fun c => ?_) (fun c => ?_)
  · rw [if_neg c] at h
    refine And.intro (fun c2 => ?_) (fun c2 => ?_)
    · rw [if_neg c2] at h
      refine And.intro hj ?_
      exact h
    · rw [if_pos c2] at h
      refine And.intro hj ?_
      exact h
  · rw [if_pos c] at h
    refine And.intro hj ?_
    exact h
theorem IE.cell {S : xS} (h : IE S) {X I : Nat} (hI : I < 40) {v : Int32} : IE (xupd (xupd S 22 X I v) 74 0 (40 * X + I) v) := by
  intro q hq
  obtain ⟨a1, a3, a4, a5⟩ := h q hq
  refine ⟨a1, a3, a4, fun i hi => ?_⟩
  by_cases e : q = X ∧ i = I
  · obtain ⟨rfl, rfl⟩ := e
    simp (decide := true) only [xu, true_and, false_and, and_true, and_false, if_true, if_false]
  · have e1 : ¬ (40 * q + i = 40 * X + I) := fun g => e (by omega)
    have e2 : ¬ (i = I ∧ q = X) := fun g => e ⟨g.2, g.1⟩
    simp (decide := true) only [xu, true_and, false_and, and_true, and_false, if_true, if_false, e1, e2]
    exact a5 i hi
theorem cm_cell {dp : Nat} {S : xS} (hE : IE S) {x i v : Int32} : CT (dp + 3) 0 0 m_C_cell [C0, .inl x, .inl i, .inl v] S (fun a S1 => CT (dp + 3) 0 0 m_M_cell [M0, .inl x, .inl i, .inl v] S1 (fun a' S2 => a' = a ∧ IE S2 ∧ Fr (fl [22, 74]) S S2)) := by
  have mm : ∀ {S' : xS} {Q : xQ}, (¬ inC 4 x → Q (some (.inl (-2))) S') → (inC 4 x → S'.1 72 0 x.toNatClampNeg < 0 → Q (some (.inl (-11))) S') → (inC 4 x → ¬ S'.1 72 0 x.toNatClampNeg < 0 → ¬ (0 ≤ i ∧ i < S'.1 73 0 x.toNatClampNeg) → Q (some (.inl (-12))) S') → (inC 4 x → ¬ S'.1 72 0 x.toNatClampNeg < 0 → (0 ≤ i ∧ i < S'.1 73 0 x.toNatClampNeg) → vp_in (40 * x + i) 160 ∧ Q (some (.inl 1)) (xupd S' 74 0 (40 * x + i).toNatClampNeg (cV (S'.1 72 0 x.toNatClampNeg) v))) → CT (dp + 3) 0 0 m_M_cell [M0, .inl x, .inl i, .inl v] S' Q := by
    intro S' Q q1 q2 q3 q4
    refine ct_of (xmok_all (by decide)) rfl (V_go (pc := 0) pk_184 [] 60 ?_)
    refine cM_w 0 3 rfl rfl (by decide) (by decide) (fun h1 => ?_) (fun q => ?_)
    · (repeat' first | (refine And.intro (fun q => absurd q (by decide)) (fun _ => ?_)) | (refine And.intro (fun _ => ?_) (fun q => absurd q (by decide))) | fail)
      have h1 : inC 4 x := by
        obtain ⟨k, -, k2, k3⟩ := h1
        exact ⟨k, by omega, k3⟩
      have hv := h1.vp (N := 4) (by decide)
      refine And.intro hv ?_
      refine And.intro (fun c => ?_) (fun c => q2 h1 (Int32.not_le.mp c))
      have c := Int32.not_lt.mpr c
      refine And.intro (fun c2 => q3 h1 c (fun g => absurd g.1 (Int32.not_le.mpr c2))) (fun c2 => ?_)
      refine And.intro hv ?_
      refine And.intro (fun c3 => ?_) (fun c3 => q3 h1 c (fun g => c3 g.2))
      obtain ⟨iv, hq⟩ := q4 h1 c ⟨Int32.not_lt.mp c2, c3⟩
      unfold cV at hq
      refine And.intro hv ?_
      refine And.intro (fun c4 => ?_) (fun c4 => ?_)
      · rw [if_neg c4] at hq
        refine And.intro hv ?_
        refine And.intro (fun c5 => ?_) (fun c5 => ?_)
        · rw [if_neg c5] at hq
          exact And.intro iv hq
        · rw [if_pos c5] at hq
          exact And.intro iv hq
      · rw [if_pos c4] at hq
        exact And.intro iv hq
    · (repeat' first | (refine And.intro (fun q => absurd q (by decide)) (fun _ => ?_)) | (refine And.intro (fun _ => ?_) (fun q => absurd q (by decide))) | fail)
      refine q1 (fun g => q ?_)
      obtain ⟨k, k1, k2⟩ := g
      exact ⟨k, by omega, by omega, k2⟩
  refine ct_of (xmok_all (by decide)) rfl (V_go (pc := 0) pk_116 [] 60 ?_)
  refine cC_sheet (fun h1 => ?_) (fun q => ?_)
  · (repeat' first | (refine And.intro (fun q => absurd q (by decide)) (fun _ => ?_)) | (refine And.intro (fun _ => ?_) (fun q => absurd q (by decide))) | fail)
    have hv := h1.vp (N := 4) (by decide)
    obtain ⟨⟨a1, a2⟩, a3, ⟨c, hc, a4⟩, a5⟩ := hE _ h1.lt
    have lo : S.1 72 0 x.toNatClampNeg < 0 ↔ S.1 21 x.toNatClampNeg 1 = -1 := by
      rw [a1]
      rcases a3 with q | ⟨k, hk, q⟩
      · rw [q]; exact ⟨fun _ => rfl, fun _ => by decide⟩
      · rw [q]
        exact ⟨fun g => absurd (nI_pos' (by omega)) (Int32.not_le.mpr g), fun g => by rw [g]; decide⟩
    refine And.intro hv ?_
    refine ct_Sheet_missing (fun q => ?_) (fun q => ?_)
    · (repeat' first | (refine And.intro (fun q => absurd q (by decide)) (fun _ => ?_)) | (refine And.intro (fun _ => ?_) (fun q => absurd q (by decide))) | fail)
      exact mm (fun g => absurd h1 g) (fun _ _ => ⟨rfl, hE, Fr.rf⟩) (fun _ g => absurd (lo.mpr q) g) (fun _ g => absurd (lo.mpr q) g)
    · (repeat' first | (refine And.intro (fun q => absurd q (by decide)) (fun _ => ?_)) | (refine And.intro (fun _ => ?_) (fun q => absurd q (by decide))) | fail)
      have q72 : ¬ S.1 72 0 x.toNatClampNeg < 0 := fun g => q (lo.mp g)
      refine ct_Sheet_holds (fun g1 g2 => ?_) (fun g => ?_)
      · (repeat' first | (refine And.intro (fun q => absurd q (by decide)) (fun _ => ?_)) | (refine And.intro (fun _ => ?_) (fun q => absurd q (by decide))) | fail)
        have g2 : i ≤ S.1 21 x.toNatClampNeg 2 - 1 := g2
        rw [a4] at g2
        have hi := (inC_iff' (by omega)).mp ⟨g1, g2⟩
        refine ct_put (hi.vp hc) ?_
        refine mm (fun g => absurd h1 g) (fun _ g => absurd g q72) (fun _ _ g => absurd ⟨g1, ?_⟩ g) (fun _ _ _ => ?_)
        · have hX := h1.lt
          have hI := hi.lt
          have ex : (40 : Int32) * x + i = nI (40 * x.toNatClampNeg + i.toNatClampNeg) := by rw [show (40 : Int32) * x + i = 40 * nI x.toNatClampNeg + nI i.toNatClampNeg by rw [← h1.eq, ← hi.eq], show (40 : Int32) = nI 40 from rfl, nI_mul, nI_add]
          rw [ex, nI_clamp (by omega)]
          refine ⟨vi (by omega), rfl, ?_, (Fr.rf.up rfl).up rfl⟩
          show IE (xupd (xupd S 22 x.toNatClampNeg i.toNatClampNeg (cV (S.1 21 x.toNatClampNeg 1) v)) 74 0 (40 * x.toNatClampNeg + i.toNatClampNeg) (cV (S.1 72 0 x.toNatClampNeg) v))
          rw [a1]
          exact hE.cell (by omega)
        · show i < S.1 73 0 x.toNatClampNeg
          rw [a2, a4]; exact ((inC_iff (by omega)).mpr hi).2
      · (repeat' first | (refine And.intro (fun q => absurd q (by decide)) (fun _ => ?_)) | (refine And.intro (fun _ => ?_) (fun q => absurd q (by decide))) | fail)
        refine mm (fun g => absurd h1 g) (fun _ g => absurd g q72) (fun _ _ _ => ⟨rfl, hE, Fr.rf⟩) (fun _ _ g0 => absurd ?_ g)
        have g0' : i < S.1 73 0 x.toNatClampNeg := g0.2
        rw [a2, a4] at g0'
        show 0 ≤ i ∧ i ≤ S.1 21 x.toNatClampNeg 2 - 1
        rw [a4]
        exact (inC_iff' (by omega)).mpr ((inC_iff (by omega)).mp ⟨g0.1, g0'⟩)
  · (repeat' first | (refine And.intro (fun q => absurd q (by decide)) (fun _ => ?_)) | (refine And.intro (fun _ => ?_) (fun q => absurd q (by decide))) | fail)
    exact mm (fun _ => ⟨rfl, hE, Fr.rf⟩) (fun g => absurd g q) (fun g => absurd g q) (fun g => absurd g q)
