/-! end: paying, and the men -/
def clP (x c : Int32) : Int32 := if 0 < (if c < x then c else x) then (if c < x then c else x) else 0
def hdP (v : Int64) (c : Int32) : Int32 := if v < 0 then 0 else if c.toInt64 < v then c else v.toInt32
theorem clP_N {x : Int32} {c : Nat} (hc : c < 2 ^ 31) : ∃ k, k ≤ c ∧ clP x (nI c) = nI k := by
  unfold clP
  by_cases h : nI c < x
  · rw [if_pos h]
    by_cases h0 : 0 < nI c
    · exact ⟨c, Nat.le_refl _, if_pos h0⟩
    · exact ⟨0, Nat.zero_le _, if_neg h0⟩
  · rw [if_neg h]
    by_cases h0 : 0 < x
    · rw [if_pos h0]
      obtain ⟨k, hk, e⟩ := nI_of2 (M := nI c) (n := c) (nI_toInt hc) (Int32.not_lt.mpr (Int32.le_of_lt h0)) (Int32.not_lt.mp h)
      exact ⟨k, hk, e⟩
    · exact ⟨0, Nat.zero_le _, if_neg h0⟩
theorem hd_cl {x : Int32} {c : Nat} (hc : c < 2 ^ 31) : hdP x.toInt64 (nI c) = clP x (nI c) := by
  unfold hdP clP
  have e1 : x.toInt64 < 0 ↔ x < 0 := by rw [Int64.lt_iff_toInt_lt, Int32.lt_iff_toInt_lt, Int32.toInt_toInt64]; rfl
  have e2 : (nI c).toInt64 < x.toInt64 ↔ nI c < x := by rw [Int64.lt_iff_toInt_lt, Int32.lt_iff_toInt_lt, Int32.toInt_toInt64, Int32.toInt_toInt64]
  simp only [e1, e2, Int32.toInt32_toInt64]
  have c0 : 0 ≤ nI c := nI_pos' hc
  by_cases h : x < 0
  · have h2 : ¬ nI c < x := fun q => Int32.lt_irrefl (Int32.lt_of_le_of_lt c0 (Int32.lt_trans q h))
    rw [if_pos h, if_neg h2, if_neg (fun q => Int32.lt_irrefl (Int32.lt_trans h q))]
  · rw [if_neg h]
    by_cases h2 : nI c < x
    · rw [if_pos h2]
      by_cases h3 : 0 < nI c
      · rw [if_pos h3]
      · rw [if_neg h3]; exact Int32.le_antisymm (Int32.not_lt.mp h3) c0
    · rw [if_neg h2]
      by_cases h3 : 0 < x
      · rw [if_pos h3]
      · rw [if_neg h3]; exact Int32.le_antisymm (Int32.not_lt.mp h3) (Int32.not_lt.mp h)
theorem ct_pay {d D : Nat} {x : Int32} {S : xS} {Q : xQ} (h : Q (some (.inl (clP x (S.1 12 D 4)))) (xupd S 12 D 4 (S.1 12 D 4 - clP x (S.1 12 D 4)))) : CT (d + 2) 0 0 m_Dhow_pay [.inr (.inr (12, D)), .inl x] S Q := by
  refine ct_of (xmok_all (by decide)) rfl (V_go (pc := 0) pk_5 [] 40 ?_)
  exact ct_C_clamp h
theorem ct_held {d : Nat} {v : Int64} {c : Int32} {S : xS} {Q : xQ} (h : Q (some (.inl (hdP v c))) S) : CT d 0 0 m_M_held [.inr (.inl v), .inl c] S Q := by
  unfold hdP at h
  refine ct_of (xmok_all (by decide)) rfl (V_go (pc := 0) pk_152 [] 40 ?_)
  refine And.intro (fun q => ?_) (fun q => ?_)
  · have q : ¬ v < 0 := fun g => absurd (lg_lt.mpr g) (Int32.not_lt.mpr q)
    rw [if_neg q] at h
    refine And.intro (fun q2 => ?_) (fun q2 => ?_)
    · have q2 : ¬ c.toInt64 < v := fun g => absurd (lg_gt.mpr g) (Int32.not_lt.mpr q2)
      rw [if_neg q2] at h
      exact h
    · have q2 : c.toInt64 < v := lg_gt.mp (Int32.not_le.mp q2)
      rw [if_pos q2] at h
      exact h
  · have q : v < 0 := lg_lt.mp (Int32.not_le.mp q)
    rw [if_pos q] at h
    exact h
theorem ct_M_pay {d V D : Nat} {k : Int32} {S : xS} {Q : xQ} (hV : V < 16) (hD : D < 4) (h : Q none (xupd (xupd S 46 0 D (S.1 46 0 D - k)) 59 0 V (S.1 59 0 V + k))) : CT d 0 0 m_M_pay [.inr (.inr (36, 0)), .inl (nI V), .inl (nI D), .inl k] S Q := by
  have eV : (nI V).toNatClampNeg = V := nI_clamp (by omega)
  have eD : (nI D).toNatClampNeg = D := nI_clamp (by omega)
  rw [← eV, ← eD] at h
  refine ct_of (xmok_all (by decide)) rfl (V_go (pc := 0) pk_154 [] 40 ?_)
  refine And.intro (vi (N := 4) hD) ?_
  refine And.intro (vi (N := 4) hD) ?_
  refine And.intro (vi (N := 16) hV) ?_
  refine And.intro (vi (N := 16) hV) ?_
  exact h
/-- how many shares and loans a dhow has, of the first m ventures -/
def mnC (S : xS) (x : Int32) : Nat → Int32
  | 0 => 0
  | m + 1 => if (S.1 15 m 7 = 0 ∧ S.1 15 m 1 = x) ∧ (S.1 15 m 0 = 1 ∨ S.1 15 m 0 = 2) then mnC S x m + 1 else mnC S x m
theorem ct_menOf {d nv : Nat} {x : Int32} {S : xS} {Q : xQ} (e7 : S.1 0 0 10 = nI nv) (b2 : nv ≤ 16) (h : Q (some (.inl (mnC S x nv))) S) : CT (d + 1) 0 0 m_C_menOf [.inr (.inr (0, 0)), .inl x] S Q := by
  have loop : ∀ m j, j + m = nv → ∀ o, xn8o o = true → V (d + 1) 0 0 m_C_menOf 4 [some C0, some (.inl x), some (.inl (mnC S x j)), some (.inl (nI j)), o] [] S Q := by
    intro m
    induction m with
    | zero =>
      intro j hj o ho
      obtain rfl : j = nv := by omega
      refine V_go pk_99 [4] 40 ?_
      refine And.intro (fun _ => h) (fun q => absurd ?_ q)
      show S.1 0 0 10 ≤ nI j
      rw [e7]; exact Int32.le_refl _
    | succ m ih =>
      intro j hj o ho
      have ih := ih (j + 1) (by omega) (some (.inr (.inr (15, j)))) rfl
      have ej : (nI j).toNatClampNeg = j := nI_clamp (by omega)
      have e : mnC S x (j + 1) = if (S.1 15 j 7 = 0 ∧ S.1 15 j 1 = x) ∧ (S.1 15 j 0 = 1 ∨ S.1 15 j 0 = 2) then mnC S x j + 1 else mnC S x j := rfl
      rw [e, ← nI_1] at ih
      refine V_go pk_99 [4, 20] 40 ?_
      refine And.intro (fun q => ?_) (fun _ => ?_)
      · have q : S.1 0 0 10 ≤ nI j := q
        rw [e7] at q
        exact absurd ((nI_leI (by omega) (by omega)).mp q) (by omega)
      · refine And.intro (vi (N := 16) (by omega)) ?_
        show V (d + 1) 0 0 m_C_menOf 20 [some C0, some (.inl x), some (.inl (mnC S x j)), some (.inl (nI j)), some (.inr (.inr (15, (nI j).toNatClampNeg)))] [] S Q
        rw [ej]
        refine V_go pk_99 [4] 40 ?_
        refine ct_isOn (fun g1 g2 => ?_) (fun g => ?_)
        · (repeat' first | (refine And.intro (fun q => absurd q (by decide)) (fun _ => ?_)) | (refine And.intro (fun _ => ?_) (fun q => absurd q (by decide))) | fail)
          refine And.intro (fun k1 => ?_) (fun k1 => ?_)
          · rw [if_pos ⟨⟨g1, g2⟩, Or.inl k1⟩] at ih
            exact ih
          · refine And.intro (fun k2 => ?_) (fun k2 => ?_)
            · rw [if_neg (fun q => q.2.elim k1 k2)] at ih
              exact ih
            · rw [if_pos ⟨⟨g1, g2⟩, Or.inr k2⟩] at ih
              exact ih
        · (repeat' first | (refine And.intro (fun q => absurd q (by decide)) (fun _ => ?_)) | (refine And.intro (fun _ => ?_) (fun q => absurd q (by decide))) | fail)
          rw [if_neg (fun q => g q.1)] at ih
          exact ih
  refine ct_of (xmok_all (by decide)) rfl (V_go (pc := 0) pk_99 [4] 20 ?_)
  exact loop nv 0 (by omega) none rfl

/-- what the bottoms of the first m ventures are paid -/
def pbC1 (S : xS) (D j : Nat) : xS := if (S.1 15 j 7 = 0 ∧ S.1 15 j 1 = nI D) ∧ S.1 15 j 0 = 5 then xupd (xupd (xupd S 12 D 4 (S.1 12 D 4 - clP (S.1 15 j 4) (S.1 12 D 4))) 15 j 5 (S.1 15 j 5 + clP (S.1 15 j 4) (S.1 12 D 4))) 15 j 7 1 else S
def pbC (S : xS) (D : Nat) : Nat → xS
  | 0 => S
  | m + 1 => pbC1 (pbC S D m) D m
theorem pbC1_n (S : xS) (D j : Nat) : (pbC1 S D j).1 0 0 10 = S.1 0 0 10 := by
  unfold pbC1; split <;> rfl
theorem pbC_n (S : xS) (D : Nat) (m : Nat) : (pbC S D m).1 0 0 10 = S.1 0 0 10 := by
  induction m with
  | zero => rfl
  | succ m ih => exact (pbC1_n _ _ _).trans ih
theorem ct_C_payBottoms {d nv D : Nat} {S : xS} {Q : xQ} (hD : D < 4) (e7 : S.1 0 0 10 = nI nv) (b2 : nv ≤ 16) (h : Q none (pbC S D nv)) : CT (d + 3) 0 0 m_C_payBottoms [.inr (.inr (0, 0)), .inl (nI D)] S Q := by
  have eD : (nI D).toNatClampNeg = D := nI_clamp (by omega)
  have loop : ∀ m j, j + m = nv → ∀ o, xn8o o = true → V (d + 3) 0 0 m_C_payBottoms 2 [some C0, some (.inl (nI D)), some (.inl (nI j)), o] [] (pbC S D j) Q := by
    intro m
    induction m with
    | zero =>
      intro j hj o ho
      obtain rfl : j = nv := by omega
      refine V_go pk_100 [2] 40 ?_
      refine And.intro (fun _ => h) (fun q => absurd ?_ q)
      show (pbC S D j).1 0 0 10 ≤ nI j
      rw [pbC_n, e7]; exact Int32.le_refl _
    | succ m ih =>
      intro j hj o ho
      have ih := ih (j + 1) (by omega) (some (.inr (.inr (15, j)))) rfl
      have ej : (nI j).toNatClampNeg = j := nI_clamp (by omega)
      have en := (pbC_n S D j).trans e7
      have e : pbC S D (j + 1) = pbC1 (pbC S D j) D j := rfl
      rw [e, ← nI_1] at ih
      generalize pbC S D j = T at ih en ⊢
      unfold pbC1 at ih
      refine V_go pk_100 [2, 17] 40 ?_
      refine And.intro (fun q => ?_) (fun _ => ?_)
      · have q : T.1 0 0 10 ≤ nI j := q
        rw [en] at q
        exact absurd ((nI_leI (by omega) (by omega)).mp q) (by omega)
      · refine And.intro (vi (N := 16) (by omega)) ?_
        show V (d + 3) 0 0 m_C_payBottoms 17 [some C0, some (.inl (nI D)), some (.inl (nI j)), some (.inr (.inr (15, (nI j).toNatClampNeg)))] [] T Q
        rw [ej]
        refine V_go pk_100 [2] 60 ?_
        refine ct_isOn (fun g1 g2 => ?_) (fun g => ?_)
        · (repeat' first | (refine And.intro (fun q => absurd q (by decide)) (fun _ => ?_)) | (refine And.intro (fun _ => ?_) (fun q => absurd q (by decide))) | fail)
          refine And.intro (fun k1 => ?_) (fun k1 => ?_)
          · rw [if_neg (fun q => k1 q.2)] at ih
            exact ih
          · rw [if_pos ⟨⟨g1, g2⟩, k1⟩] at ih
            refine And.intro (vi (N := 4) hD) ?_
            rw [eD]
            refine ct_pay ?_
            generalize clP (T.1 15 j 4) (T.1 12 D 4) = k at ih ⊢
            refine And.intro (Or.inr rfl) ?_
            exact ih
        · (repeat' first | (refine And.intro (fun q => absurd q (by decide)) (fun _ => ?_)) | (refine And.intro (fun _ => ?_) (fun q => absurd q (by decide))) | fail)
          rw [if_neg (fun q => g q.1)] at ih
          exact ih
  refine ct_of (xmok_all (by decide)) rfl (V_go (pc := 0) pk_100 [2] 20 ?_)
  exact loop nv 0 (by omega) none rfl

def pbM1 (S : xS) (D j : Nat) : xS := if S.1 54 0 j = nI D ∧ S.1 58 0 j = 0 ∧ S.1 53 0 j = 5 then xupd (xupd (xupd S 46 0 D (S.1 46 0 D - hdP (S.1 57 0 j).toInt64 (S.1 46 0 D))) 59 0 j (S.1 59 0 j + hdP (S.1 57 0 j).toInt64 (S.1 46 0 D))) 58 0 j 1 else S
def pbM (S : xS) (D : Nat) : Nat → xS
  | 0 => S
  | m + 1 => pbM1 (pbM S D m) D m
theorem pbM1_n (S : xS) (D j : Nat) : (pbM1 S D j).1 36 0 19 = S.1 36 0 19 := by
  unfold pbM1; split <;> rfl
theorem pbM_n (S : xS) (D : Nat) (m : Nat) : (pbM S D m).1 36 0 19 = S.1 36 0 19 := by
  induction m with
  | zero => rfl
  | succ m ih => exact (pbM1_n _ _ _).trans ih
theorem ct_M_payBottoms {d nv D : Nat} {S : xS} {Q : xQ} (hD : D < 4) (e7 : S.1 36 0 19 = nI nv) (b2 : nv ≤ 16) (h : Q none (pbM S D nv)) : CT (d + 2) 0 0 m_M_payBottoms [.inr (.inr (36, 0)), .inl (nI D)] S Q := by
  have eD : (nI D).toNatClampNeg = D := nI_clamp (by omega)
  have loop : ∀ m j, j + m = nv → V (d + 2) 0 0 m_M_payBottoms 2 [some M0, some (.inl (nI D)), some (.inl (nI j))] [] (pbM S D j) Q := by
    intro m
    induction m with
    | zero =>
      intro j hj
      obtain rfl : j = nv := by omega
      refine V_go pk_153 [2] 40 ?_
      refine And.intro (fun _ => h) (fun q => absurd ?_ q)
      show (pbM S D j).1 36 0 19 ≤ nI j
      rw [pbM_n, e7]; exact Int32.le_refl _
    | succ m ih =>
      intro j hj
      have ih := ih (j + 1) (by omega)
      have ej : (nI j).toNatClampNeg = j := nI_clamp (by omega)
      have vj : vp_in (nI j) 16 := vi (by omega)
      have en := (pbM_n S D j).trans e7
      have e : pbM S D (j + 1) = pbM1 (pbM S D j) D j := rfl
      rw [e, ← nI_1] at ih
      generalize pbM S D j = T at ih en ⊢
      unfold pbM1 at ih
      refine V_go pk_153 [2] 60 ?_
      refine And.intro (fun q => ?_) (fun _ => ?_)
      · have q : T.1 36 0 19 ≤ nI j := q
        rw [en] at q
        exact absurd ((nI_leI (by omega) (by omega)).mp q) (by omega)
      · refine And.intro vj ?_
        rw [ej]
        refine And.intro (fun k1 => ?_) (fun k1 => ?_)
        · rw [if_neg (fun q => k1 q.1)] at ih
          exact ih
        · refine And.intro vj ?_
          refine And.intro (fun k2 => ?_) (fun k2 => ?_)
          · rw [ej] at k2
            rw [if_neg (fun q => k2 q.2.1)] at ih
            exact ih
          · rw [ej] at k2
            refine And.intro vj ?_
            refine And.intro (fun k3 => ?_) (fun k3 => ?_)
            · rw [ej] at k3
              rw [if_neg (fun q => k3 q.2.2)] at ih
              exact ih
            · rw [ej] at k3
              rw [if_pos ⟨k1, k2, k3⟩] at ih
              refine And.intro vj ?_
              refine And.intro (vi (N := 4) hD) ?_
              rw [ej, eD]
              refine ct_held ?_
              refine ct_M_pay (by omega) hD ?_
              refine And.intro vj ?_
              rw [ej]
              exact ih
  refine ct_of (xmok_all (by decide)) rfl (V_go (pc := 0) pk_153 [2] 20 ?_)
  exact loop nv 0 (by omega)

theorem pbC1_fr (S : xS) (D v : Nat) : Fr (fl [13004, 16005, 16007]) S (pbC1 S D v) := by
  unfold pbC1
  by_cases c : (S.1 15 v 7 = 0 ∧ S.1 15 v 1 = nI D) ∧ S.1 15 v 0 = 5
  · rw [if_pos c]; exact ((Fr.rf.up rfl).up rfl).up rfl
  · rw [if_neg c]; exact Fr.rf
theorem pbM1_fr (S : xS) (D v : Nat) : Fr (fl [46, 59, 58]) S (pbM1 S D v) := by
  unfold pbM1
  by_cases c : S.1 54 0 v = nI D ∧ S.1 58 0 v = 0 ∧ S.1 53 0 v = 5
  · rw [if_pos c]; exact ((Fr.rf.up rfl).up rfl).up rfl
  · rw [if_neg c]; exact Fr.rf
theorem pbC_fr (S : xS) (D : Nat) : ∀ m, Fr (fl [13004, 16005, 16007]) S (pbC S D m)
  | 0 => Fr.rf
  | m + 1 => (pbC_fr S D m).tr (pbC1_fr _ D m)
theorem pbM_fr (S : xS) (D : Nat) : ∀ m, Fr (fl [46, 59, 58]) S (pbM S D m)
  | 0 => Fr.rf
  | m + 1 => (pbM_fr S D m).tr (pbM1_fr _ D m)

theorem ID.got {nd nv v : Nat} {k : Int32} {R : xS} (h : ID nd nv R) (hv : v < nv) : ID nd nv (xupd (xupd R 15 v 5 (R.1 15 v 5 + k)) 59 0 v (R.1 59 0 v + k)) := by
  intro u hu
  refine ⟨fun q => ?_, fun q => ?_⟩
  · obtain ⟨⟨b1, b2, b3, b4, b5, b6, b7⟩, b8, b9, b10, b11, b12, b13⟩ := (h u hu).1 q
    by_cases e : u = v
    · subst e
      refine ⟨⟨b1, b2, b3, b4, b5, ?_, b7⟩, b8, b9, b10, b11, b12, b13⟩
      simp (decide := true) only [xu, true_and, false_and, and_true, and_false, if_true, if_false]; rw [b6]
    · refine ⟨⟨b1, b2, b3, b4, b5, ?_, b7⟩, b8, b9, b10, b11, b12, b13⟩
      simp (decide := true) only [xu, true_and, false_and, and_true, and_false, if_true, if_false, e]; exact b6
  · have e : ¬ u = v := by omega
    obtain ⟨b1, b2, b3, b4, b5⟩ := (h u hu).2 q
    refine ⟨b1, ?_, b3, b4, ?_⟩
    · simp (decide := true) only [xu, true_and, false_and, and_true, and_false, if_true, if_false, e]; exact b2
    · simp (decide := true) only [xu, true_and, false_and, and_true, and_false, if_true, if_false, e]; exact b5
theorem ID.over {nd nv v : Nat} {R : xS} (h : ID nd nv R) (hv : v < nv) : ID nd nv (xupd (xupd R 15 v 7 1) 58 0 v 1) := by
  intro u hu
  refine ⟨fun q => ?_, fun q => ?_⟩
  · obtain ⟨⟨b1, b2, b3, b4, b5, b6, b7⟩, b8, b9, b10, b11, b12, b13⟩ := (h u hu).1 q
    by_cases e : u = v
    · subst e
      refine ⟨⟨b1, b2, b3, b4, b5, b6, ?_⟩, b8, b9, b10, b11, b12, Or.inr ?_⟩
      · simp (decide := true) only [xu, true_and, false_and, and_true, and_false, if_true, if_false]
      · simp (decide := true) only [xu, true_and, false_and, and_true, and_false, if_true, if_false]
    · refine ⟨⟨b1, b2, b3, b4, b5, b6, ?_⟩, b8, b9, b10, b11, b12, ?_⟩
      · simp (decide := true) only [xu, true_and, false_and, and_true, and_false, if_true, if_false, e]; exact b7
      · simp (decide := true) only [xu, true_and, false_and, and_true, and_false, if_true, if_false, e]; exact b13
  · have e : ¬ u = v := by omega
    obtain ⟨b1, b2, b3, b4, b5⟩ := (h u hu).2 q
    refine ⟨b1, b2, ?_, ?_, b5⟩
    · simp (decide := true) only [xu, true_and, false_and, and_true, and_false, if_true, if_false, e]; exact b3
    · simp (decide := true) only [xu, true_and, false_and, and_true, and_false, if_true, if_false, e]; exact b4

theorem IB.spend {n np nd t D A : Nat} {R : xS} (h : IB n np nd t R) (hD : D < nd) (hA : A ≤ 100000 * (n + 1)) : IB n np nd t (xupd (xupd R 12 D 4 (nI A)) 46 0 D (nI A)) := by
  intro u hu
  refine ⟨fun q => ?_, fun q => ?_⟩
  · obtain ⟨⟨b1, b2, b3, b4, b5, b6⟩, c1, c2, c3, c4, c5, c6⟩ := (h u hu).1 q
    by_cases e : u = D
    · subst e
      refine ⟨⟨b1, b2, b3, ?_, b5, b6⟩, c1, c2, c3, ⟨A, hA, ?_⟩, c5, c6⟩
      · simp (decide := true) only [xu, true_and, false_and, and_true, and_false, if_true, if_false]
      · simp (decide := true) only [xu, true_and, false_and, and_true, and_false, if_true, if_false]
    · refine ⟨⟨b1, b2, b3, ?_, b5, b6⟩, c1, c2, c3, ?_, c5, c6⟩
      · simp (decide := true) only [xu, true_and, false_and, and_true, and_false, if_true, if_false, e]; exact b4
      · obtain ⟨c, hc, ec⟩ := c4
        refine ⟨c, hc, ?_⟩
        simp (decide := true) only [xu, true_and, false_and, and_true, and_false, if_true, if_false, e]; exact ec
  · exact (h u hu).2 q

theorem xupd_sw {S : xS} {k i j k2 i2 j2 : Nat} {x x2 : Int32} (h : ¬ (k = k2 ∧ j = j2 ∧ i = i2)) : xupd (xupd S k i j x) k2 i2 j2 x2 = xupd (xupd S k2 i2 j2 x2) k i j x := by
  unfold xupd
  refine Prod.ext ?_ rfl
  funext k' i' j'
  dsimp only
  by_cases c : k' = k ∧ j' = j ∧ i' = i
  · have c2 : ¬ (k' = k2 ∧ j' = j2 ∧ i' = i2) := fun q => h ⟨c.1.symm.trans q.1, c.2.1.symm.trans q.2.1, c.2.2.symm.trans q.2.2⟩
    rw [if_neg c2, if_pos c, if_pos c]
  · rw [if_neg c, if_neg c]

theorem pb_rel {n np nd nv t D v : Nat} {S T : xS} (hB : IB n np nd t (mix S T)) (hI : ID nd nv (mix S T)) (hv : v < nv) (hv16 : nv ≤ 16) (hD : D < nd) (hd : nd ≤ 4) (hn : 100000 * (n + 1) < 2 ^ 31) : IB n np nd t (mix (pbC1 S D v) (pbM1 T D v)) ∧ ID nd nv (mix (pbC1 S D v) (pbM1 T D v)) := by
  obtain ⟨⟨a1, a2, a3, a4, a5, a6, a7⟩, _⟩ := (hI v (by omega)).1 hv
  obtain ⟨⟨b1, b2, b3, b4, b5, b6⟩, _, _, _, ⟨A, hA, eA⟩, _⟩ := (hB D (by omega)).1 hD
  have a1 : T.1 53 0 v = S.1 15 v 0 := a1
  have a2 : T.1 54 0 v = S.1 15 v 1 := a2
  have a5 : T.1 57 0 v = S.1 15 v 4 := a5
  have a7 : T.1 58 0 v = S.1 15 v 7 := a7
  have b4 : T.1 46 0 D = S.1 12 D 4 := b4
  have eA : S.1 12 D 4 = nI A := eA
  unfold pbC1 pbM1
  rw [a1, a2, a5, a7, b4, eA, hd_cl (by omega)]
  by_cases c : (S.1 15 v 7 = 0 ∧ S.1 15 v 1 = nI D) ∧ S.1 15 v 0 = 5
  · rw [if_pos c, if_pos ⟨c.1.2, c.1.1, c.2⟩]
    obtain ⟨k, hk, ek⟩ := clP_N (x := S.1 15 v 4) (c := A) (by omega)
    rw [ek, nI_sb hk (by omega), mix_up2 rfl, mix_up2 rfl, mix_up2 rfl, mix_up1 rfl, mix_up1 rfl, mix_up1 rfl]
    have h1 := hB.spend (A := A - k) hD (by omega)
    have h2 := (hI.fr (S2 := xupd (xupd (mix S T) 12 D 4 (nI (A - k))) 46 0 D (nI (A - k))) (l := [13004, 46]) ((Fr.rf.up rfl).up rfl) (by decide)).got (v := v) (k := nI k) hv
    have h3 := h2.over (v := v) hv
    have e : xupd (xupd (xupd (xupd (xupd (xupd (mix S T) 12 D 4 (nI (A - k))) 15 v 5 (S.1 15 v 5 + nI k)) 15 v 7 1) 46 0 D (nI (A - k))) 59 0 v (T.1 59 0 v + nI k)) 58 0 v 1 = xupd (xupd (xupd (xupd (xupd (xupd (mix S T) 12 D 4 (nI (A - k))) 46 0 D (nI (A - k))) 15 v 5 (S.1 15 v 5 + nI k)) 59 0 v (T.1 59 0 v + nI k)) 15 v 7 1) 58 0 v 1 := by
      rw [xupd_sw (k := 15) (j := 7) (k2 := 46) (by omega), xupd_sw (k := 15) (j := 5) (k2 := 46) (by omega), xupd_sw (k := 15) (j := 7) (k2 := 59) (by omega)]
    rw [e]
    exact ⟨h1.fr (l := [16005, 59, 16007, 58]) ((((Fr.rf.up rfl).up rfl).up rfl).up rfl) (by decide), h3⟩
  · rw [if_neg c, if_neg (fun q => c ⟨⟨q.2.1, q.1⟩, q.2.2⟩)]
    exact ⟨hB, hI⟩
theorem pb_all {n np nd nv t D : Nat} {S T : xS} (hB : IB n np nd t (mix S T)) (hI : ID nd nv (mix S T)) (hv16 : nv ≤ 16) (hD : D < nd) (hd : nd ≤ 4) (hn : 100000 * (n + 1) < 2 ^ 31) : ∀ m, m ≤ nv → IB n np nd t (mix (pbC S D m) (pbM T D m)) ∧ ID nd nv (mix (pbC S D m) (pbM T D m))
  | 0, _ => ⟨hB, hI⟩
  | m + 1, h => pb_rel (pb_all hB hI hv16 hD hd hn m (by omega)).1 (pb_all hB hI hv16 hD hd hn m (by omega)).2 (by omega) hv16 hD hd hn
