/-! text: the class's tokens -/
def gBy (b : Nat → Int32) (n : Nat) (S : xS) : Prop := S.1 23 0 1 = nI n ∧ n ≤ 160 ∧ ∀ j, j < n → S.1 24 0 j = b j
theorem gBy.fr {b : Nat → Int32} {n : Nat} {l : List Nat} {S S2 : xS} (f : Fr (fl l) S S2) (hd : [24, 24001].all (fun q => !l.elem q) = true) (h : gBy b n S) : gBy b n S2 := by
  have e0 : ∀ i j, S2.1 24 i j = S.1 24 i j := fun i j => f.off hd rfl
  have e1 : ∀ i, S2.1 23 i 1 = S.1 23 i 1 := fun i => f.off hd rfl
  unfold gBy at h ⊢
  simp only [e0, e1]
  exact h
theorem ct_isBlank {D : Nat} {x : Int32} {S : xS} {Q : xQ} (h1 : gBl x = true → Q (some (.inl 1)) S) (h0 : ¬ gBl x = true → Q (some (.inl 0)) S) : CT D 0 0 m_Tokens_isBlank [.inl x] S Q := by
  refine ct_of (xmok_all (by decide)) rfl (V_go (pc := 0) pk_56 [] 20 ?_)
  refine And.intro (fun q => And.intro (Or.inr rfl) (h1 (decide_eq_true (Or.inl q)))) (fun q => ?_)
  refine And.intro (fun q2 => And.intro (Or.inl rfl) (h0 (fun g => (of_decide_eq_true g).elim q q2))) (fun q2 => And.intro (Or.inr rfl) (h1 (decide_eq_true (Or.inr q2))))
theorem ct_tLetter {D : Nat} {x : Int32} {S : xS} {Q : xQ} (h1 : gLt x = true → Q (some (.inl 1)) S) (h0 : ¬ gLt x = true → Q (some (.inl 0)) S) : CT D 0 0 m_Tokens_isLetter [.inl x] S Q := by
  refine ct_of (xmok_all (by decide)) rfl (V_go (pc := 0) pk_57 [] 20 ?_)
  refine And.intro (fun q => And.intro (Or.inl rfl) (h0 (fun g => absurd (of_decide_eq_true g).1 (Int32.not_le.mpr q)))) (fun q => ?_)
  refine And.intro (fun q2 => And.intro (Or.inl rfl) (h0 (fun g => absurd (of_decide_eq_true g).2 (Int32.not_le.mpr q2)))) (fun q2 => And.intro (Or.inr rfl) (h1 (decide_eq_true ⟨Int32.not_lt.mp q, Int32.not_lt.mp q2⟩)))
theorem ct_tDigit {D : Nat} {x : Int32} {S : xS} {Q : xQ} (h1 : gDg x = true → Q (some (.inl 1)) S) (h0 : ¬ gDg x = true → Q (some (.inl 0)) S) : CT D 0 0 m_Tokens_isDigit [.inl x] S Q := by
  refine ct_of (xmok_all (by decide)) rfl (V_go (pc := 0) pk_59 [] 20 ?_)
  refine And.intro (fun q => And.intro (Or.inl rfl) (h0 (fun g => absurd (of_decide_eq_true g).1 (Int32.not_le.mpr q)))) (fun q => ?_)
  refine And.intro (fun q2 => And.intro (Or.inl rfl) (h0 (fun g => absurd (of_decide_eq_true g).2 (Int32.not_le.mpr q2)))) (fun q2 => And.intro (Or.inr rfl) (h1 (decide_eq_true ⟨Int32.not_lt.mp q, Int32.not_lt.mp q2⟩)))
theorem ct_takeNumber {D n s : Nat} {b : Nat → Int32} {S : xS} {Q : xQ} (hB : gBy b n S) (hs : s < n) (h2 : S.1 23 0 2 = nI s) (h4 : S.1 23 0 4 = nI s) (h : ∀ S', Fr (fl [24002, 24003, 24005]) S S' → S'.1 23 0 2 = nI (gRun gDg b (n - s) s) → S'.1 23 0 3 = nI (if 4 < gRun gDg b (n - s) s - s then 1 else 2) → S'.1 23 0 5 = nI (gVl b n s) → Q none S') : CT (D + 1) 0 0 m_Tokens_takeNumber [K0v] S Q := by
  obtain ⟨e1, n160, eb⟩ := id hB
  have ex : ∀ T q, s ≤ q → q ≤ n → q = gRun gDg b (n - s) s → Fr (fl [24002, 24005]) S T → T.1 23 0 2 = nI q → T.1 23 0 5 = nI (gNv b s (min 4 (q - s))) → V (D + 1) 0 0 m_Tokens_takeNumber 81 [some K0v] [] T Q := by
    intro T q hsq hqn hr f g2 g5
    have t4 : T.1 23 0 4 = nI s := (f.1 23 0 4 rfl).trans h4
    have ed : T.1 23 0 2 - T.1 23 0 4 = nI (q - s) := by rw [g2, t4, nI_sb hsq (by omega)]
    have h := fun x hx => h (xupd T 23 0 3 x) ((f.wk (by decide)).up rfl) (by rw [← hr]; exact g2) hx (by unfold gVl; rw [← hr]; exact g5)
    refine V_go pk_60 [] 60 ?_
    refine And.intro (fun z => ?_) (fun z => ?_)
    · have z : T.1 23 0 2 - T.1 23 0 4 ≤ nI 4 := z
      rw [ed] at z
      refine h 2 ?_
      rw [← hr, if_neg (by have := (nI_leI (by omega) (by omega)).mp z; omega)]
      rfl
    · have z : ¬ T.1 23 0 2 - T.1 23 0 4 ≤ nI 4 := z
      rw [ed] at z
      refine h 1 ?_
      rw [← hr, if_pos (Nat.not_le.mp (fun y => z (nI_le y (by omega))))]
      rfl
  have loop : ∀ k q, q + k = n → ∀ T, s ≤ q → gRun gDg b k q = gRun gDg b (n - s) s → (∀ t, t < q - s → gDg (b (s + t)) = true) → Fr (fl [24002, 24005]) S T → T.1 23 0 2 = nI q → T.1 23 0 5 = nI (gNv b s (min 4 (q - s))) → V (D + 1) 0 0 m_Tokens_takeNumber 5 [some K0v] [] T Q := by
    intro k
    induction k with
    | zero =>
      intro q hq T hsq hr hd f g2 g5
      have hr : q = gRun gDg b (n - s) s := hr
      have t1 : T.1 23 0 1 = nI n := (f.1 23 0 1 rfl).trans e1
      have t4 : T.1 23 0 4 = nI s := (f.1 23 0 4 rfl).trans h4
      refine V_go pk_60 [5, 81] 60 ?_
      refine And.intro (fun _ => ?_) (fun z => absurd ?_ z)
      · exact ex T q hsq (by omega) hr f g2 g5
      · show T.1 23 0 1 ≤ T.1 23 0 2
        rw [t1, g2]; exact nI_le (by omega) (by omega)
    | succ k ih =>
      intro q hq T hsq hr hd f g2 g5
      have t1 : T.1 23 0 1 = nI n := (f.1 23 0 1 rfl).trans e1
      have t4 : T.1 23 0 4 = nI s := (f.1 23 0 4 rfl).trans h4
      have tb : T.1 24 0 q = b q := (f.1 24 0 q rfl).trans (eb q (by omega))
      have eq : (T.1 23 0 2).toNatClampNeg = q := by rw [g2]; exact nI_clamp (by omega)
      have vq : vp_in (T.1 23 0 2) 160 := by rw [g2]; exact vi (N := 160) (by omega)
      have ed : T.1 23 0 2 - T.1 23 0 4 = nI (q - s) := by rw [g2, t4, nI_sb hsq (by omega)]
      have hr2 : (if gDg (b q) = true then gRun gDg b k (q + 1) else q) = gRun gDg b (n - s) s := hr
      refine V_go pk_60 [5, 81] 60 ?_
      refine And.intro (fun z => ?_) (fun _ => ?_)
      · have z : T.1 23 0 1 ≤ T.1 23 0 2 := z
        rw [t1, g2] at z
        exact absurd ((nI_leI (by omega) (by omega)).mp z) (by omega)
      refine And.intro vq ?_
      rw [eq, tb]
      refine ct_tDigit (fun d => ?_) (fun d => ?_)
      · rw [if_pos d] at hr2
        obtain ⟨kk, k1, k2, ek⟩ := gDg_N d
        have hd2 : ∀ t, t < q + 1 - s → gDg (b (s + t)) = true := fun t ht => by
          by_cases e : t = q - s
          · rw [e, show s + (q - s) = q by omega]; exact d
          · exact hd t (by omega)
        have vb := gNv_b (b := b) (s := s) (min 4 (q - s)) (fun t ht => hd t (by omega))
        have vb2 : 10 ^ (min 4 (q - s)) ≤ 10 ^ 4 := Nat.pow_le_pow_right (by decide) (by omega)
        (repeat' first | (refine And.intro (fun q => absurd q (by decide)) (fun _ => ?_)) | (refine And.intro (fun _ => ?_) (fun q => absurd q (by decide))) | fail)
        refine And.intro (fun z => ?_) (fun z => ?_)
        · have z : nI 4 ≤ T.1 23 0 2 - T.1 23 0 4 := z
          rw [ed] at z
          have z := (nI_leI (by omega) (by omega)).mp z
          refine ih (q + 1) (by omega) (xupd T 23 0 2 (T.1 23 0 2 + 1)) (by omega) hr2 hd2 (f.up rfl) (by show T.1 23 0 2 + 1 = _; rw [g2, nI_1]) ?_
          show T.1 23 0 5 = _
          rw [g5, show min 4 (q - s) = 4 by omega, show min 4 (q + 1 - s) = 4 by omega]
        · have z : ¬ nI 4 ≤ T.1 23 0 2 - T.1 23 0 4 := z
          rw [ed] at z
          have z : q - s < 4 := Nat.not_le.mp (fun y => z (nI_le y (by omega)))
          refine And.intro vq ?_
          rw [eq, tb]
          refine ih (q + 1) (by omega) (xupd (xupd T 23 0 5 (T.1 23 0 5 * 10 + b q - 48)) 23 0 2 (T.1 23 0 2 + 1)) (by omega) hr2 hd2 ((f.up rfl).up rfl) (by show T.1 23 0 2 + 1 = _; rw [g2, nI_1]) ?_
          show T.1 23 0 5 * 10 + b q - 48 = _
          rw [g5, show min 4 (q + 1 - s) = min 4 (q - s) + 1 by omega]
          show nI (gNv b s (min 4 (q - s))) * nI 10 + b q - nI 48 = nI (gNv b s (min 4 (q - s)) * 10 + ((b (s + min 4 (q - s))).toNatClampNeg - 48))
          rw [show s + min 4 (q - s) = q by omega, ek, nI_clamp (by omega), nI_mul, nI_add, nI_sb (by omega) (by omega)]
          congr 1
          omega
      · rw [if_neg d] at hr2
        (repeat' first | (refine And.intro (fun q => absurd q (by decide)) (fun _ => ?_)) | (refine And.intro (fun _ => ?_) (fun q => absurd q (by decide))) | fail)
        exact ex T q hsq (by omega) hr2 f g2 g5
  refine ct_of (xmok_all (by decide)) rfl (V_go (pc := 0) pk_60 [5] 20 ?_)
  refine loop (n - s) s (by omega) _ (Nat.le_refl _) rfl (fun t ht => by omega) (Fr.rf.up rfl) h2 ?_
  show (0 : Int32) = nI (gNv b s (min 4 (s - s)))
  rw [Nat.sub_self]; rfl
