/-! end, tied -/
theorem IB.of1 {n np nd t : Nat} {A B : xS} (h : A.1 = B.1) (hA : IB n np nd t A) : IB n np nd t B := by
  obtain ⟨a1, a2⟩ := A
  obtain ⟨b1, b2⟩ := B
  cases h
  exact hA
theorem ID.of1 {nd nv : Nat} {A B : xS} (h : A.1 = B.1) (hA : ID nd nv A) : ID nd nv B := by
  obtain ⟨a1, a2⟩ := A
  obtain ⟨b1, b2⟩ := B
  cases h
  exact hA
theorem IB.rest {n np nd t D : Nat} {R : xS} (h : IB n np nd t R) (hD : D < nd) : IB n np nd t (xupd (xupd R 12 D 6 (-1)) 47 0 D (-1)) := by
  intro u hu
  refine ⟨fun q => ?_, fun q => ?_⟩
  · obtain ⟨⟨b1, b2, b3, b4, b5, b6⟩, c1, c2, c3, c4, c5, c6⟩ := (h u hu).1 q
    by_cases e : u = D
    · subst e
      refine ⟨⟨b1, b2, b3, b4, ?_, b6⟩, c1, c2, c3, c4, Or.inl ?_, c6⟩
      · simp (decide := true) only [xu, true_and, false_and, and_true, and_false, if_true, if_false]
      · simp (decide := true) only [xu, true_and, false_and, and_true, and_false, if_true, if_false]
    · refine ⟨⟨b1, b2, b3, b4, ?_, b6⟩, c1, c2, c3, c4, ?_, c6⟩
      · simp (decide := true) only [xu, true_and, false_and, and_true, and_false, if_true, if_false, e]; exact b5
      · simp (decide := true) only [xu, true_and, false_and, and_true, and_false, if_true, if_false, e]; exact c5
  · obtain ⟨b1, b2, b3, b4, b5⟩ := (h u hu).2 q
    have e : ¬ u = D := by omega
    refine ⟨b1, b2, b3, ?_, b5⟩
    simp (decide := true) only [xu, true_and, false_and, and_true, and_false, if_true, if_false, e]; exact b4
theorem pbC1_ne {S : xS} {D v u : Nat} (h : ¬ u = v) : (pbC1 S D v).1 15 u 7 = S.1 15 u 7 := by
  unfold pbC1
  by_cases c : (S.1 15 v 7 = 0 ∧ S.1 15 v 1 = nI D) ∧ S.1 15 v 0 = 5
  · rw [if_pos c]
    simp (decide := true) only [xu, true_and, false_and, and_true, and_false, if_true, if_false, h]
  · rw [if_neg c]
theorem pbC_5 {S : xS} {D : Nat} : ∀ m v, v < m → (pbC S D m).1 15 v 1 = nI D → (pbC S D m).1 15 v 0 = 5 → ¬ (pbC S D m).1 15 v 7 = 0
  | 0, v, h, _, _ => absurd h (Nat.not_lt_zero _)
  | m + 1, v, h, h1, h0 => by
    have f := pbC1_fr (pbC S D m) D m
    have g1 : (pbC S D m).1 15 v 1 = nI D := (f.1 15 v 1 rfl).symm.trans h1
    have g0 : (pbC S D m).1 15 v 0 = 5 := (f.1 15 v 0 rfl).symm.trans h0
    show ¬ (pbC1 (pbC S D m) D m).1 15 v 7 = 0
    by_cases e : v = m
    · subst e
      unfold pbC1
      by_cases c : ((pbC S D v).1 15 v 7 = 0 ∧ (pbC S D v).1 15 v 1 = nI D) ∧ (pbC S D v).1 15 v 0 = 5
      · rw [if_pos c]
        rw [show (xupd (xupd (xupd (pbC S D v) 12 D 4 ((pbC S D v).1 12 D 4 - clP ((pbC S D v).1 15 v 4) ((pbC S D v).1 12 D 4))) 15 v 5 ((pbC S D v).1 15 v 5 + clP ((pbC S D v).1 15 v 4) ((pbC S D v).1 12 D 4))) 15 v 7 1).1 15 v 7 = 1 from if_pos ⟨rfl, rfl, rfl⟩]
        decide
      · rw [if_neg c]
        exact fun q => c ⟨⟨q, g1⟩, g0⟩
    · rw [pbC1_ne e]
      exact pbC_5 m v (by omega) g1 g0
theorem mn_eq {nd nv D : Nat} {S : xS} (h : ID nd nv S) (hv : nv ≤ 16) : ∀ m, m ≤ nv → mnM S D m = mnC S (nI D) m
  | 0, _ => rfl
  | m + 1, hm => by
    obtain ⟨⟨a1, a2, a3, a4, a5, a6, a7⟩, _⟩ := (h m (by omega)).1 (by omega)
    show (if (S.1 54 0 m = nI D ∧ S.1 58 0 m = 0) ∧ (S.1 53 0 m = 1 ∨ S.1 53 0 m = 2) then mnM S D m + 1 else mnM S D m) = (if (S.1 15 m 7 = 0 ∧ S.1 15 m 1 = nI D) ∧ (S.1 15 m 0 = 1 ∨ S.1 15 m 0 = 2) then mnC S (nI D) m + 1 else mnC S (nI D) m)
    rw [mn_eq h hv m (by omega), a1, a2, a7]
    by_cases c : (S.1 15 m 7 = 0 ∧ S.1 15 m 1 = nI D) ∧ (S.1 15 m 0 = 1 ∨ S.1 15 m 0 = 2)
    · rw [if_pos c, if_pos ⟨⟨c.1.2, c.1.1⟩, c.2⟩]
    · rw [if_neg c, if_neg (fun q => c ⟨⟨q.1.2, q.1.1⟩, q.2⟩)]
/-- what both sides do, from S the class and from T the model, T's part of the model being S's -/
theorem en_rel {n np nd nv t D : Nat} {S T T3 : xS} {F : Int32} {f0 f2 : Int32 → Int32 → Int32} (hB : IB n np nd t (mix S T)) (hI : ID nd nv (mix S T)) (hv16 : nv ≤ 16) (hD : D < nd) (hd : nd ≤ 4) (hn : 100000 * (n + 1) < 2 ^ 31) (hst : ¬ S.1 12 D 6 = -1) {x2 : Nat → Nat → Nat → Int64} (h3 : Fr (fl [69]) (enM T D nv F) (T3.1, x2)) (hw3 : ∀ u, u < nv → T3.2 60 0 u = wlM (enM T D nv F) D f0 u) :
    IB n np nd t (mix (enB (enA S D nv F) D nv f0 f2) (ptM T3 D (enS (enM T D nv F) D) (sgP (tkB (enM T D nv F) D) (wtM (enM T D nv F) f0) nv) f2 nv)) ∧ ID nd nv (mix (enB (enA S D nv F) D nv f0 f2) (ptM T3 D (enS (enM T D nv F) D) (sgP (tkB (enM T D nv F) D) (wtM (enM T D nv F) f0) nv) f2 nv)) := by
  obtain ⟨⟨b1, b2, b3, b4, b5, b6⟩, _, _, _, ⟨A, hA, eA⟩, hs6, _⟩ := (hB D (by omega)).1 hD
  have b4 : T.1 46 0 D = S.1 12 D 4 := b4
  have eA : S.1 12 D 4 = nI A := eA
  obtain ⟨k, hk, ek⟩ := clP_N (x := F) (c := A) (by omega)
  have r1 : IB n np nd t (mix (enA S D nv F) (enM T D nv F)) ∧ ID nd nv (mix (enA S D nv F) (enM T D nv F)) := by
    unfold enA enM
    rw [b4, eA, hd_cl (by omega), ek, nI_sb hk (by omega)]
    refine pb_all (n := n) (np := np) (t := t) ?_ ?_ hv16 hD hd hn nv (Nat.le_refl _)
    · rw [mix_up2 rfl, mix_up1 rfl]
      exact hB.spend hD (by omega)
    · rw [mix_up2 rfl, mix_up1 rfl]
      exact hI.fr (l := [13004, 46]) ((Fr.rf.up rfl).up rfl) (by decide)
  have h5 : ∀ v, v < nv → (enA S D nv F).1 15 v 1 = nI D → (enA S D nv F).1 15 v 0 = 5 → ¬ (enA S D nv F).1 15 v 7 = 0 := fun v hv => pbC_5 nv v hv
  have fA : Fr (fl [13004, 16005, 16007]) S (enA S D nv F) := (Fr.up (S := S) Fr.rf rfl).tr (pbC_fr _ D nv)
  generalize enA S D nv F = Y at r1 h5 fA ⊢
  generalize enM T D nv F = Z at r1 h3 hw3 ⊢
  obtain ⟨rB, rI⟩ := r1
  have hst : ¬ Y.1 12 D 6 = -1 := by rw [fA.1 12 D 6 rfl]; exact hst
  obtain ⟨⟨d1, d2, d3, d4, d5, d6⟩, _, _, _, ⟨P, hP, eP⟩, hs6, _⟩ := (rB D (by omega)).1 hD
  have d4 : Z.1 46 0 D = Y.1 12 D 4 := d4
  have d5 : Z.1 47 0 D = Y.1 12 D 6 := d5
  have eP : Y.1 12 D 4 = nI P := eP
  rcases hs6 with q | ⟨X, hX, eX⟩
  · exact absurd q hst
  have eX : Y.1 12 D 6 = nI X := eX
  have er : enR Y D = nI (P - X) ∧ enS Z D = (nI (P - X)).toInt64 := by
    unfold enR enS
    rw [d4, d5, eP, eX]
    by_cases c : X < P
    · rw [nI_sb (by omega) (by omega), if_pos (show (0 : Int32) < nI (P - X) from nI_lt (a := 0) (b := P - X) (by omega) (by omega)), if_pos (nI_lt c (by omega))]
      exact ⟨rfl, rfl⟩
    · have e0 : P - X = 0 := by omega
      rw [if_neg (fun g => c ((nI_ltI (by omega) (by omega)).mp g)), e0]
      refine ⟨if_neg ?_, rfl⟩
      intro g
      have g := Int32.lt_iff_toInt_lt.mp g
      rw [show (0 : Int32).toInt = 0 from rfl, sbI (by rw [nI_toInt (by omega), nI_toInt (by omega)]; omega) (by rw [nI_toInt (by omega), nI_toInt (by omega)]; omega), nI_toInt (by omega), nI_toInt (by omega)] at g
      omega
  have eo : ∀ v, v < nv → tkB Z D v = onB Y D v ∧ wtM Z f0 v = wtC Y f0 v := fun v hv => by
    obtain ⟨⟨a1, a2, a3, a4, a5, a6, a7⟩, _⟩ := (rI v (by omega)).1 hv
    have a1 : Z.1 53 0 v = Y.1 15 v 0 := a1
    have a2 : Z.1 54 0 v = Y.1 15 v 1 := a2
    have a4 : Z.1 56 0 v = Y.1 15 v 3 := a4
    have a5 : Z.1 57 0 v = Y.1 15 v 4 := a5
    have a7 : Z.1 58 0 v = Y.1 15 v 7 := a7
    refine ⟨?_, by unfold wtM wtC; rw [a1, a4, a5]⟩
    unfold tkB onB
    rw [a1, a2, a7]
    apply decide_eq_decide.mpr
    exact ⟨fun q => ⟨q.2.1, q.1⟩, fun q => ⟨q.2, q.1, fun g => h5 v hv q.2 g q.1⟩⟩
  obtain ⟨W, hW, eW, hWv⟩ := sgP_N (p := onB Y D) (w := wtC Y f0) (fun v => wtP_N _ _) nv hv16
  have eM : sgP (tkB Z D) (wtM Z f0) nv = lI W := (sgP_c nv eo).trans eW
  unfold enB
  rw [er.1, er.2, eM, eW]
  have fC := wgC_fr Y D f0 nv
  have m1 : Fr (fl [16006, 69]) (mix Y Z) (mix (wgC Y D f0 nv) (T3.1, x2)) := frMix2 fC h3 (by decide) (by decide)
  have e1 : (mix (wgC Y D f0 nv) (T3.1, x2)).1 = (mix (wgC Y D f0 nv) T3).1 := rfl
  refine pt_all (n := n) (np := np) (t := t) (IB.of1 e1 (rB.fr m1 (by decide))) (ID.of1 e1 (rI.fr m1 (by decide))) hv16 hD hd hn (fun v hv => ?_) (by omega) (by omega) (fun v hv q => ?_) nv (Nat.le_refl _)
  · rw [fC.1 15 v 1 rfl, fC.1 15 v 0 rfl, fC.1 15 v 7 rfl]; exact h5 v hv
  · have q2 : onB Y D v = true := by
      unfold onB at q ⊢
      rw [fC.1 15 v 1 rfl, fC.1 15 v 7 rfl] at q
      exact q
    obtain ⟨w, hw1, hw2, hw4⟩ := hWv v hv q2
    refine ⟨w, hw1, (wgC_at Y D f0 nv v hv q2).trans hw2, ?_, hw4⟩
    rw [hw3 v hv]
    unfold wlM
    rw [(eo v hv).1, if_pos q2, (eo v hv).2, hw2]
