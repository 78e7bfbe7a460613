/-! end, tied -/
theorem IB.of1 {n np nd t : Nat} {A B : xS} (h : A.1 = B.1) (hA : IB n np nd t A) : IB n np nd t B := by
  obtain ⟨a1, a2⟩ := A
  obtain ⟨b1, b2⟩ := B
  cases h
  exact hA
theorem ID.of1 {nd nv : Nat} {A B : xS} (h : A.1 = B.1) (hA : ID nd nv A) : ID nd nv B := by
  obtain ⟨a1, a2⟩ := A
  obtain ⟨b1, b2⟩ := B
  cases h
  exact hA
theorem IB.rest {n np nd t D : Nat} {R : xS} (h : IB n np nd t R) (hD : D < nd) : IB n np nd t (xupd (xupd R 12 D 6 (-1)) 47 0 D (-1)) := by
  intro u hu
  refine ⟨fun q => ?_, fun q => ?_⟩
  · obtain ⟨⟨b1, b2, b3, b4, b5, b6⟩, c1, c2, c3, c4, c5, c6⟩ := (h u hu).1 q
    by_cases e : u = D
    · subst e
      refine ⟨⟨b1, b2, b3, b4, ?_, b6⟩, c1, c2, c3, c4, Or.inl ?_, c6⟩
      · simp (decide := true) only [xu, true_and, false_and, and_true, and_false, if_true, if_false]
      · simp (decide := true) only [xu, true_and, false_and, and_true, and_false, if_true, if_false]
    · refine ⟨⟨b1, b2, b3, b4, ?_, b6⟩, c1, c2, c3, c4, ?_, c6⟩
      · simp (decide := true) only [xu, true_and, false_and, and_true, and_false, if_true, if_false, e]; exact b5
      · simp (decide := true) only [xu, true_and, false_and, and_true, and_false, if_true, if_false, e]; exact c5
  · obtain ⟨b1, b2, b3, b4, b5⟩ := (h u hu).2 q
    have e : ¬ u = D := by omega
    refine ⟨b1, b2, b3, ?_, b5⟩
    simp (decide := true) only [xu, true_and, false_and, and_true, and_false, if_true, if_false, e]; exact b4
theorem pbC1_ne {S : xS} {D v u : Nat} (h : ¬ u = v) : (pbC1 S D v).1 15 u 7 = S.1 15 u 7 := by
  unfold pbC1
  by_cases c : (S.1 15 v 7 = 0 ∧ S.1 15 v 1 = nI D) ∧ S.1 15 v 0 = 5
  · rw [if_pos c]
    simp (decide := true) only [xu, true_and, false_and, and_true, and_false, if_true, if_false, h]
  · rw [if_neg c]
theorem pbC_5 {S : xS} {D : Nat} : ∀ m v, v < m → (pbC S D m).1 15 v 1 = nI D → (pbC S D m).1 15 v 0 = 5 → ¬ (pbC S D m).1 15 v 7 = 0
  | 0, v, h, _, _ => absurd h (Nat.not_lt_zero _)
  | m + 1, v, h, h1, h0 => by
    have f := pbC1_fr (pbC S D m) D m
    have g1 : (pbC S D m).1 15 v 1 = nI D := (f.1 15 v 1 rfl).symm.trans h1
    have g0 : (pbC S D m).1 15 v 0 = 5 := (f.1 15 v 0 rfl).symm.trans h0
    show ¬ (pbC1 (pbC S D m) D m).1 15 v 7 = 0
    by_cases e : v = m
    · subst e
      unfold pbC1
      by_cases c : ((pbC S D v).1 15 v 7 = 0 ∧ (pbC S D v).1 15 v 1 = nI D) ∧ (pbC S D v).1 15 v 0 = 5
      · rw [if_pos c]
        rw [show (xupd (xupd (xupd (pbC S D v) 12 D 4 ((pbC S D v).1 12 D 4 - clP ((pbC S D v).1 15 v 4) ((pbC S D v).1 12 D 4))) 15 v 5 ((pbC S D v).1 15 v 5 + clP ((pbC S D v).1 15 v 4) ((pbC S D v).1 12 D 4))) 15 v 7 1).1 15 v 7 = 1 from if_pos ⟨rfl, rfl, rfl⟩]
        decide
      · rw [if_neg c]
        exact fun q => c ⟨⟨q, g1⟩, g0⟩
    · rw [pbC1_ne e]
      exact pbC_5 m v (by omega) g1 g0
theorem mn_eq {nd nv D : Nat} {S : xS} (h : ID nd nv S) (hv : nv ≤ 16) : ∀ m, m ≤ nv → mnM S D m = mnC S (nI D) m
  | 0, _ => rfl
  | m + 1, hm => by
    obtain ⟨⟨a1, a2, a3, a4, a5, a6, a7⟩, _⟩ := (h m (by omega)).1 (by omega)
    show (if (S.1 54 0 m = nI D ∧ S.1 58 0 m = 0) ∧ (S.1 53 0 m = 1 ∨ S.1 53 0 m = 2) then mnM S D m + 1 else mnM S D m) = (if (S.1 15 m 7 = 0 ∧ S.1 15 m 1 = nI D) ∧ (S.1 15 m 0 = 1 ∨ S.1 15 m 0 = 2) then mnC S (nI D) m + 1 else mnC S (nI D) m)
    rw [mn_eq h hv m (by omega), a1, a2, a7]
    by_cases c : (S.1 15 m 7 = 0 ∧ S.1 15 m 1 = nI D) ∧ (S.1 15 m 0 = 1 ∨ S.1 15 m 0 = 2)
    · rw [if_pos c, if_pos ⟨⟨c.1.2, c.1.1⟩, c.2⟩]
    · rw [if_neg c, if_neg (fun q => c ⟨⟨q.1.2, q.1.1⟩, q.2⟩)]
/-- what both sides do, from S the class and from T the model, T's part of the model being S's -/
theorem en_rel {n np nd nv t D : Nat} {S T T3 : xS} {F : Int32} {f0 f2 : Int32 → Int32 → Int32} (hB : IB n np nd t (mix S T)) (hI : ID nd nv (mix S T)) (hv16 : nv ≤ 16) (hD : D < nd) (hd : nd ≤ 4) (hn : 100000 * (n + 1) < 2 ^ 31) (hst : ¬ S.1 12 D 6 = -1) {x2 : Nat → Nat → Nat → Int64} (h3 : Fr (fl [69]) (enM T D nv F) (T3.1, x2)) (hw3 : ∀ u, u < nv → T3.2 60 0 u = wlM (enM T D nv F) D f0 u) :
    IB n np nd t (mix (enB (enA S D nv F) D nv f0 f2) (ptM T3 D (enS (enM T D nv F) D) (sgP (tkB (enM T D nv F) D) (wtM (enM T D nv F) f0) nv) f2 nv)) ∧ ID nd nv (mix (enB (enA S D nv F) D nv f0 f2) (ptM T3 D (enS (enM T D nv F) D) (sgP (tkB (enM T D nv F) D) (wtM (enM T D nv F) f0) nv) f2 nv)) := by
  obtain ⟨⟨b1, b2, b3, b4, b5, b6⟩, _, _, _, ⟨A, hA, eA⟩, hs6, _⟩ := (hB D (by omega)).1 hD
  have b4 : T.1 46 0 D = S.1 12 D 4 := b4
  have eA : S.1 12 D 4 = nI A := eA
  obtain ⟨k, hk, ek⟩ := clP_N (x := F) (c := A) (by omega)
  have r1 : IB n np nd t (mix (enA S D nv F) (enM T D nv F)) ∧ ID nd nv (mix (enA S D nv F) (enM T D nv F)) := by
    unfold enA enM
    rw [b4, eA, hd_cl (by omega), ek, nI_sb hk (by omega)]
    refine pb_all (n := n) (np := np) (t := t) ?_ ?_ hv16 hD hd hn nv (Nat.le_refl _)
    · rw [mix_up2 rfl, mix_up1 rfl]
      exact hB.spend hD (by omega)
    · rw [mix_up2 rfl, mix_up1 rfl]
      exact hI.fr (l := [13004, 46]) ((Fr.rf.up rfl).up rfl) (by decide)
  have h5 : ∀ v, v < nv → (enA S D nv F).1 15 v 1 = nI D → (enA S D nv F).1 15 v 0 = 5 → ¬ (enA S D nv F).1 15 v 7 = 0 := fun v hv => pbC_5 nv v hv
  have fA : Fr (fl [13004, 16005, 16007]) S (enA S D nv F) := (Fr.up (S := S) Fr.rf rfl).tr (pbC_fr _ D nv)
  generalize enA S D nv F = Y at r1 h5 fA ⊢
  generalize enM T D nv F = Z at r1 h3 hw3 ⊢
  obtain ⟨rB, rI⟩ := r1
  have hst : ¬ Y.1 12 D 6 = -1 := by rw [fA.1 12 D 6 rfl]; exact hst
  obtain ⟨⟨d1, d2, d3, d4, d5, d6⟩, _, _, _, ⟨P, hP, eP⟩, hs6, _⟩ := (rB D (by omega)).1 hD
  have d4 : Z.1 46 0 D = Y.1 12 D 4 := d4
  have d5 : Z.1 47 0 D = Y.1 12 D 6 := d5
  have eP : Y.1 12 D 4 = nI P := eP
  rcases hs6 with q | ⟨X, hX, eX⟩
  · exact absurd q hst
  have eX : Y.1 12 D 6 = nI X := eX
  have er : enR Y D = nI (P - X) ∧ enS Z D = (nI (P - X)).toInt64 := by
    unfold enR enS
    rw [d4, d5, eP, eX]
    by_cases c : X < P
    · rw [nI_sb (by omega) (by omega), if_pos (show (0 : Int32) < nI (P - X) from nI_lt (a := 0) (b := P - X) (by omega) (by omega)), if_pos (nI_lt c (by omega))]
      exact ⟨rfl, rfl⟩
    · have e0 : P - X = 0 := by omega
      rw [if_neg (fun g => c ((nI_ltI (by omega) (by omega)).mp g)), e0]
      refine ⟨if_neg ?_, rfl⟩
      intro g
      have g := Int32.lt_iff_toInt_lt.mp g
      rw [show (0 : Int32).toInt = 0 from rfl, sbI (by rw [nI_toInt (by omega), nI_toInt (by omega)]; omega) (by rw [nI_toInt (by omega), nI_toInt (by omega)]; omega), nI_toInt (by omega), nI_toInt (by omega)] at g
      omega
  have eo : ∀ v, v < nv → tkB Z D v = onB Y D v ∧ wtM Z f0 v = wtC Y f0 v := fun v hv => by
    obtain ⟨⟨a1, a2, a3, a4, a5, a6, a7⟩, _⟩ := (rI v (by omega)).1 hv
    have a1 : Z.1 53 0 v = Y.1 15 v 0 := a1
    have a2 : Z.1 54 0 v = Y.1 15 v 1 := a2
    have a4 : Z.1 56 0 v = Y.1 15 v 3 := a4
    have a5 : Z.1 57 0 v = Y.1 15 v 4 := a5
    have a7 : Z.1 58 0 v = Y.1 15 v 7 := a7
    refine ⟨?_, by unfold wtM wtC; rw [a1, a4, a5]⟩
    unfold tkB onB
    rw [a1, a2, a7]
    apply decide_eq_decide.mpr
    exact ⟨fun q => ⟨q.2.1, q.1⟩, fun q => ⟨q.2, q.1, fun g => h5 v hv q.2 g q.1⟩⟩
  obtain ⟨W, hW, eW, hWv⟩ := sgP_N (p := onB Y D) (w := wtC Y f0) (fun v => wtP_N _ _) nv hv16
  have eM : sgP (tkB Z D) (wtM Z f0) nv = lI W := (sgP_c nv eo).trans eW
  unfold enB
  rw [er.1, er.2, eM, eW]
  have fC := wgC_fr Y D f0 nv
  have m1 : Fr (fl [16006, 69]) (mix Y Z) (mix (wgC Y D f0 nv) (T3.1, x2)) := frMix2 fC h3 (by decide) (by decide)
  have e1 : (mix (wgC Y D f0 nv) (T3.1, x2)).1 = (mix (wgC Y D f0 nv) T3).1 := rfl
  refine pt_all (n := n) (np := np) (t := t) (IB.of1 e1 (rB.fr m1 (by decide))) (ID.of1 e1 (rI.fr m1 (by decide))) hv16 hD hd hn (fun v hv => ?_) (by omega) (by omega) (fun v hv q => ?_) nv (Nat.le_refl _)
  · rw [fC.1 15 v 1 rfl, fC.1 15 v 0 rfl, fC.1 15 v 7 rfl]; exact h5 v hv
  · have q2 : onB Y D v = true := by
      unfold onB at q ⊢
      rw [fC.1 15 v 1 rfl, fC.1 15 v 7 rfl] at q
      exact q
    obtain ⟨w, hw1, hw2, hw4⟩ := hWv v hv q2
    refine ⟨w, hw1, (wgC_at Y D f0 nv v hv q2).trans hw2, ?_, hw4⟩
    rw [hw3 v hv]
    unfold wlM
    rw [(eo v hv).1, if_pos q2, (eo v hv).2, hw2]
theorem enA_fr (S : xS) (D nv : Nat) (F : Int32) : Fr (fl [13004, 16005, 16007]) S (enA S D nv F) := (Fr.up (S := S) Fr.rf rfl).tr (pbC_fr _ D nv)
theorem enM_fr (S : xS) (D nv : Nat) (F : Int32) : Fr (fl [46, 59, 58]) S (enM S D nv F) := (Fr.up (S := S) Fr.rf rfl).tr (pbM_fr _ D nv)
theorem enB_fr (S : xS) (D nv : Nat) (f0 f2 : Int32 → Int32 → Int32) : Fr (fl [13004, 16004, 16005, 16006, 16007]) S (enB S D nv f0 f2) := ((wgC_fr S D f0 nv).wk (by decide)).tr ((ptC_fr _ D _ _ f2 nv).wk (by decide))
theorem cm_end {dp n np nd nv nt r t : Nat} {S : xS} (hn : n ≤ 600) (hN : IN np nd nv nt r t S) (hB : IB n np nd t S) (hI : ID nd nv S) (hG : IG nt S) {x : Int32} : CT (dp + 5) 0 0 m_C_end [C0, .inl x] S (fun a S1 => CT (dp + 5) 0 0 m_M_end [M0, .inl x] S1 (fun a' S2 => a' = a ∧ (IB n np nd t S2 ∧ ID nd nv S2) ∧ Fr (fl [29, 30, 29002, 69, 37027, 37028, 37029, 13004, 13006, 16004, 16005, 16006, 16007, 46, 47, 57, 58, 59]) S (S2.1, S.2))) := by
  obtain ⟨⟨b1, b2, b3, b4, b5, b6⟩, ⟨e1, e2⟩, ⟨e3, e4⟩, ⟨e7, e8⟩, ⟨e9, e10⟩, ⟨e11, e12⟩, e13, e14⟩ := id hN
  have hl : ∀ D, D < nd → IBl n np t D S := fun D hD => (hB D (by omega)).1 hD
  obtain ⟨a0, g0, c0, hC0, hM0⟩ := (hG r 0 b5 (by decide)).two
  obtain ⟨a1, g1, c1, hC1, hM1⟩ := (hG r 1 b5 (by decide)).two
  obtain ⟨a2, g2, c2, hC2, hM2⟩ := (hG r 2 b5 (by decide)).two
  have emo : S.1 0 0 13 / 30 - S.1 0 0 13 / 30 / 12 * 12 = nI (t / 30 % 12) := by rw [e13]; exact mon_N (by omega)
  have keep : IB n np nd t S ∧ ID nd nv S := ⟨hB, hI⟩
  have r6 : r < 6 := by omega
  refine ct_C_end (d := dp) (x := x) (g := _) (b := _) (m := _) (s := _) e3 e7 b2 b3 e11 r6 hC0 hC1 hC2 rfl rfl rfl rfl (fun q => ?_) (fun hx q => ?_) (fun hx th st S' f1 => ?_)
  · exact ct_M_end e4 e8 b2 b3 e12 r6 e14 b6 rfl hM0 hM1 hM2 rfl rfl rfl (fun _ => ⟨rfl, keep, Fr.rf⟩) (fun g => absurd g q) (fun g => absurd g q)
  · have hb := hl _ hx.lt
    exact ct_M_end e4 e8 b2 b3 e12 r6 e14 b6 rfl hM0 hM1 hM2 rfl rfl rfl (fun g => absurd hx g) (fun _ _ => ⟨rfl, keep, Fr.rf⟩) (fun _ g1 g2 => absurd ⟨(there_eq hb b1).mp g1, fun g => g2 (hb.1.2.2.2.2.1.trans g)⟩ q)
  · obtain ⟨D, hD, rfl⟩ := id hx
    have eD : (nI D).toNatClampNeg = D := nI_clamp (by omega)
    rw [eD] at th st f1 ⊢
    have hb := hl D hD
    rw [emo] at f1
    generalize hg : S.1 12 D 4 - S.1 12 D 6 = g at f1
    generalize hbg : S.1 0 0 13 - S.1 12 D 7 = b at f1
    generalize hm : mnC S (nI D) nv = m at f1
    have fC0 : Fr (fl [29, 30, 29002, 13004, 13006, 16004, 16005, 16006, 16007]) S S' := ((enA_fr S D nv (rvP c1 g1 g b m (nI (t / 30 % 12)) 0 0)).wk (by decide)).tr (((enB_fr _ D nv (rvP c0 g0 g b m (nI (t / 30 % 12))) (rvP c2 g2 g b m (nI (t / 30 % 12)))).wk (by decide)).tr ((Fr.up Fr.rf rfl).tr (f1.wk (by decide))))
    have h36 : ∀ k i j, 36 ≤ k → k ≤ 74 → S'.1 k i j = S.1 k i j := fun k i j h1 h2 => fC0.1 k i j (fl_36 (by decide) h1 h2)
    have q36 : ∀ i j, S'.1 36 i j = S.1 36 i j := fun i j => h36 36 i j (by decide) (by decide)
    have x47 : S'.1 47 0 D = S.1 12 D 6 := (h36 47 0 D (by decide) (by decide)).trans hb.1.2.2.2.2.1
    have x46 : S'.1 46 0 D = S.1 12 D 4 := (h36 46 0 D (by decide) (by decide)).trans hb.1.2.2.2.1
    have x48 : S'.1 48 0 D = S.1 12 D 7 := (h36 48 0 D (by decide) (by decide)).trans hb.1.2.2.2.2.2
    have xm : mnM S' D nv = m := by
      rw [← hm, ← mn_eq hI b3 nv (Nat.le_refl _)]
      have : ∀ k, mnM S' D k = mnM S D k := by
        intro k
        induction k with
        | zero => rfl
        | succ k ih =>
          show (if (S'.1 54 0 k = nI D ∧ S'.1 58 0 k = 0) ∧ (S'.1 53 0 k = 1 ∨ S'.1 53 0 k = 2) then mnM S' D k + 1 else mnM S' D k) = _
          rw [ih, h36 54 0 k (by decide) (by decide), h36 58 0 k (by decide) (by decide), h36 53 0 k (by decide) (by decide)]
          rfl
      exact this nv
    have hs47 : ¬ S'.1 47 0 D = -1 := by rw [x47]; exact st
    have hth : mThere S' D := ⟨(h36 49 0 D (by decide) (by decide)).trans ((there_eq hb b1).mpr th).1, (h36 44 0 D (by decide) (by decide)).trans ((there_eq hb b1).mpr th).2⟩
    refine ct_M_end (d := dp) (x := nI D) (g := g) (b := b) (m := m) ((q36 0 8).trans e4) ((q36 0 19).trans e8) b2 b3 ((q36 0 34).trans e12) r6 ((q36 0 0).trans e14) b6 rfl (hM0.fr fC0 (by decide)) (hM1.fr fC0 (by decide)) (hM2.fr fC0 (by decide)) (by rw [eD, x46, x47, hg]) (by rw [eD, x48, ← e13, hbg]) (by rw [eD]; exact xm) (fun g => absurd hx g) (fun _ g => absurd ⟨by rw [eD]; exact hth, by rw [eD]; exact hs47⟩ g) (fun _ _ _ T3 T4 h3 hw3 h4 => ?_)
    rw [eD] at h3 hw3 h4 ⊢
    have hmx : mix S S' = S := mix_eq h36 fC0.2
    have fg : Fr (fl [37027, 37028, 37029]) (mix S S') (mix S (fgM S' g b m)) := frMix2 (l1 := []) Fr.rf (fgM_fr S' g b m) (by decide) (by decide)
    rw [hmx] at fg
    obtain ⟨rB, rI⟩ := en_rel (T := fgM S' g b m) (T3 := T3) (F := rvP c1 g1 g b m (nI (t / 30 % 12)) 0 0) (f0 := rvP c0 g0 g b m (nI (t / 30 % 12))) (f2 := rvP c2 g2 g b m (nI (t / 30 % 12))) (hB.fr fg (by decide)) (hI.fr fg (by decide)) b3 hD b2 (by omega) st h3 hw3
    generalize enB (enA S D nv (rvP c1 g1 g b m (nI (t / 30 % 12)) 0 0)) D nv (rvP c0 g0 g b m (nI (t / 30 % 12))) (rvP c2 g2 g b m (nI (t / 30 % 12))) = Y at rB rI f1
    have fZ := enM_fr (fgM S' g b m) D nv (rvP c1 g1 g b m (nI (t / 30 % 12)) 0 0)
    generalize enM (fgM S' g b m) D nv (rvP c1 g1 g b m (nI (t / 30 % 12)) 0 0) = Z at rB rI h3 h4 fZ
    have fP := ptM_fr T3 D (enS Z D) (sgP (tkB Z D) (wtM Z (rvP c0 g0 g b m (nI (t / 30 % 12)))) nv) (rvP c2 g2 g b m (nI (t / 30 % 12))) nv
    generalize ptM T3 D (enS Z D) (sgP (tkB Z D) (wtM Z (rvP c0 g0 g b m (nI (t / 30 % 12)))) nv) (rvP c2 g2 g b m (nI (t / 30 % 12))) nv = P at rB rI h4 fP
    -- the end of both
    have fT3 : Fr (fl [37027, 37028, 37029, 46, 59, 58, 69]) S' (T3.1, S'.2) := ((fgM_fr S' g b m).wk (by decide)).tr ((fZ.wk (by decide)).tr ⟨fun k i j q => (h3.wk (l' := [37027, 37028, 37029, 46, 59, 58, 69]) (by decide)).1 k i j q, by rw [fZ.2, (fgM_fr S' g b m).2]⟩)
    have fT4 : Fr (fl [37027, 37028, 37029, 46, 59, 58, 69, 57]) S' (T4.1, S'.2) := (fT3.wk (by decide)).tr ⟨fun k i j q => ((fP.wk (by decide)).tr (h4.wk (l' := [37027, 37028, 37029, 46, 59, 58, 69, 57]) (by decide))).1 k i j q, rfl⟩
    have fE : Fr (fl [37027, 37028, 37029, 46, 59, 58, 69, 57, 47]) S' ((xupd T4 47 0 D (-1)).1, S'.2) := (fT4.wk (by decide)).tr (Fr.up (S := (T4.1, S'.2)) Fr.rf rfl)
    have hcl : ∀ k i j, ¬ (36 ≤ k ∧ k ≤ 74) → (xupd T4 47 0 D (-1)).1 k i j = S'.1 k i j := fun k i j h => by
      have w1 : (xupd T4 47 0 D (-1)).1 k i j = T4.1 k i j := if_neg (fun q => h ⟨by omega, by omega⟩)
      have w2 : (fgM S' g b m).1 k i j = S'.1 k i j := (if_neg (fun q => h ⟨by omega, by omega⟩)).trans ((if_neg (fun q => h ⟨by omega, by omega⟩)).trans (if_neg (fun q => h ⟨by omega, by omega⟩)))
      rw [w1, h4.1 k i j (fl_no36 (by decide) h), fP.1 k i j (fl_no36 (by decide) h)]
      exact (h3.1 k i j (fl_no36 (by decide) h)).trans ((fZ.1 k i j (fl_no36 (by decide) h)).trans w2)
    have eM : (mix S' (xupd T4 47 0 D (-1))).1 = (xupd T4 47 0 D (-1)).1 := by
      funext k i j
      show cond (Nat.ble 36 k && Nat.ble k 74) _ _ = _
      cases hb : (Nat.ble 36 k && Nat.ble k 74) with
      | true => rfl
      | false =>
        refine (hcl k i j (fun q => ?_)).symm
        rw [Nat.ble_eq_true_of_le q.1, Nat.ble_eq_true_of_le q.2] at hb
        cases hb
    have fin : Fr (fl [29, 30, 29002, 69]) (mix (xupd Y 12 D 6 (-1)) (xupd P 47 0 D (-1))) (mix S' (xupd T4 47 0 D (-1))) := frMix2 f1 h4.cong (by decide) (by decide)
    have rB2 : IB n np nd t (xupd T4 47 0 D (-1)) := by
      refine IB.of1 eM (IB.fr fin (by decide) ?_)
      rw [mix_up2 rfl, mix_up1 rfl]
      exact rB.rest hD
    have rI2 : ID nd nv (xupd T4 47 0 D (-1)) := by
      refine ID.of1 eM (ID.fr fin (by decide) ?_)
      rw [mix_up2 rfl, mix_up1 rfl]
      exact rI.fr (l := [13006, 47]) ((Fr.rf.up rfl).up rfl) (by decide)
    refine ⟨?_, ⟨rB2, rI2⟩, (fC0.wk (by decide)).tr ⟨fun k i j q => (fE.wk (by decide)).1 k i j q, fC0.2.symm⟩⟩
    have := ((rB2 D (by omega)).1 hD).1.2.2.2.1
    rw [hcl 12 D 4 (by decide)] at this
    rw [← this]
    rfl
