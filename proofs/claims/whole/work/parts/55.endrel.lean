/-! end: both sides part alike -/
theorem ID.owed {nd nv v c : Nat} {R : xS} (h : ID nd nv R) (hv : v < nv) (hc : c ≤ 20000) : ID nd nv (xupd (xupd R 15 v 4 (nI c)) 57 0 v (nI c)) := by
  intro u hu
  refine ⟨fun q => ?_, fun q => ?_⟩
  · obtain ⟨⟨b1, b2, b3, b4, b5, b6, b7⟩, b8, b9, b10, b11, b12, b13⟩ := (h u hu).1 q
    by_cases e : u = v
    · subst e
      refine ⟨⟨b1, b2, b3, b4, ?_, b6, b7⟩, b8, b9, b10, b11, ⟨c, hc, ?_⟩, b13⟩
      · simp (decide := true) only [xu, true_and, false_and, and_true, and_false, if_true, if_false]
      · simp (decide := true) only [xu, true_and, false_and, and_true, and_false, if_true, if_false]
    · refine ⟨⟨b1, b2, b3, b4, ?_, b6, b7⟩, b8, b9, b10, b11, ?_, b13⟩
      · simp (decide := true) only [xu, true_and, false_and, and_true, and_false, if_true, if_false, e]; exact b5
      · obtain ⟨c2, h1, h2⟩ := b12
        refine ⟨c2, h1, ?_⟩
        simp (decide := true) only [xu, true_and, false_and, and_true, and_false, if_true, if_false, e]; exact h2
  · have e : ¬ u = v := by omega
    obtain ⟨b1, b2, b3, b4, b5⟩ := (h u hu).2 q
    refine ⟨?_, b2, b3, b4, b5⟩
    simp (decide := true) only [xu, true_and, false_and, and_true, and_false, if_true, if_false, e]; exact b1
theorem ID.over2 {nd nv v : Nat} {x : Int32} {R : xS} (h : ID nd nv R) (hv : v < nv) (hx : x = 0 ∨ x = 1) : ID nd nv (xupd (xupd R 15 v 7 x) 58 0 v x) := by
  intro u hu
  refine ⟨fun q => ?_, fun q => ?_⟩
  · obtain ⟨⟨b1, b2, b3, b4, b5, b6, b7⟩, b8, b9, b10, b11, b12, b13⟩ := (h u hu).1 q
    by_cases e : u = v
    · subst e
      refine ⟨⟨b1, b2, b3, b4, b5, b6, ?_⟩, b8, b9, b10, b11, b12, ?_⟩
      · simp (decide := true) only [xu, true_and, false_and, and_true, and_false, if_true, if_false]
      · simp (decide := true) only [xu, true_and, false_and, and_true, and_false, if_true, if_false]; exact hx
    · refine ⟨⟨b1, b2, b3, b4, b5, b6, ?_⟩, b8, b9, b10, b11, b12, ?_⟩
      · simp (decide := true) only [xu, true_and, false_and, and_true, and_false, if_true, if_false, e]; exact b7
      · simp (decide := true) only [xu, true_and, false_and, and_true, and_false, if_true, if_false, e]; exact b13
  · have e : ¬ u = v := by omega
    obtain ⟨b1, b2, b3, b4, b5⟩ := (h u hu).2 q
    refine ⟨b1, b2, ?_, ?_, b5⟩
    · simp (decide := true) only [xu, true_and, false_and, and_true, and_false, if_true, if_false, e]; exact b3
    · simp (decide := true) only [xu, true_and, false_and, and_true, and_false, if_true, if_false, e]; exact b4
theorem py_rel {n np nd nv t D v : Nat} {S T : xS} {due ov : Int32} {due2 : Int64} (hB : IB n np nd t (mix S T)) (hI : ID nd nv (mix S T)) (hv : v < nv) (hv16 : nv ≤ 16) (hD : D < nd) (hd : nd ≤ 4) (hn : 100000 * (n + 1) < 2 ^ 31) (hdue : due2 = due.toInt64) (hov : ov = 0 ∨ ov = 1) : IB n np nd t (mix (pyC S D v due ov) (pyM T D v due2 ov)) ∧ ID nd nv (mix (pyC S D v due ov) (pyM T D v due2 ov)) := by
  obtain ⟨⟨b1, b2, b3, b4, b5, b6⟩, _, _, _, ⟨A, hA, eA⟩, _⟩ := (hB D (by omega)).1 hD
  have b4 : T.1 46 0 D = S.1 12 D 4 := b4
  have eA : S.1 12 D 4 = nI A := eA
  unfold pyC pyM
  rw [hdue, b4, eA, hd_cl (by omega)]
  obtain ⟨k, hk, ek⟩ := clP_N (x := due) (c := A) (by omega)
  rw [ek, nI_sb hk (by omega), mix_up2 rfl, mix_up2 rfl, mix_up2 rfl, mix_up1 rfl, mix_up1 rfl, mix_up1 rfl]
  have h1 := hB.spend (A := A - k) hD (by omega)
  have h2 := (hI.fr (S2 := xupd (xupd (mix S T) 12 D 4 (nI (A - k))) 46 0 D (nI (A - k))) (l := [13004, 46]) ((Fr.rf.up rfl).up rfl) (by decide)).got (v := v) (k := nI k) hv
  have h3 := h2.over2 (v := v) hv hov
  have e : xupd (xupd (xupd (xupd (xupd (xupd (mix S T) 12 D 4 (nI (A - k))) 15 v 5 (S.1 15 v 5 + nI k)) 15 v 7 ov) 46 0 D (nI (A - k))) 59 0 v (T.1 59 0 v + nI k)) 58 0 v ov = xupd (xupd (xupd (xupd (xupd (xupd (mix S T) 12 D 4 (nI (A - k))) 46 0 D (nI (A - k))) 15 v 5 (S.1 15 v 5 + nI k)) 59 0 v (T.1 59 0 v + nI k)) 15 v 7 ov) 58 0 v ov := by
    rw [xupd_sw (k := 15) (j := 7) (k2 := 46) (by omega), xupd_sw (k := 15) (j := 5) (k2 := 46) (by omega), xupd_sw (k := 15) (j := 7) (k2 := 59) (by omega)]
  rw [e]
  exact ⟨h1.fr (l := [16005, 59, 16007, 58]) ((((Fr.rf.up rfl).up rfl).up rfl).up rfl) (by decide), h3⟩
theorem ov_k {k : Nat} (hk : k < 6) (h2 : ¬ nI k = 2) : (if nI k = 0 ∨ 2 < nI k then (1 : Int32) else 0) = (if nI k = 1 then 0 else 1) := by
  match k, hk, h2 with
  | 0, _, _ => rfl
  | 1, _, _ => rfl
  | 2, _, h => exact absurd rfl h
  | 3, _, _ => rfl
  | 4, _, _ => rfl
  | 5, _, _ => rfl
theorem pt_rel {n np nd nv t D v A a : Nat} {S T : xS} {f : Int32 → Int32 → Int32} (hB : IB n np nd t (mix S T)) (hI : ID nd nv (mix S T)) (hv : v < nv) (hv16 : nv ≤ 16) (hD : D < nd) (hd : nd ≤ 4) (hn : 100000 * (n + 1) < 2 ^ 31) (h5 : S.1 15 v 1 = nI D → S.1 15 v 0 = 5 → ¬ S.1 15 v 7 = 0) (hA : A < 2 ^ 63) (ha : a < 2 ^ 31) (hw : onB S D v = true → ∃ w, w < 2 ^ 31 ∧ S.1 15 v 6 = nI w ∧ T.2 60 0 v = (nI w).toInt64 ∧ w ≤ A) : IB n np nd t (mix (pt1 S D (nI a) (lI A) f v) (pm1 T D (nI a).toInt64 (lI A) f v)) ∧ ID nd nv (mix (pt1 S D (nI a) (lI A) f v) (pm1 T D (nI a).toInt64 (lI A) f v)) := by
  obtain ⟨⟨a1, a2, a3, a4, a5, a6, a7⟩, ⟨K, hK, eK⟩, _, ⟨cA, hcA, ecA⟩, _, ⟨c, hc, ec⟩, _⟩ := (hI v (by omega)).1 hv
  have a1 : T.1 53 0 v = S.1 15 v 0 := a1
  have a2 : T.1 54 0 v = S.1 15 v 1 := a2
  have a3 : T.1 55 0 v = S.1 15 v 2 := a3
  have a4 : T.1 56 0 v = S.1 15 v 3 := a4
  have a5 : T.1 57 0 v = S.1 15 v 4 := a5
  have a7 : T.1 58 0 v = S.1 15 v 7 := a7
  have eK : S.1 15 v 0 = nI K := eK
  have ec : S.1 15 v 4 = nI c := ec
  have ecA : S.1 15 v 2 = nI cA := ecA
  have ebk : ∀ du : Int32, ∀ k, du = nI k → k < 2 ^ 31 → ∃ b, b ≤ c ∧ b ≤ k ∧ bkC S f du v = nI b ∧ bkM T f (lI k) v = nI b := by
    intro du k hdu hk
    have h1 : bkC S f du v = clP (f (S.1 15 v 3) (S.1 15 v 4)) (nI (if c < k then c else k)) := by
      unfold bkC
      rw [ec, hdu]
      by_cases q : c < k
      · rw [if_pos (nI_lt q hk), if_pos q]
      · rw [if_neg (fun g => q ((nI_ltI (by omega) hk).mp g)), if_neg q]
    have h2 : bkM T f (lI k) v = clP (f (S.1 15 v 3) (S.1 15 v 4)) (nI (if c < k then c else k)) := by
      unfold bkM
      rw [a4, a5, ec, lI_of (by omega)]
      have h3 : (if lI k < lI c then (lI k).toInt32 else nI c) = nI (if c < k then c else k) := by
        by_cases q : k < c
        · rw [if_pos ((lI_lt (by omega) (by omega)).mpr q), if_neg (by omega), lI_32 hk]
        · rw [if_neg (fun g => q ((lI_lt (by omega) (by omega)).mp g))]
          by_cases q2 : c < k
          · rw [if_pos q2]
          · rw [if_neg q2, show c = k by omega]
      rw [h3]
      exact hd_cl (by split <;> omega)
    obtain ⟨b, hb, eb⟩ := clP_N (x := f (S.1 15 v 3) (S.1 15 v 4)) (c := if c < k then c else k) (by split <;> omega)
    refine ⟨b, ?_, ?_, h1.trans eb, h2.trans eb⟩
    · split at hb <;> omega
    · split at hb <;> omega
  have etk : tkB T D v = onB S D v := by
    unfold tkB onB
    rw [a1, a2, a7]
    apply decide_eq_decide.mpr
    refine ⟨fun q => ⟨q.2.1, q.1⟩, fun q => ⟨q.2, q.1, fun g => h5 q.2 g q.1⟩⟩
  unfold pt1 pm1
  rw [etk]
  by_cases c1 : onB S D v = true
  · rw [if_pos c1, if_pos c1]
    obtain ⟨w, hw1, hw2, hw3, hw4⟩ := hw c1
    obtain ⟨k, hk, ek⟩ := du_N ha hw1 hA hw4
    have e1 : duC S (nI a) (lI A) v = nI k := by
      unfold duC
      rw [hw2]
      by_cases z : lI A = 0
      · rw [if_pos z] at ek ⊢
        have := (lI_inj (a := 0) (b := k) (by omega) (by omega)).mp ek
        subst this; rfl
      · rw [if_neg z] at ek ⊢
        rw [ek, lI_32 (by omega)]
    have e2 : duM T (nI a).toInt64 (lI A) v = lI k := by
      unfold duM
      rw [hw3]; exact ek
    rw [e1, e2]
    unfold pt2 pm2
    rw [a1]
    by_cases k2 : S.1 15 v 0 = 2
    · rw [if_pos k2, if_pos k2]
      obtain ⟨b, hb1, hb2, eb1, eb2⟩ := ebk (nI k) k rfl (by omega)
      rw [eb1, eb2, a5, ec, nI_sb hb1 (by omega), nI_sb hb2 (by omega), lI_of (show b < 2 ^ 31 by omega), lI_sb hb2 (by omega), ← lI_of (show k - b < 2 ^ 31 by omega)]
      have h1 : IB n np nd t (mix (xupd S 15 v 4 (nI (c - b))) (xupd T 57 0 v (nI (c - b)))) := by
        rw [mix_up2 rfl, mix_up1 rfl]
        exact hB.fr (l := [16004, 57]) ((Fr.rf.up rfl).up rfl) (by decide)
      have h2 : ID nd nv (mix (xupd S 15 v 4 (nI (c - b))) (xupd T 57 0 v (nI (c - b)))) := by
        rw [mix_up2 rfl, mix_up1 rfl]
        exact hI.owed hv (by omega)
      have eo : (if nI (c - b) = 0 then (1 : Int32) else 0) = (if 0 < nI (c - b) then 0 else 1) := by
        by_cases z : c - b = 0
        · rw [z]; rfl
        · rw [if_pos (show 0 < nI (c - b) from nI_lt (a := 0) (by omega) (by omega)), if_neg]
          intro g
          have g2 := congrArg Int32.toInt g
          rw [nI_toInt (show c - b < 2 ^ 31 by omega), show (0 : Int32).toInt = 0 from rfl] at g2
          omega
      rw [eo]
      exact py_rel h1 h2 hv hv16 hD hd hn rfl (by split; exact Or.inl rfl; exact Or.inr rfl)
    · rw [if_neg k2, if_neg k2, eK, ov_k hK (by rw [← eK]; exact k2), a3]
      refine py_rel hB hI hv hv16 hD hd hn ?_ (by split; exact Or.inl rfl; exact Or.inr rfl)
      by_cases k4 : nI K = 4
      · rw [if_pos k4, if_pos k4]
      · rw [if_neg k4, if_neg k4, lI_of (by omega)]
  · rw [if_neg c1, if_neg c1]
    exact ⟨hB, hI⟩
theorem pt1_ne {S : xS} {D : Nat} {rest : Int32} {all : Int64} {f : Int32 → Int32 → Int32} {v u : Nat} (h : ¬ u = v) : (pt1 S D rest all f v).1 15 u 7 = S.1 15 u 7 := by
  unfold pt1 pt2 pyC
  by_cases c : onB S D v = true
  · rw [if_pos c]
    by_cases k : S.1 15 v 0 = 2
    · rw [if_pos k]
      simp (decide := true) only [xu, true_and, false_and, and_true, and_false, if_true, if_false, h]
    · rw [if_neg k]
      simp (decide := true) only [xu, true_and, false_and, and_true, and_false, if_true, if_false, h]
  · rw [if_neg c]
theorem ptC_ge {S : xS} {D : Nat} {rest : Int32} {all : Int64} {f : Int32 → Int32 → Int32} : ∀ m u, m ≤ u → (ptC S D rest all f m).1 15 u 7 = S.1 15 u 7
  | 0, _, _ => rfl
  | m + 1, u, h => (pt1_ne (by omega)).trans (ptC_ge m u (by omega))
theorem pt_all {n np nd nv t D A a : Nat} {S T : xS} {f : Int32 → Int32 → Int32} (hB : IB n np nd t (mix S T)) (hI : ID nd nv (mix S T)) (hv16 : nv ≤ 16) (hD : D < nd) (hd : nd ≤ 4) (hn : 100000 * (n + 1) < 2 ^ 31) (h5 : ∀ v, v < nv → S.1 15 v 1 = nI D → S.1 15 v 0 = 5 → ¬ S.1 15 v 7 = 0) (hA : A < 2 ^ 63) (ha : a < 2 ^ 31) (hw : ∀ v, v < nv → onB S D v = true → ∃ w, w < 2 ^ 31 ∧ S.1 15 v 6 = nI w ∧ T.2 60 0 v = (nI w).toInt64 ∧ w ≤ A) : ∀ m, m ≤ nv → IB n np nd t (mix (ptC S D (nI a) (lI A) f m) (ptM T D (nI a).toInt64 (lI A) f m)) ∧ ID nd nv (mix (ptC S D (nI a) (lI A) f m) (ptM T D (nI a).toInt64 (lI A) f m))
  | 0, _ => ⟨hB, hI⟩
  | m + 1, hm => by
    obtain ⟨h1, h2⟩ := pt_all (f := f) hB hI hv16 hD hd hn h5 hA ha hw m (by omega)
    have fC := ptC_fr S D (nI a) (lI A) f m
    have fM := ptM_fr T D (nI a).toInt64 (lI A) f m
    have e7 : (ptC S D (nI a) (lI A) f m).1 15 m 7 = S.1 15 m 7 := ptC_ge m m (Nat.le_refl _)
    have e0 : (ptC S D (nI a) (lI A) f m).1 15 m 0 = S.1 15 m 0 := fC.1 15 m 0 rfl
    have e1 : (ptC S D (nI a) (lI A) f m).1 15 m 1 = S.1 15 m 1 := fC.1 15 m 1 rfl
    have e6 : (ptC S D (nI a) (lI A) f m).1 15 m 6 = S.1 15 m 6 := fC.1 15 m 6 rfl
    refine pt_rel h1 h2 (by omega) hv16 hD hd hn ?_ hA ha ?_
    · rw [e7, e0, e1]; exact h5 m (by omega)
    · rw [e6, fM.2]
      intro q
      refine hw m (by omega) ?_
      unfold onB at q ⊢
      rw [e7, e1] at q
      exact q
