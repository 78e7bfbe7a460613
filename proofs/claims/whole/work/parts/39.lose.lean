/-! lose -/
theorem ct_isOn {d v : Nat} {x : Int32} {S : xS} {Q : xQ} (h1 : S.1 15 v 7 = 0 → S.1 15 v 1 = x → Q (some (.inl 1)) S) (h0 : ¬ (S.1 15 v 7 = 0 ∧ S.1 15 v 1 = x) → Q (some (.inl 0)) S) : CT d 0 0 m_Venture_isOn [.inr (.inr (15, v)), .inl x] S Q := by
  refine ct_of (xmok_all (by decide)) rfl (V_go (pc := 0) pk_63 [] 50 ?_)
  refine And.intro (fun c => And.intro (Or.inl rfl) (h0 (fun g => c g.1))) (fun c => And.intro (fun c2 => And.intro (Or.inl rfl) (h0 (fun g => c2 g.2))) (fun c2 => And.intro (Or.inr rfl) (h1 c c2)))
theorem ct_vDown {d v : Nat} {S : xS} {Q : xQ} (h : Q none (if S.1 15 v 0 = 2 then xupd S 15 v 1 (-1) else xupd S 15 v 7 1)) : CT d 0 0 m_Venture_goDown [.inr (.inr (15, v))] S Q := by
  refine ct_of (xmok_all (by decide)) rfl (V_go (pc := 0) pk_64 [] 50 ?_)
  refine And.intro (fun c => ?_) (fun c => ?_)
  · rw [if_neg c] at h
    exact And.intro (Or.inr rfl) h
  · rw [if_pos c] at h
    exact h
def l1C (S : xS) (D v : Nat) : xS := if S.1 15 v 7 = 0 ∧ S.1 15 v 1 = nI D then (if S.1 15 v 0 = 2 then xupd S 15 v 1 (-1) else xupd S 15 v 7 1) else S
def l1M (S : xS) (D v : Nat) : xS := if S.1 54 0 v = nI D ∧ S.1 58 0 v = 0 then xupd (xupd S 58 0 v (if S.1 53 0 v = 2 then 0 else 1)) 54 0 v (if S.1 53 0 v = 2 then -1 else nI D) else S
def lsC (S : xS) (D : Nat) : Nat → xS
  | 0 => S
  | m + 1 => l1C (lsC S D m) D m
def lsM (S : xS) (D : Nat) : Nat → xS
  | 0 => S
  | m + 1 => l1M (lsM S D m) D m
theorem l1C_fr (S : xS) (D v : Nat) : Fr (fl [16001, 16007]) S (l1C S D v) := by
  unfold l1C
  by_cases c : S.1 15 v 7 = 0 ∧ S.1 15 v 1 = nI D
  · rw [if_pos c]
    by_cases c2 : S.1 15 v 0 = 2
    · rw [if_pos c2]; exact Fr.rf.up rfl
    · rw [if_neg c2]; exact Fr.rf.up rfl
  · rw [if_neg c]; exact Fr.rf
theorem l1M_fr (S : xS) (D v : Nat) : Fr (fl [54, 58]) S (l1M S D v) := by
  unfold l1M
  by_cases c : S.1 54 0 v = nI D ∧ S.1 58 0 v = 0
  · rw [if_pos c]; exact (Fr.rf.up rfl).up rfl
  · rw [if_neg c]; exact Fr.rf
theorem lsC_fr (S : xS) (D : Nat) : ∀ m, Fr (fl [16001, 16007]) S (lsC S D m)
  | 0 => Fr.rf
  | m + 1 => (lsC_fr S D m).tr (l1C_fr _ D m)
theorem lsM_fr (S : xS) (D : Nat) : ∀ m, Fr (fl [54, 58]) S (lsM S D m)
  | 0 => Fr.rf
  | m + 1 => (lsM_fr S D m).tr (l1M_fr _ D m)
theorem mix_up1 {S T : xS} {k i j : Nat} {x : Int32} (hk : (Nat.ble 36 k && Nat.ble k 74) = false) : mix (xupd S k i j x) T = xupd (mix S T) k i j x := by
  unfold mix xupd
  refine Prod.ext ?_ rfl
  funext k' i' j'
  dsimp only
  by_cases c : k' = k ∧ j' = j ∧ i' = i
  · rw [if_pos c, if_pos c, c.1, hk]; rfl
  · rw [if_neg c, if_neg c]
theorem mix_up2 {S T : xS} {k i j : Nat} {x : Int32} (hk : (Nat.ble 36 k && Nat.ble k 74) = true) : mix S (xupd T k i j x) = xupd (mix S T) k i j x := by
  unfold mix xupd
  refine Prod.ext ?_ rfl
  funext k' i' j'
  dsimp only
  by_cases c : k' = k ∧ j' = j ∧ i' = i
  · rw [if_pos c, if_pos c, c.1, hk]; rfl
  · rw [if_neg c, if_neg c]
theorem ID.lose1 {nd nv D v : Nat} {S T : xS} (h : ID nd nv (mix S T)) (hv : v < nv) (hv16 : nv ≤ 16) (hD : D < nd) (hd : nd ≤ 4) : ID nd nv (mix (l1C S D v) (l1M T D v)) := by
  obtain ⟨⟨a1, a2, a3, a4, a5, a6, a7⟩, ⟨K, hK, eK⟩, a9, a10, a11, a12, a13⟩ := (h v (by omega)).1 hv
  have a1 : T.1 53 0 v = S.1 15 v 0 := a1
  have a2 : T.1 54 0 v = S.1 15 v 1 := a2
  have a7 : T.1 58 0 v = S.1 15 v 7 := a7
  unfold l1C l1M
  rw [a1, a2, a7]
  by_cases c : S.1 15 v 7 = 0 ∧ S.1 15 v 1 = nI D
  · rw [if_pos c, if_pos (show S.1 15 v 1 = nI D ∧ S.1 15 v 7 = 0 from ⟨c.2, c.1⟩)]
    by_cases c2 : S.1 15 v 0 = 2
    · rw [if_pos c2, if_pos c2, if_pos c2, mix_up2 rfl, mix_up2 rfl, mix_up1 rfl]
      have c4 : (mix S T).1 15 v 7 = 0 := c.1
      generalize mix S T = R at h c4
      intro u hu
      refine ⟨fun q => ?_, fun q => ?_⟩
      · obtain ⟨⟨b1, b2, b3, b4, b5, b6, b7⟩, b8, b9, b10, b11, b12, b13⟩ := (h u hu).1 q
        by_cases e : u = v
        · subst e
          refine ⟨⟨b1, ?_, b3, b4, b5, b6, ?_⟩, b8, Or.inl ?_, b10, b11, b12, b13⟩
          · simp (decide := true) only [xu, true_and, false_and, and_true, and_false, if_true, if_false]
          · simp (decide := true) only [xu, true_and, false_and, and_true, and_false, if_true, if_false]; exact c4.symm
          · simp (decide := true) only [xu, true_and, false_and, and_true, and_false, if_true, if_false]
        · refine ⟨⟨b1, ?_, b3, b4, b5, b6, ?_⟩, b8, ?_, b10, b11, b12, b13⟩
          · simp (decide := true) only [xu, true_and, false_and, and_true, and_false, if_true, if_false, e]; exact b2
          · simp (decide := true) only [xu, true_and, false_and, and_true, and_false, if_true, if_false, e]; exact b7
          · simp (decide := true) only [xu, true_and, false_and, and_true, and_false, if_true, if_false, e]; exact b9
      · have e : ¬ u = v := by omega
        obtain ⟨b1, b2, b3, b4, b5⟩ := (h u hu).2 q
        refine ⟨b1, b2, b3, ?_, b5⟩
        simp (decide := true) only [xu, true_and, false_and, and_true, and_false, if_true, if_false, e]; exact b4
    · rw [if_neg c2, if_neg c2, if_neg c2, mix_up2 rfl, mix_up2 rfl, mix_up1 rfl]
      have c3 : (mix S T).1 15 v 1 = nI D := c.2
      generalize mix S T = R at h c3
      intro u hu
      refine ⟨fun q => ?_, fun q => ?_⟩
      · obtain ⟨⟨b1, b2, b3, b4, b5, b6, b7⟩, b8, b9, b10, b11, b12, b13⟩ := (h u hu).1 q
        by_cases e : u = v
        · subst e
          refine ⟨⟨b1, ?_, b3, b4, b5, b6, ?_⟩, b8, b9, b10, b11, b12, Or.inr ?_⟩
          · simp (decide := true) only [xu, true_and, false_and, and_true, and_false, if_true, if_false]; exact c3.symm
          · simp (decide := true) only [xu, true_and, false_and, and_true, and_false, if_true, if_false]
          · simp (decide := true) only [xu, true_and, false_and, and_true, and_false, if_true, if_false]
        · refine ⟨⟨b1, ?_, b3, b4, b5, b6, ?_⟩, b8, b9, b10, b11, b12, ?_⟩
          · simp (decide := true) only [xu, true_and, false_and, and_true, and_false, if_true, if_false, e]; exact b2
          · simp (decide := true) only [xu, true_and, false_and, and_true, and_false, if_true, if_false, e]; exact b7
          · simp (decide := true) only [xu, true_and, false_and, and_true, and_false, if_true, if_false, e]; exact b13
      · have e : ¬ u = v := by omega
        obtain ⟨b1, b2, b3, b4, b5⟩ := (h u hu).2 q
        refine ⟨b1, b2, ?_, ?_, b5⟩
        · simp (decide := true) only [xu, true_and, false_and, and_true, and_false, if_true, if_false, e]; exact b3
        · simp (decide := true) only [xu, true_and, false_and, and_true, and_false, if_true, if_false, e]; exact b4
  · rw [if_neg c, if_neg (show ¬ (S.1 15 v 1 = nI D ∧ S.1 15 v 7 = 0) from fun g => c ⟨g.2, g.1⟩)]
    exact h
theorem ID.loseN {nd nv D : Nat} {S T : xS} (h : ID nd nv (mix S T)) (hv16 : nv ≤ 16) (hD : D < nd) (hd : nd ≤ 4) : ∀ m, m ≤ nv → ID nd nv (mix (lsC S D m) (lsM T D m))
  | 0, _ => h
  | m + 1, hm => (ID.loseN h hv16 hD hd m (by omega)).lose1 (by omega) hv16 hD hd
theorem ct_goDown {d D : Nat} {S : xS} {Q : xQ} (h : Q none (xupd (xupd (xupd (xupd (xupd (xupd (xupd (xupd (xupd S 12 D 2 1) 12 D 0 (-1)) 12 D 1 (-1)) 12 D 4 0) 12 D 6 (-1)) 13 D 0 0) 13 D 1 0) 13 D 2 0) 13 D 3 0)) : CT (d + 1) 0 0 m_Dhow_goDown [.inr (.inr (12, D))] S Q := by
  refine ct_of (xmok_all (by decide)) rfl (V_go (pc := 0) pk_3 [] 50 ?_)
  refine And.intro (Or.inr rfl) ?_
  exact ct_fill_13 h
/-- the class's, the model's store when the dhow D goes down (the ventures apart) -/
def dnC (S : xS) (D : Nat) : xS := xupd (xupd (xupd (xupd (xupd (xupd (xupd (xupd (xupd S 12 D 2 1) 12 D 0 (-1)) 12 D 1 (-1)) 12 D 4 0) 12 D 6 (-1)) 13 D 0 0) 13 D 1 0) 13 D 2 0) 13 D 3 0
def dnM (S : xS) (D : Nat) : xS := sFill (xupd (xupd (xupd (xupd S 49 0 D 1) 44 0 D (-1)) 46 0 D 0) 47 0 D (-1)) 50 0 (4 * D) 4 0
theorem dnC_fr (S : xS) (D : Nat) : Fr (fl [13000, 13001, 13002, 13004, 13006, 13]) S (dnC S D) := ((((((((Fr.rf.up rfl).up rfl).up rfl).up rfl).up rfl).up rfl).up rfl).up rfl).up rfl
theorem dnM_fr (S : xS) (D : Nat) : Fr (fl [49, 44, 46, 47, 50]) S (dnM S D) := ((((Fr.rf.up rfl).up rfl).up rfl).up rfl).fill (fun _ => rfl)
theorem IB.lose {n np nd t D : Nat} {S : xS} (h : IB n np nd t S) (hD : D < nd) (hd4 : nd ≤ 4) : IB n np nd t (dnM (dnC S D) D) := by
  intro d hd
  unfold dnM dnC
  refine ⟨fun q => ?_, fun q => ?_⟩
  · obtain ⟨⟨a1, a2, a3, a4, a5, a6⟩, a7, a8, ⟨H, G0, a9, a10, a11, a12⟩, a13, a15, a16⟩ := (h d hd).1 q
    by_cases e : d = D
    · subst e
      refine ⟨⟨?_, ?_, a3, ?_, ?_, a6⟩, Or.inr ⟨?_, ?_, ?_⟩, Or.inl ?_, ⟨H, fun _ => 0, a9, a10, fun g hg => ⟨?_, ?_⟩, by show 0 + 0 + 0 + 0 ≤ H; omega⟩, ⟨0, by omega, ?_⟩, Or.inl ?_, a16⟩
      · simp (decide := true) only [sFill_at, xu, true_and, false_and, and_true, and_false, if_true, if_false]
      · simp (decide := true) only [sFill_at, xu, true_and, false_and, and_true, and_false, if_true, if_false]
      · simp (decide := true) only [sFill_at, xu, true_and, false_and, and_true, and_false, if_true, if_false]
      · simp (decide := true) only [sFill_at, xu, true_and, false_and, and_true, and_false, if_true, if_false]
      · simp (decide := true) only [sFill_at, xu, true_and, false_and, and_true, and_false, if_true, if_false]
      · simp (decide := true) only [sFill_at, xu, true_and, false_and, and_true, and_false, if_true, if_false]
      · simp (decide := true) only [sFill_at, xu, true_and, false_and, and_true, and_false, if_true, if_false]
      · simp (decide := true) only [sFill_at, xu, true_and, false_and, and_true, and_false, if_true, if_false]
      · have : g = 0 ∨ g = 1 ∨ g = 2 ∨ g = 3 := by omega
        rcases this with rfl | rfl | rfl | rfl <;> simp (decide := true) only [sFill_at, xu, true_and, false_and, and_true, and_false, if_true, if_false] <;> rfl
      · have c1 : 4 * d ≤ 4 * d + g ∧ 4 * d + g < 4 * d + 4 := by omega
        simp (decide := true) only [sFill_at, xu, true_and, false_and, and_true, and_false, if_true, if_false, c1, and_self]
      · simp (decide := true) only [sFill_at, xu, true_and, false_and, and_true, and_false, if_true, if_false]
      · simp (decide := true) only [sFill_at, xu, true_and, false_and, and_true, and_false, if_true, if_false]
    · refine ⟨⟨?_, ?_, a3, ?_, ?_, a6⟩, ?_, ?_, ⟨H, G0, a9, a10, fun g hg => ⟨?_, ?_⟩, a12⟩, ?_, ?_, a16⟩
      · simp (decide := true) only [xu, true_and, false_and, and_true, and_false, if_true, if_false, sFill_at, e]; exact a1
      · simp (decide := true) only [xu, true_and, false_and, and_true, and_false, if_true, if_false, sFill_at, e]; exact a2
      · simp (decide := true) only [xu, true_and, false_and, and_true, and_false, if_true, if_false, sFill_at, e]; exact a4
      · simp (decide := true) only [xu, true_and, false_and, and_true, and_false, if_true, if_false, sFill_at, e]; exact a5
      · simp (decide := true) only [xu, true_and, false_and, and_true, and_false, if_true, if_false, sFill_at, e]; exact a7
      · simp (decide := true) only [xu, true_and, false_and, and_true, and_false, if_true, if_false, sFill_at, e]; exact a8
      · simp (decide := true) only [xu, true_and, false_and, and_true, and_false, if_true, if_false, sFill_at, e]; exact (a11 g hg).1
      · have c1 : ¬ (4 * D ≤ 4 * d + g ∧ 4 * d + g < 4 * D + 4) := by omega
        simp (decide := true) only [xu, true_and, false_and, and_true, and_false, if_true, if_false, sFill_at, c1]; exact (a11 g hg).2
      · simp (decide := true) only [xu, true_and, false_and, and_true, and_false, if_true, if_false, sFill_at, e]; exact a13
      · simp (decide := true) only [xu, true_and, false_and, and_true, and_false, if_true, if_false, sFill_at, e]; exact a15
  · have e : ¬ d = D := by omega
    obtain ⟨a1, a2, a3, a4, a5, a6, a7, a8⟩ := (h d hd).2 q
    refine ⟨?_, ?_, ?_, ?_, a5, fun g hg => ⟨?_, ?_⟩, ?_, a8⟩
    · simp (decide := true) only [xu, true_and, false_and, and_true, and_false, if_true, if_false, sFill_at, e]; exact a1
    · simp (decide := true) only [xu, true_and, false_and, and_true, and_false, if_true, if_false, sFill_at, e]; exact a2
    · simp (decide := true) only [xu, true_and, false_and, and_true, and_false, if_true, if_false, sFill_at, e]; exact a3
    · simp (decide := true) only [xu, true_and, false_and, and_true, and_false, if_true, if_false, sFill_at, e]; exact a4
    · simp (decide := true) only [xu, true_and, false_and, and_true, and_false, if_true, if_false, sFill_at, e]; exact (a6 g hg).1
    · have c1 : ¬ (4 * D ≤ 4 * d + g ∧ 4 * d + g < 4 * D + 4) := by omega
      simp (decide := true) only [xu, true_and, false_and, and_true, and_false, if_true, if_false, sFill_at, c1]; exact (a6 g hg).2
    · simp (decide := true) only [xu, true_and, false_and, and_true, and_false, if_true, if_false, sFill_at, e]; exact a7
