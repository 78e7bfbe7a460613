/-! text: the class's next -/
theorem gNx_of (hX : CIX) {b : Nat → Int32} {n : Nat} {S0 : xS} (hS0 : gStr S0) (hB0 : gBy b n S0) (hr : ∀ j, j < n → -128 ≤ b j ∧ b j ≤ 127) : gNx (gK b n) (gP b n) 6 S0 := by
  intro D i S Q hD f0 h2 h
  obtain ⟨D, rfl⟩ : ∃ E, D = E + 6 := ⟨D - 6, by omega⟩
  have hS := hS0.fr f0 (by decide)
  have hB := hB0.fr f0 (by decide)
  obtain ⟨e1, n160, eb⟩ := id hB
  have hp := gPos_b (b := b) (n := n) i
  have h2 : S.1 23 0 2 = nI (gPos b n i) := h2
  have hk1 : (gK b n).1 i = gKd b n (gSt b n (gPos b n i)) := rfl
  have hk2 : (gK b n).2 i = gVl b n (gSt b n (gPos b n i)) := rfl
  have hp1 : (gP b n).1 (i + 1) = gEn b n (gSt b n (gPos b n i)) := rfl
  have hp2 : (gP b n).2 i = gSt b n (gPos b n i) := rfl
  unfold gTk at h
  rw [hk1, hk2, hp1, hp2] at h
  have hst := gSt_b (b := b) hp
  have rs : gSt b n (gPos b n i) = gRun gBl b (n - gPos b n i) (gPos b n i) := rfl
  generalize gSt b n (gPos b n i) = s at h hst rs
  generalize gPos b n i = p at h2 hp hst rs
  have at39 : ∀ T q, q = s → Fr (fl [24002]) S T → T.1 23 0 2 = nI q → V (D + 6) 0 0 m_Tokens_next 39 [some K0v] [] T Q := by
    intro T q hq f g2
    subst hq
    have f' : Fr (fl [24002, 24003, 24004, 24005]) S (xupd T 23 0 4 (T.1 23 0 2)) := (f.wk (by decide)).up rfl
    have x4 : (xupd T 23 0 4 (T.1 23 0 2)).1 23 0 4 = nI q := g2
    have x2 : (xupd T 23 0 4 (T.1 23 0 2)).1 23 0 2 = nI q := g2
    have hST := hS.fr f' (by decide)
    have hBT := hB.fr f' (by decide)
    have x1 : (xupd T 23 0 4 (T.1 23 0 2)).1 23 0 1 = nI n := hBT.1
    show V (D + 6) 0 0 m_Tokens_next 39 [some K0v] [] T Q
    refine V_go pk_55 [47] 80 ?_
    have at47 : ∀ U, Fr (fl [24002, 24003, 24004, 24005]) S U → gStr U → gBy b n U → U.1 23 0 2 = nI q → U.1 23 0 4 = nI q → V (D + 6) 0 0 m_Tokens_next 47 [some K0v] [] U Q := by
      intro U fU sU bU u2 u4
      have u1 := bU.1
      have eq : (U.1 23 0 2).toNatClampNeg = q := by rw [u2]; exact nI_clamp (by omega)
      have vq : q < n → vp_in (U.1 23 0 2) 160 := fun h => by rw [u2]; exact vi (N := 160) (by omega)
      refine V_go pk_55 [] 80 ?_
      refine And.intro (fun z => ?_) (fun z => ?_)
      · have z : U.1 23 0 2 < U.1 23 0 1 := z
        rw [u1, u2] at z
        have z := (nI_ltI (by omega) (by omega)).mp z
        have c : ¬ n ≤ q := by omega
        unfold gKd gEn at h
        rw [if_neg c, if_neg c] at h
        refine And.intro (vq z) ?_
        rw [eq, bU.2.2 q z]
        refine ct_tLetter (fun d => ?_) (fun d => ?_)
        · rw [if_pos d, if_pos d] at h
          (repeat' first | (refine And.intro (fun q => absurd q (by decide)) (fun _ => ?_)) | (refine And.intro (fun _ => ?_) (fun q => absurd q (by decide))) | fail)
          refine ct_takeWord hX (D := D + 1) sU bU z u2 u4 (fun S' f3 g1 g3 => ?_)
          refine h S' (fU.tr (f3.wk (by decide))) ⟨g1, g3, (f3.1 23 0 4 rfl).trans u4, fun hk => ?_⟩
          rcases gWk_b b q (gRun gLt b (n - q) q) 12 (Nat.le_refl _) with e | e
          · rw [e] at hk; cases hk
          · omega
        · rw [if_neg d, if_neg d] at h
          (repeat' first | (refine And.intro (fun q => absurd q (by decide)) (fun _ => ?_)) | (refine And.intro (fun _ => ?_) (fun q => absurd q (by decide))) | fail)
          refine And.intro (vq z) ?_
          rw [eq, bU.2.2 q z]
          refine ct_tDigit (fun d2 => ?_) (fun d2 => ?_)
          · rw [if_pos d2, if_pos d2] at h
            (repeat' first | (refine And.intro (fun q => absurd q (by decide)) (fun _ => ?_)) | (refine And.intro (fun _ => ?_) (fun q => absurd q (by decide))) | fail)
            refine ct_takeNumber (D := D + 4) bU z u2 u4 (fun S' f3 g1 g3 g5 => ?_)
            exact h S' (fU.tr (f3.wk (by decide))) ⟨g1, g3, (f3.1 23 0 4 rfl).trans u4, fun _ => g5⟩
          · rw [if_neg d2, if_neg d2] at h
            (repeat' first | (refine And.intro (fun q => absurd q (by decide)) (fun _ => ?_)) | (refine And.intro (fun _ => ?_) (fun q => absurd q (by decide))) | fail)
            refine ct_takeSign (D := D) sU bU (hr q z) z u2 (fun S' f3 g1 g3 => ?_)
            refine h S' (fU.tr (f3.wk (by decide))) ⟨g1, g3, (f3.1 23 0 4 rfl).trans u4, fun hk => ?_⟩
            rcases gSg_b (b q) with e | e
            · rw [e] at hk; cases hk
            · omega
      · have z : ¬ U.1 23 0 2 < U.1 23 0 1 := z
        rw [u1, u2] at z
        have c : n ≤ q := Nat.not_lt.mp (fun y => z (nI_lt y (by omega)))
        unfold gKd gEn at h
        rw [if_pos c, if_pos c] at h
        exact h _ (fU.up rfl) ⟨u2, rfl, u4, fun hk => by cases hk⟩
    exact at47 _ f' hST hBT x2 x4
  have loop : ∀ k q, q + k = n → ∀ T, gRun gBl b k q = s → Fr (fl [24002]) S T → T.1 23 0 2 = nI q → V (D + 6) 0 0 m_Tokens_next 0 [some K0v] [] T Q := by
    intro k
    induction k with
    | zero =>
      intro q hq T hr f g2
      have hr : q = s := hr
      have t1 : T.1 23 0 1 = nI n := (f.1 23 0 1 rfl).trans e1
      refine V_go pk_55 [39] 60 ?_
      refine And.intro (fun _ => ?_) (fun z => absurd ?_ z)
      · exact at39 T q hr f g2
      · show T.1 23 0 1 ≤ T.1 23 0 2
        rw [t1, g2]; exact nI_le (by omega) (by omega)
    | succ k ih =>
      intro q hq T hr f g2
      have t1 : T.1 23 0 1 = nI n := (f.1 23 0 1 rfl).trans e1
      have tb : T.1 24 0 q = b q := (f.1 24 0 q rfl).trans (eb q (by omega))
      have eq : (T.1 23 0 2).toNatClampNeg = q := by rw [g2]; exact nI_clamp (by omega)
      have vq : vp_in (T.1 23 0 2) 160 := by rw [g2]; exact vi (N := 160) (by omega)
      have hr2 : (if gBl (b q) = true then gRun gBl b k (q + 1) else q) = s := hr
      refine V_go pk_55 [0, 39] 60 ?_
      refine And.intro (fun z => ?_) (fun _ => ?_)
      · have z : T.1 23 0 1 ≤ T.1 23 0 2 := z
        rw [t1, g2] at z
        exact absurd ((nI_leI (by omega) (by omega)).mp z) (by omega)
      refine And.intro vq ?_
      rw [eq, tb]
      refine ct_isBlank (fun d => ?_) (fun d => ?_)
      · rw [if_pos d] at hr2
        (repeat' first | (refine And.intro (fun q => absurd q (by decide)) (fun _ => ?_)) | (refine And.intro (fun _ => ?_) (fun q => absurd q (by decide))) | fail)
        exact ih (q + 1) (by omega) (xupd T 23 0 2 (T.1 23 0 2 + 1)) hr2 (f.up rfl) (by show T.1 23 0 2 + 1 = _; rw [g2, nI_1])
      · rw [if_neg d] at hr2
        (repeat' first | (refine And.intro (fun q => absurd q (by decide)) (fun _ => ?_)) | (refine And.intro (fun _ => ?_) (fun q => absurd q (by decide))) | fail)
        exact at39 T q hr2 f g2
  refine ct_of (xmok_all (by decide)) rfl ?_
  exact loop (n - p) p (by omega) S rs.symm Fr.rf h2
