/-! text: the model asks what waits -/
theorem ct_openMany {D : Nat} {W : List Nat} {S : xS} {Q : xQ} (hl : W.length ≤ 160) (hM : gMs W S) (h : Q (some (.inl (nI (gCnt W)))) S) : CT D 0 0 m_M_openMany [M0] S Q := by
  have loop : ∀ (W2 W1 : List Nat), W2 ++ W1 = W → V D 0 0 m_M_openMany 4 [some M0, some (.inl (nI (gCnt W1))), some (.inl (nI W1.length))] [] S Q := by
    intro W2
    induction h2 : W2.length generalizing W2 with
    | zero =>
      intro W1 e
      have : W2 = [] := List.length_eq_zero_iff.mp h2
      subst this
      have e : W1 = W := e
      subst e
      refine V_go pk_169 [4] 40 ?_
      refine And.intro (fun _ => h) (fun q => absurd ?_ q)
      show S.1 36 0 46 ≤ nI W1.length
      rw [hM.1]; exact Int32.le_refl _
    | succ m ih =>
      intro W1 e
      obtain ⟨W3, w, e3⟩ : ∃ W3 w, W2 = W3 ++ [w] := by
        rcases List.eq_nil_or_concat W2 with z | ⟨L, b, z⟩
        · rw [z] at h2; cases h2
        · exact ⟨L, b, by rw [z, List.concat_eq_append]⟩
      subst e3
      rw [List.length_append, List.length_singleton] at h2
      have e2 : W3 ++ (w :: W1) = W := by rw [← e, List.append_assoc]; rfl
      have hs := gWr.sf W3 (w :: W1) (S := S) (by rw [e2]; exact hM.2)
      obtain ⟨⟨s1, s2⟩, _⟩ := hs
      have gf := gOps_f w s2
      have hlen : W1.length < W.length := by rw [← e2, List.length_append, List.length_cons]; omega
      have ih := ih W3 (by omega) (w :: W1) e2
      have ec : gCnt (w :: W1) = gCnt W1 + (if w = 40 ∨ w = 133 ∨ w = 3 then 1 else 0) := rfl
      rw [List.length_cons, ec, show nI (W1.length + 1) = nI W1.length + 1 from (nI_1 _).symm] at ih
      have ew : (nI W1.length).toNatClampNeg = W1.length := nI_clamp (by omega)
      have vw : vp_in (nI W1.length) 200 := vi (N := 200) (by omega)
      have yes : (w = 40 ∨ w = 133 ∨ w = 3) → V D 0 0 m_M_openMany 4 [some M0, some (.inl (nI (gCnt W1) + 1)), some (.inl (nI W1.length + 1))] [] S Q := fun z => by
        rw [if_pos z, ← nI_1] at ih
        exact ih
      refine V_go pk_169 [4] 60 ?_
      refine And.intro (fun q => ?_) (fun _ => ?_)
      · have q : S.1 36 0 46 ≤ nI W1.length := q
        rw [hM.1] at q
        exact absurd ((nI_leI (by omega) (by omega)).mp q) (by omega)
      refine And.intro vw ?_
      rw [ew, s1]
      refine And.intro (fun q => yes (gf.2.2.1.mp (Or.inl q))) (fun q1 => ?_)
      refine And.intro vw ?_
      rw [ew, s1]
      refine And.intro (fun q => yes (gf.2.2.1.mp (Or.inr (Or.inl q)))) (fun q2 => ?_)
      refine And.intro vw ?_
      rw [ew, s1]
      refine And.intro (fun q3 => ?_) (fun q => yes (gf.2.2.1.mp (Or.inr (Or.inr q))))
      rw [if_neg (fun z => (gf.2.2.1.mpr z).elim q1 (fun y => y.elim q2 q3)), Nat.add_zero, ← Int32.add_zero (nI (gCnt W1))] at ih
      exact ih
  refine ct_of (xmok_all (by decide)) rfl (V_go (pc := 0) pk_169 [4] 20 ?_)
  exact loop W [] (List.append_nil W)
theorem ct_waitsFor {D : Nat} {W : List Nat} {S : xS} {Q : xQ} (hl : W.length ≤ 160) (hM : gMs W S) (h : Q (some (.inl (if gPar W = true then 1 else 0))) S) : CT D 0 0 m_M_waitsFor [M0, .inl (nI 40)] S Q := by
  have loop : ∀ (W2 W1 : List Nat), W2 ++ W1 = W → V D 0 0 m_M_waitsFor 4 [some M0, some (.inl (nI 40)), some (.inl (if gPar W1 = true then 1 else 0)), some (.inl (nI W1.length))] [] S Q := by
    intro W2
    induction h2 : W2.length generalizing W2 with
    | zero =>
      intro W1 e
      have : W2 = [] := List.length_eq_zero_iff.mp h2
      subst this
      have e : W1 = W := e
      subst e
      have hb : (if gPar W1 = true then (1 : Int32) else 0) = 0 ∨ (if gPar W1 = true then (1 : Int32) else 0) = 1 := by split; exact Or.inr rfl; exact Or.inl rfl
      generalize (if gPar W1 = true then (1 : Int32) else 0) = y at h hb ⊢
      refine V_go pk_172 [4] 40 ?_
      refine And.intro (fun _ => And.intro hb h) (fun q => absurd ?_ q)
      show S.1 36 0 46 ≤ nI W1.length
      rw [hM.1]; exact Int32.le_refl _
    | succ m ih =>
      intro W1 e
      obtain ⟨W3, w, e3⟩ : ∃ W3 w, W2 = W3 ++ [w] := by
        rcases List.eq_nil_or_concat W2 with z | ⟨L, b, z⟩
        · rw [z] at h2; cases h2
        · exact ⟨L, b, by rw [z, List.concat_eq_append]⟩
      subst e3
      rw [List.length_append, List.length_singleton] at h2
      have e2 : W3 ++ (w :: W1) = W := by rw [← e, List.append_assoc]; rfl
      have hs := gWr.sf W3 (w :: W1) (S := S) (by rw [e2]; exact hM.2)
      obtain ⟨⟨s1, s2⟩, _⟩ := hs
      have gf := gOps_f w s2
      have hlen : W1.length < W.length := by rw [← e2, List.length_append, List.length_cons]; omega
      have ih := ih W3 (by omega) (w :: W1) e2
      have ec : gPar (w :: W1) = if w = 40 then true else gPar W1 := rfl
      rw [List.length_cons, ec, show nI (W1.length + 1) = nI W1.length + 1 from (nI_1 _).symm] at ih
      have ew : (nI W1.length).toNatClampNeg = W1.length := nI_clamp (by omega)
      have vw : vp_in (nI W1.length) 200 := vi (N := 200) (by omega)
      have none' : ¬ S.1 36 0 46 ≤ nI W1.length := fun q => by
        rw [hM.1] at q
        exact absurd ((nI_leI (by omega) (by omega)).mp q) (by omega)
      cases hp : gPar W1 with
      | true =>
        rw [hp] at ih
        have ih : V D 0 0 m_M_waitsFor 4 [some M0, some (.inl (nI 40)), some (.inl 1), some (.inl (nI W1.length + 1))] [] S Q := by
          by_cases z : w = 40
          · rw [if_pos z, if_pos rfl] at ih; exact ih
          · rw [if_neg z, if_pos rfl] at ih; exact ih
        rw [if_pos rfl]
        refine V_go pk_172 [4] 60 ?_
        refine And.intro (fun q => absurd q none') (fun _ => ?_)
        (repeat' first | (refine And.intro (fun q => absurd q (by decide)) (fun _ => ?_)) | (refine And.intro (fun _ => ?_) (fun q => absurd q (by decide))) | fail)
        exact ih
      | false =>
        rw [hp] at ih
        rw [if_neg (by decide)]
        refine V_go pk_172 [4] 60 ?_
        refine And.intro (fun q => absurd q none') (fun _ => ?_)
        (repeat' first | (refine And.intro (fun q => absurd q (by decide)) (fun _ => ?_)) | (refine And.intro (fun _ => ?_) (fun q => absurd q (by decide))) | fail)
        refine And.intro vw ?_
        rw [ew, s1]
        refine And.intro (fun q => ?_) (fun q => ?_)
        · rw [if_neg (fun z => q (gf.2.1.mpr z)), if_neg (by decide)] at ih
          exact ih
        · rw [if_pos (gf.2.1.mp q), if_pos rfl] at ih
          exact ih
  refine ct_of (xmok_all (by decide)) rfl (V_go (pc := 0) pk_172 [4] 20 ?_)
  exact loop W [] (List.append_nil W)
theorem ct_hasCompared {D : Nat} {W : List Nat} {S : xS} {Q : xQ} (hl : W.length ≤ 160) (hM : gMs W S) (h : Q (some (.inl (if gCmp W = true then 1 else 0))) S) : CT (D + 1) 0 0 m_M_hasCompared [M0] S Q := by
  have loop : ∀ (W : List Nat), W.length ≤ 160 → gWr W S → (Q (some (.inl (if gCmp W = true then 1 else 0))) S) → V (D + 1) 0 0 m_M_hasCompared 7 [some M0, some (.inl (nI W.length - 1))] [] S Q := by
    intro W
    induction W with
    | nil =>
      intro _ _ h
      refine V_go pk_173 [7] 60 ?_
      (repeat' first | (refine And.intro (fun q => absurd q (by decide)) (fun _ => ?_)) | (refine And.intro (fun _ => ?_) (fun q => absurd q (by decide))) | fail)
      exact And.intro (Or.inl rfl) h
    | cons w W ih =>
      intro hl hW h
      obtain ⟨⟨s1, s2⟩, s3⟩ := hW
      rw [List.length_cons] at hl ⊢
      have gf := gOps_f w s2
      have ew : (nI W.length).toNatClampNeg = W.length := nI_clamp (by omega)
      have vw : vp_in (nI W.length) 200 := vi (N := 200) (by omega)
      have hg : gCmp (w :: W) = if 4 < gRk w then gCmp W else decide (gRk w = 4) := rfl
      rw [hg] at h
      rw [nI_pred]
      refine V_go pk_173 [7, 30] 60 ?_
      refine And.intro (fun q => absurd q (nI_pos (by omega))) (fun _ => ?_)
      refine And.intro vw ?_
      rw [ew, s1]
      refine ct_rankOf ?_
      rw [gf.1]
      refine And.intro (fun q => ?_) (fun q => ?_)
      · have q : nI (gRk w) ≤ nI 4 := q
        have q := (nI_leI (by omega) (by omega)).mp q
        rw [if_neg (show ¬ 4 < gRk w by omega)] at h
        refine V_go pk_173 [] 60 ?_
        refine And.intro (fun q => absurd q (nI_pos (by omega))) (fun _ => ?_)
        refine And.intro vw ?_
        rw [ew, s1]
        refine ct_rankOf ?_
        rw [gf.1]
        refine And.intro (fun q2 => ?_) (fun q2 => ?_)
        · have q2 : ¬ gRk w = 4 := fun z => q2 (by rw [z]; rfl)
          rw [if_neg (fun z => q2 (of_decide_eq_true z))] at h
          exact And.intro (Or.inl rfl) h
        · have q2 : gRk w = 4 := (nI_eq (b := 4) (by omega) (by omega)).mp q2
          rw [if_pos (decide_eq_true q2)] at h
          exact And.intro (Or.inr rfl) h
      · have q : ¬ nI (gRk w) ≤ nI 4 := q
        have q : 4 < gRk w := Nat.not_le.mp (fun z => q (nI_le z (by omega)))
        rw [if_pos (show 4 < gRk w from q)] at h
        have g := ih (by omega) s3 h
        rw [Int32.sub_eq_add_neg] at g
        exact g
  refine ct_of (xmok_all (by decide)) rfl (V_go (pc := 0) pk_173 [7] 20 ?_)
  show V (D + 1) 0 0 m_M_hasCompared 7 [some M0, some (.inl (S.1 36 0 46 - 1))] [] S Q
  rw [hM.1]
  exact loop W hl hM.2 h
