/-! venture -/
theorem xupd_id (S : xS) (k i j : Nat) : xupd S k i j (S.1 k i j) = S := by
  unfold xupd
  refine Prod.ext ?_ rfl
  funext k' i' j'
  dsimp only
  by_cases h : k' = k ∧ j' = j ∧ i' = i
  · rw [if_pos h, h.1, h.2.1, h.2.2]
  · rw [if_neg h]
def owV (k a o : Int32) : Int32 := if k = 2 then a else if k = 5 then a + a / 10 else o
def brV (k a : Int32) : Int32 := if k = 1 then 0 else if k = 2 then -a else a
theorem ct_found {d v : Nat} {k x a p : Int32} {S : xS} {Q : xQ} (h : Q none (xupd (xupd (xupd (xupd (xupd S 15 v 0 k) 15 v 1 x) 15 v 2 a) 15 v 3 p) 15 v 4 (owV k a (S.1 15 v 4)))) : CT d 0 0 m_Venture_found [.inr (.inr (15, v)), .inl k, .inl x, .inl a, .inl p] S Q := by
  have r0 : ∀ S' : xS, (xupd (xupd (xupd (xupd S' 15 v 0 k) 15 v 1 x) 15 v 2 a) 15 v 3 p).1 15 v 0 = k := fun S' => by simp (decide := true) only [xu, true_and, false_and, and_true, and_false, if_true, if_false]
  have r2 : ∀ S' : xS, (xupd (xupd (xupd (xupd S' 15 v 0 k) 15 v 1 x) 15 v 2 a) 15 v 3 p).1 15 v 2 = a := fun S' => by simp (decide := true) only [xu, true_and, false_and, and_true, and_false, if_true, if_false]
  have r4 : (xupd (xupd (xupd (xupd S 15 v 0 k) 15 v 1 x) 15 v 2 a) 15 v 3 p).1 15 v 4 = S.1 15 v 4 := rfl
  unfold owV at h
  refine ct_of (xmok_all (by decide)) rfl (V_go (pc := 0) pk_65 [] 60 ?_)
  refine And.intro (fun c => ?_) (fun c => ?_)
  · have c : ¬ k = 2 := by rw [← r0 S]; exact c
    rw [if_neg c] at h
    refine And.intro (fun c2 => ?_) (fun c2 => ?_)
    · have c2 : ¬ k = 5 := by rw [← r0 S]; exact c2
      rw [if_neg c2, ← r4, xupd_id] at h
      exact h
    · have c2 : k = 5 := by rw [← r0 S]; exact c2
      rw [if_pos c2] at h
      refine And.intro (by decide) ?_
      refine qq h rfl ?_
      show xupd _ 15 v 4 ((xupd (xupd (xupd (xupd S 15 v 0 k) 15 v 1 x) 15 v 2 a) 15 v 3 p).1 15 v 2 + (xupd (xupd (xupd (xupd S 15 v 0 k) 15 v 1 x) 15 v 2 a) 15 v 3 p).1 15 v 2 / 10) = _
      rw [r2]
  · have c : k = 2 := by rw [← r0 S]; exact c
    rw [if_pos c] at h
    refine qq h rfl ?_
    show xupd _ 15 v 4 ((xupd (xupd (xupd (xupd S 15 v 0 k) 15 v 1 x) 15 v 2 a) 15 v 3 p).1 15 v 2) = _
    rw [r2]
theorem ct_brings {d v : Nat} {S : xS} {Q : xQ} (h : Q (some (.inl (brV (S.1 15 v 0) (S.1 15 v 2)))) S) : CT d 0 0 m_Venture_brings [.inr (.inr (15, v))] S Q := by
  unfold brV at h
  refine ct_of (xmok_all (by decide)) rfl (V_go (pc := 0) pk_66 [] 60 ?_)
  refine And.intro (fun c => ?_) (fun c => ?_)
  · rw [if_neg c] at h
    refine And.intro (fun c2 => ?_) (fun c2 => ?_)
    · rw [if_neg c2] at h; exact h
    · rw [if_pos c2] at h; exact h
  · rw [if_pos c] at h; exact h
def okV (nd : Nat) (k x a p : Int32) : Prop := inR 0 5 k ∧ inC nd x ∧ inR 1 9999 a ∧ inR 1 9 p
theorem ct_C_venture {d nd nv : Nat} {k x a p : Int32} {S : xS} {Q : xQ} (e3 : S.1 0 0 9 = nI nd) (e4 : S.1 0 0 10 = nI nv) (b : nd ≤ 4) (b2 : nv ≤ 16) (hb : ¬ okV nd k x a p → Q (some (.inl (-2))) S)
    (hs : okV nd k x a p → ¬ (cThere S x.toNatClampNeg ∧ (k = 1 ∨ S.1 12 x.toNatClampNeg 6 = -1) ∧ (¬ k = 2 ∨ a ≤ S.1 12 x.toNatClampNeg 4)) → Q (some (.inl (-3))) S)
    (hf : okV nd k x a p → (cThere S x.toNatClampNeg ∧ (k = 1 ∨ S.1 12 x.toNatClampNeg 6 = -1) ∧ (¬ k = 2 ∨ a ≤ S.1 12 x.toNatClampNeg 4)) → nv = 16 → Q (some (.inl (-4))) S)
    (hk : okV nd k x a p → (cThere S x.toNatClampNeg ∧ (k = 1 ∨ S.1 12 x.toNatClampNeg 6 = -1) ∧ (¬ k = 2 ∨ a ≤ S.1 12 x.toNatClampNeg 4)) → nv < 16 → Q (some (.inl (nI nv)))
      (xupd (xupd (xupd (xupd (xupd (xupd (xupd S 15 nv 0 k) 15 nv 1 x) 15 nv 2 a) 15 nv 3 p) 15 nv 4 (owV k a (S.1 15 nv 4))) 12 x.toNatClampNeg 4 (S.1 12 x.toNatClampNeg 4 + brV k a)) 0 0 10 (nI (nv + 1)))) : CT (d + 3) 0 0 m_C_venture [C0, .inl k, .inl x, .inl a, .inl p] S Q := by
  refine ct_of (xmok_all (by decide)) rfl (V_go (pc := 0) pk_93 [71, 88] 60 ?_)
  refine cC_w 0 5 rfl rfl (by decide) (by decide) (fun h1 => ?_) (fun q => ?_)
  · (repeat' first | (refine And.intro (fun q => absurd q (by decide)) (fun _ => ?_)) | (refine And.intro (fun _ => ?_) (fun q => absurd q (by decide))) | fail)
    refine cC_isDhow e3 (by omega) (fun h2 => ?_) (fun q => ?_)
    · (repeat' first | (refine And.intro (fun q => absurd q (by decide)) (fun _ => ?_)) | (refine And.intro (fun _ => ?_) (fun q => absurd q (by decide))) | fail)
      refine cC_w 1 9999 rfl rfl (by decide) (by decide) (fun h3 => ?_) (fun q => ?_)
      · (repeat' first | (refine And.intro (fun q => absurd q (by decide)) (fun _ => ?_)) | (refine And.intro (fun _ => ?_) (fun q => absurd q (by decide))) | fail)
        refine cC_w 1 9 rfl rfl (by decide) (by decide) (fun h4 => ?_) (fun q => ?_)
        · (repeat' first | (refine And.intro (fun q => absurd q (by decide)) (fun _ => ?_)) | (refine And.intro (fun _ => ?_) (fun q => absurd q (by decide))) | fail)
          have ok : okV nd k x a p := ⟨h1, h2, h3, h4⟩
          have hs := hs ok
          have hf := hf ok
          have hk := hk ok
          refine And.intro (h2.vp b) ?_
          have fin : (cThere S x.toNatClampNeg ∧ (k = 1 ∨ S.1 12 x.toNatClampNeg 6 = -1) ∧ (¬ k = 2 ∨ a ≤ S.1 12 x.toNatClampNeg 4)) → V (d + 3) 0 0 m_C_venture 88 [some C0, some (.inl k), some (.inl x), some (.inl a), some (.inl p), some (.inr (.inr (12, x.toNatClampNeg)))] [] S Q := by
            intro st
            have e5 : (S.1 0 0 10).toNatClampNeg = nv := by rw [e4]; exact nI_clamp (by omega)
            refine V_go pk_93 [] 80 ?_
            refine And.intro (fun c => ?_) (fun c => ?_)
            · have c : S.1 0 0 10 < nI 16 := c
              rw [e4] at c
              have hv : nv < 16 := (nI_ltI (by omega) (by decide)).mp c
              have v16 : vp_in (S.1 0 0 10) 16 := by rw [e4]; exact vi (N := 16) hv
              refine And.intro v16 ?_
              refine ct_found ?_
              refine And.intro v16 ?_
              refine ct_brings ?_
              refine qi (hk st hv) ?_ ?_
              · show S.1 0 0 10 + 1 - 1 = nI nv
                rw [e4, nI_1, nI_pred]
              · have r0 : ∀ (S' : xS) v w, (xupd (xupd (xupd (xupd (xupd S' 15 v 0 k) 15 v 1 x) 15 v 2 a) 15 v 3 p) 15 v 4 w).1 15 v 0 = k := fun S' v w => by simp (decide := true) only [xu, true_and, false_and, and_true, and_false, if_true, if_false]
                have r2 : ∀ (S' : xS) v w, (xupd (xupd (xupd (xupd (xupd S' 15 v 0 k) 15 v 1 x) 15 v 2 a) 15 v 3 p) 15 v 4 w).1 15 v 2 = a := fun S' v w => by simp (decide := true) only [xu, true_and, false_and, and_true, and_false, if_true, if_false]
                show xupd (xupd (xupd (xupd (xupd (xupd (xupd S 15 (S.1 0 0 10).toNatClampNeg 0 k) 15 (S.1 0 0 10).toNatClampNeg 1 x) 15 (S.1 0 0 10).toNatClampNeg 2 a) 15 (S.1 0 0 10).toNatClampNeg 3 p) 15 (S.1 0 0 10).toNatClampNeg 4 (owV k a (S.1 15 (S.1 0 0 10).toNatClampNeg 4))) 12 x.toNatClampNeg 4 (S.1 12 x.toNatClampNeg 4 + brV ((xupd (xupd (xupd (xupd (xupd S 15 (S.1 0 0 10).toNatClampNeg 0 k) 15 (S.1 0 0 10).toNatClampNeg 1 x) 15 (S.1 0 0 10).toNatClampNeg 2 a) 15 (S.1 0 0 10).toNatClampNeg 3 p) 15 (S.1 0 0 10).toNatClampNeg 4 (owV k a (S.1 15 (S.1 0 0 10).toNatClampNeg 4))).1 15 (S.1 0 0 10).toNatClampNeg 0) ((xupd (xupd (xupd (xupd (xupd S 15 (S.1 0 0 10).toNatClampNeg 0 k) 15 (S.1 0 0 10).toNatClampNeg 1 x) 15 (S.1 0 0 10).toNatClampNeg 2 a) 15 (S.1 0 0 10).toNatClampNeg 3 p) 15 (S.1 0 0 10).toNatClampNeg 4 (owV k a (S.1 15 (S.1 0 0 10).toNatClampNeg 4))).1 15 (S.1 0 0 10).toNatClampNeg 2))) 0 0 10 (S.1 0 0 10 + 1) = _
                rw [r0, r2, e5, e4, nI_1]
            · have c : ¬ S.1 0 0 10 < nI 16 := c
              rw [e4] at c
              refine hf st ?_
              rcases Nat.lt_or_ge nv 16 with g | g
              · exact absurd (nI_lt g (by decide)) c
              · omega
          have mid : cThere S x.toNatClampNeg → (k = 1 ∨ S.1 12 x.toNatClampNeg 6 = -1) → V (d + 3) 0 0 m_C_venture 71 [some C0, some (.inl k), some (.inl x), some (.inl a), some (.inl p), some (.inr (.inr (12, x.toNatClampNeg)))] [] S Q := by
            intro s1 s2
            refine V_go pk_93 [88] 30 ?_
            refine And.intro (fun c => fin ⟨s1, s2, Or.inl c⟩) (fun c => ?_)
            refine And.intro (fun c2 => fin ⟨s1, s2, Or.inr c2⟩) (fun c2 => ?_)
            exact hs (fun g => g.2.2.elim (fun q => q c) (fun q => c2 q))
          refine ct_inPort (fun p1 p2 => ?_) (fun p => ?_)
          · (repeat' first | (refine And.intro (fun q => absurd q (by decide)) (fun _ => ?_)) | (refine And.intro (fun _ => ?_) (fun q => absurd q (by decide))) | fail)
            refine And.intro (fun c => mid ⟨p1, p2⟩ (Or.inl c)) (fun c => ?_)
            refine ct_onVoyage (fun q => ?_) (fun q => ?_)
            · (repeat' first | (refine And.intro (fun q => absurd q (by decide)) (fun _ => ?_)) | (refine And.intro (fun _ => ?_) (fun q => absurd q (by decide))) | fail)
              exact hs (fun g => g.2.1.elim c q)
            · (repeat' first | (refine And.intro (fun q => absurd q (by decide)) (fun _ => ?_)) | (refine And.intro (fun _ => ?_) (fun q => absurd q (by decide))) | fail)
              exact mid ⟨p1, p2⟩ (Or.inr q)
          · (repeat' first | (refine And.intro (fun q => absurd q (by decide)) (fun _ => ?_)) | (refine And.intro (fun _ => ?_) (fun q => absurd q (by decide))) | fail)
            exact hs (fun g => p g.1)
        · (repeat' first | (refine And.intro (fun q => absurd q (by decide)) (fun _ => ?_)) | (refine And.intro (fun _ => ?_) (fun q => absurd q (by decide))) | fail)
          exact hb (fun g => q g.2.2.2)
      · (repeat' first | (refine And.intro (fun q => absurd q (by decide)) (fun _ => ?_)) | (refine And.intro (fun _ => ?_) (fun q => absurd q (by decide))) | fail)
        exact hb (fun g => q g.2.2.1)
    · (repeat' first | (refine And.intro (fun q => absurd q (by decide)) (fun _ => ?_)) | (refine And.intro (fun _ => ?_) (fun q => absurd q (by decide))) | fail)
      exact hb (fun g => q g.2.1)
  · (repeat' first | (refine And.intro (fun q => absurd q (by decide)) (fun _ => ?_)) | (refine And.intro (fun _ => ?_) (fun q => absurd q (by decide))) | fail)
    exact hb (fun g => q g.1)
theorem ct_M_venture {d nd nv : Nat} {k x a p : Int32} {S : xS} {Q : xQ} (e3 : S.1 36 0 8 = nI nd) (e4 : S.1 36 0 19 = nI nv) (b : nd ≤ 4) (b2 : nv ≤ 16) (hb : ¬ okV nd k x a p → Q (some (.inl (-2))) S)
    (hs : okV nd k x a p → ¬ (mThere S x.toNatClampNeg ∧ (k = 1 ∨ S.1 47 0 x.toNatClampNeg = -1) ∧ (¬ k = 2 ∨ a ≤ S.1 46 0 x.toNatClampNeg)) → Q (some (.inl (-3))) S)
    (hf : okV nd k x a p → (mThere S x.toNatClampNeg ∧ (k = 1 ∨ S.1 47 0 x.toNatClampNeg = -1) ∧ (¬ k = 2 ∨ a ≤ S.1 46 0 x.toNatClampNeg)) → nv = 16 → Q (some (.inl (-4))) S)
    (hk : okV nd k x a p → (mThere S x.toNatClampNeg ∧ (k = 1 ∨ S.1 47 0 x.toNatClampNeg = -1) ∧ (¬ k = 2 ∨ a ≤ S.1 46 0 x.toNatClampNeg)) → nv < 16 → Q (some (.inl (nI nv)))
      (xupd (xupd (xupd (xupd (xupd (xupd (xupd S 46 0 x.toNatClampNeg (brV k a + S.1 46 0 x.toNatClampNeg)) 53 0 nv k) 54 0 nv x) 55 0 nv a) 56 0 nv p) 57 0 nv (owV k a 0)) 36 0 19 (nI (nv + 1)))) : CT (d + 3) 0 0 m_M_venture [M0, .inl k, .inl x, .inl a, .inl p] S Q := by
  refine ct_of (xmok_all (by decide)) rfl (V_go (pc := 0) pk_144 [71, 89] 60 ?_)
  refine cM_w 0 5 rfl rfl (by decide) (by decide) (fun h1 => ?_) (fun q => ?_)
  · (repeat' first | (refine And.intro (fun q => absurd q (by decide)) (fun _ => ?_)) | (refine And.intro (fun _ => ?_) (fun q => absurd q (by decide))) | fail)
    refine cM_isDhow e3 (by omega) (fun h2 => ?_) (fun q => ?_)
    · (repeat' first | (refine And.intro (fun q => absurd q (by decide)) (fun _ => ?_)) | (refine And.intro (fun _ => ?_) (fun q => absurd q (by decide))) | fail)
      refine cM_w 1 9999 rfl rfl (by decide) (by decide) (fun h3 => ?_) (fun q => ?_)
      · (repeat' first | (refine And.intro (fun q => absurd q (by decide)) (fun _ => ?_)) | (refine And.intro (fun _ => ?_) (fun q => absurd q (by decide))) | fail)
        refine cM_w 1 9 rfl rfl (by decide) (by decide) (fun h4 => ?_) (fun q => ?_)
        · (repeat' first | (refine And.intro (fun q => absurd q (by decide)) (fun _ => ?_)) | (refine And.intro (fun _ => ?_) (fun q => absurd q (by decide))) | fail)
          have ok : okV nd k x a p := ⟨h1, h2, h3, h4⟩
          have hs := hs ok
          have hf := hf ok
          have hk := hk ok
          have hx4 := h2.vp (N := 4) b
          have e5 : (S.1 36 0 19).toNatClampNeg = nv := by rw [e4]; exact nI_clamp (by omega)
          have fin3 : ∀ S' : xS, S'.1 36 0 19 = nI nv → nv < 16 → Q (some (.inl (nI nv))) (xupd (xupd S' 57 0 nv (owV k a 0)) 36 0 19 (nI (nv + 1))) → ∀ w : Int32, w = owV k a 0 → V (d + 3) 0 0 m_M_venture 203 [some M0, some (.inl k), some (.inl x), some (.inl a), some (.inl p)] [.inl w, .inl (S'.1 36 0 19), .inr (.inr (57, 0))] S' Q := by
            intro S' g4 hv hq w hw
            have v16 : vp_in (S'.1 36 0 19) 16 := by rw [g4]; exact vi (N := 16) hv
            refine V_go pk_144 [] 30 ?_
            refine And.intro v16 ?_
            refine qi hq ?_ ?_
            · show S'.1 36 0 19 + 1 - 1 = nI nv
              rw [g4, nI_1, nI_pred]
            · show xupd (xupd S' 57 0 (S'.1 36 0 19).toNatClampNeg w) 36 0 19 (S'.1 36 0 19 + 1) = _
              rw [hw, g4, nI_1, nI_clamp (show nv < 2 ^ 31 by omega)]
          have fin2 : nv < 16 → (∀ S', S' = xupd (xupd (xupd (xupd (xupd S 46 0 x.toNatClampNeg (brV k a + S.1 46 0 x.toNatClampNeg)) 53 0 nv k) 54 0 nv x) 55 0 nv a) 56 0 nv p → Q (some (.inl (nI nv))) (xupd (xupd S' 57 0 nv (owV k a 0)) 36 0 19 (nI (nv + 1)))) → ∀ w : Int32, w = brV k a → V (d + 3) 0 0 m_M_venture 128 [some M0, some (.inl k), some (.inl x), some (.inl a), some (.inl p)] [.inl w, .inl (S.1 46 0 x.toNatClampNeg), .inl x, .inr (.inr (46, 0))] S Q := by
            intro hv hq w hw
            have v16 : vp_in (S.1 36 0 19) 16 := by rw [e4]; exact vi (N := 16) hv
            refine V_go pk_144 [203] 60 ?_
            refine And.intro hx4 ?_
            refine And.intro v16 ?_
            refine And.intro v16 ?_
            refine And.intro v16 ?_
            refine And.intro v16 ?_
            have eS : xupd (xupd (xupd (xupd (xupd S 46 0 x.toNatClampNeg (S.1 46 0 x.toNatClampNeg + w)) 53 0 (S.1 36 0 19).toNatClampNeg k) 54 0 (S.1 36 0 19).toNatClampNeg x) 55 0 (S.1 36 0 19).toNatClampNeg a) 56 0 (S.1 36 0 19).toNatClampNeg p = xupd (xupd (xupd (xupd (xupd S 46 0 x.toNatClampNeg (brV k a + S.1 46 0 x.toNatClampNeg)) 53 0 nv k) 54 0 nv x) 55 0 nv a) 56 0 nv p := by rw [hw, e5, Int32.add_comm]
            have hq := hq _ eS
            refine And.intro (fun c => ?_) (fun c => ?_)
            · refine And.intro (fun c2 => ?_) (fun c2 => ?_)
              · exact fin3 _ (by exact e4) hv hq 0 (by unfold owV; rw [if_neg c, if_neg c2])
              · refine And.intro (by decide) ?_
                exact fin3 _ (by exact e4) hv hq _ (by unfold owV; rw [if_neg c, if_pos c2])
            · exact fin3 _ (by exact e4) hv hq _ (by unfold owV; rw [if_pos c])
          have fin : (mThere S x.toNatClampNeg ∧ (k = 1 ∨ S.1 47 0 x.toNatClampNeg = -1) ∧ (¬ k = 2 ∨ a ≤ S.1 46 0 x.toNatClampNeg)) → V (d + 3) 0 0 m_M_venture 89 [some M0, some (.inl k), some (.inl x), some (.inl a), some (.inl p)] [] S Q := by
            intro st
            refine V_go pk_144 [128] 40 ?_
            refine And.intro (fun c => ?_) (fun c => ?_)
            · have c : ¬ S.1 36 0 19 = nI 16 := c
              rw [e4] at c
              have hv : nv < 16 := by
                rcases Nat.lt_or_ge nv 16 with g | g
                · exact g
                · exact absurd (by rw [show nv = 16 by omega]) c
              have hk := hk st hv
              refine And.intro hx4 ?_
              refine And.intro (fun c => ?_) (fun c => ?_)
              · refine And.intro (fun c2 => ?_) (fun c2 => ?_)
                · exact fin2 hv (fun S' e => by rw [e]; exact hk) _ (by unfold brV; rw [if_neg c, if_neg c2])
                · exact fin2 hv (fun S' e => by rw [e]; exact hk) _ (by unfold brV; rw [if_neg c, if_pos c2])
              · exact fin2 hv (fun S' e => by rw [e]; exact hk) _ (by unfold brV; rw [if_pos c])
            · have c : S.1 36 0 19 = nI 16 := c
              rw [e4] at c
              exact hf st ((nI_eq (by omega) (by decide)).mp c)
          have mid : mThere S x.toNatClampNeg → (k = 1 ∨ S.1 47 0 x.toNatClampNeg = -1) → V (d + 3) 0 0 m_M_venture 71 [some M0, some (.inl k), some (.inl x), some (.inl a), some (.inl p)] [] S Q := by
            intro s1 s2
            refine V_go pk_144 [89] 30 ?_
            refine And.intro (fun c => fin ⟨s1, s2, Or.inl c⟩) (fun c => ?_)
            refine And.intro hx4 ?_
            refine And.intro (fun c2 => fin ⟨s1, s2, Or.inr c2⟩) (fun c2 => ?_)
            exact hs (fun g => g.2.2.elim (fun q => q c) (fun q => c2 q))
          refine cM_isThere (h2.mono b) (fun p1 p2 => ?_) (fun p => ?_)
          · (repeat' first | (refine And.intro (fun q => absurd q (by decide)) (fun _ => ?_)) | (refine And.intro (fun _ => ?_) (fun q => absurd q (by decide))) | fail)
            refine And.intro hx4 ?_
            refine And.intro (fun c => mid ⟨p1, p2⟩ (Or.inr c)) (fun c => ?_)
            refine And.intro (fun c2 => ?_) (fun c2 => mid ⟨p1, p2⟩ (Or.inl c2))
            exact hs (fun g => g.2.1.elim c2 c)
          · (repeat' first | (refine And.intro (fun q => absurd q (by decide)) (fun _ => ?_)) | (refine And.intro (fun _ => ?_) (fun q => absurd q (by decide))) | fail)
            exact hs (fun g => p g.1)
        · (repeat' first | (refine And.intro (fun q => absurd q (by decide)) (fun _ => ?_)) | (refine And.intro (fun _ => ?_) (fun q => absurd q (by decide))) | fail)
          exact hb (fun g => q g.2.2.2)
      · (repeat' first | (refine And.intro (fun q => absurd q (by decide)) (fun _ => ?_)) | (refine And.intro (fun _ => ?_) (fun q => absurd q (by decide))) | fail)
        exact hb (fun g => q g.2.2.1)
    · (repeat' first | (refine And.intro (fun q => absurd q (by decide)) (fun _ => ?_)) | (refine And.intro (fun _ => ?_) (fun q => absurd q (by decide))) | fail)
      exact hb (fun g => q g.2.1)
  · (repeat' first | (refine And.intro (fun q => absurd q (by decide)) (fun _ => ?_)) | (refine And.intro (fun _ => ?_) (fun q => absurd q (by decide))) | fail)
    exact hb (fun g => q g.1)
