/-! end: the model's call -/
theorem xupd_2 {S : xS} {k i j : Nat} {x y : Int32} : xupd (xupd S k i j x) k i j y = xupd S k i j y := by
  unfold xupd
  refine Prod.ext ?_ rfl
  funext k' i' j'
  dsimp only
  by_cases c : k' = k ∧ j' = j ∧ i' = i
  · rw [if_pos c, if_pos c]
  · rw [if_neg c, if_neg c, if_neg c]
def mnM (S : xS) (D : Nat) : Nat → Int32
  | 0 => 0
  | m + 1 => if (S.1 54 0 m = nI D ∧ S.1 58 0 m = 0) ∧ (S.1 53 0 m = 1 ∨ S.1 53 0 m = 2) then mnM S D m + 1 else mnM S D m
/-- the figures of the voyage written -/
def fgM (S : xS) (g b m : Int32) : xS := xupd (xupd (xupd S 36 0 27 g) 36 0 28 b) 36 0 29 m
theorem fgM_fr (S : xS) (g b m : Int32) : Fr (fl [37027, 37028, 37029]) S (fgM S g b m) := ((Fr.rf.up rfl).up rfl).up rfl
def enM (S : xS) (D nv : Nat) (F : Int32) : xS := pbM (xupd S 46 0 D (S.1 46 0 D - hdP F.toInt64 (S.1 46 0 D))) D nv
def enS (S : xS) (D : Nat) : Int64 := if S.1 47 0 D < S.1 46 0 D then (S.1 46 0 D - S.1 47 0 D).toInt64 else 0
theorem pbM1.cong {l : List Nat} {A B : xS} {D v : Nat} (h : Fr (fl l) A B) (hd : [46, 53, 54, 57, 58, 59].all (fun q => !l.elem q) = true) : Fr (fl l) (pbM1 A D v) (pbM1 B D v) := by
  have e0 : B.1 53 0 v = A.1 53 0 v := h.off hd rfl
  have e1 : B.1 54 0 v = A.1 54 0 v := h.off hd rfl
  have e4 : B.1 57 0 v = A.1 57 0 v := h.off hd rfl
  have e5 : B.1 59 0 v = A.1 59 0 v := h.off hd rfl
  have e7 : B.1 58 0 v = A.1 58 0 v := h.off hd rfl
  have ep : B.1 46 0 D = A.1 46 0 D := h.off hd rfl
  unfold pbM1
  rw [e0, e1, e4, e5, e7, ep]
  by_cases c : A.1 54 0 v = nI D ∧ A.1 58 0 v = 0 ∧ A.1 53 0 v = 5
  · rw [if_pos c, if_pos c]; exact h.cong.cong.cong
  · rw [if_neg c, if_neg c]; exact h
theorem pbM.cong {l : List Nat} {A B : xS} {D : Nat} (h : Fr (fl l) A B) (hd : [46, 53, 54, 57, 58, 59].all (fun q => !l.elem q) = true) : ∀ m, Fr (fl l) (pbM A D m) (pbM B D m)
  | 0 => h
  | m + 1 => pbM1.cong (pbM.cong h hd m) hd
theorem ct_M_end {d nd nv r t e0 e1 e2 : Nat} {c0 c1 c2 : Nat → Int32} {g b m s x : Int32} {S : xS} {Q : xQ} (e3 : S.1 36 0 8 = nI nd) (e7 : S.1 36 0 19 = nI nv) (bd : nd ≤ 4) (b2 : nv ≤ 16) (er : S.1 36 0 34 = nI r) (r6 : r < 6) (ht : S.1 36 0 0 = nI t) (t9 : t ≤ 9999) (hs : s = nI (t / 30 % 12)) (hM0 : MPc r 0 e0 c0 S) (hM1 : MPc r 1 e1 c1 S) (hM2 : MPc r 2 e2 c2 S)
    (hg : S.1 46 0 x.toNatClampNeg - S.1 47 0 x.toNatClampNeg = g) (hbg : nI t - S.1 48 0 x.toNatClampNeg = b) (hm : mnM S x.toNatClampNeg nv = m)
    (qb : ¬ inC nd x → Q (some (.inl (-2))) S) (qs : inC nd x → ¬ (mThere S x.toNatClampNeg ∧ ¬ S.1 47 0 x.toNatClampNeg = -1) → Q (some (.inl (-3))) S)
    (qk : inC nd x → mThere S x.toNatClampNeg → ¬ S.1 47 0 x.toNatClampNeg = -1 → ∀ T3 T4, Fr (fl [69]) (enM (fgM S g b m) x.toNatClampNeg nv (rvP c1 e1 g b m s 0 0)) (T3.1, S.2) → (∀ u, u < nv → T3.2 60 0 u = wlM (enM (fgM S g b m) x.toNatClampNeg nv (rvP c1 e1 g b m s 0 0)) x.toNatClampNeg (rvP c0 e0 g b m s) u) → Fr (fl [69]) (ptM T3 x.toNatClampNeg (enS (enM (fgM S g b m) x.toNatClampNeg nv (rvP c1 e1 g b m s 0 0)) x.toNatClampNeg) (sgP (tkB (enM (fgM S g b m) x.toNatClampNeg nv (rvP c1 e1 g b m s 0 0)) x.toNatClampNeg) (wtM (enM (fgM S g b m) x.toNatClampNeg nv (rvP c1 e1 g b m s 0 0)) (rvP c0 e0 g b m s)) nv) (rvP c2 e2 g b m s) nv) T4 → Q (some (.inl (T4.1 46 0 x.toNatClampNeg))) (xupd T4 47 0 x.toNatClampNeg (-1))) : CT (d + 5) 0 0 m_M_end [M0, .inl x] S Q := by
  refine ct_of (xmok_all (by decide)) rfl (V_go (pc := 0) pk_149 [71] 60 ?_)
  refine cM_isDhow e3 (by omega) (fun hx => ?_) (fun q => ?_)
  · (repeat' first | (refine And.intro (fun q => absurd q (by decide)) (fun _ => ?_)) | (refine And.intro (fun _ => ?_) (fun q => absurd q (by decide))) | fail)
    refine cM_isThere (hx.mono bd) (fun p1 p2 => ?_) (fun p => ?_)
    · (repeat' first | (refine And.intro (fun q => absurd q (by decide)) (fun _ => ?_)) | (refine And.intro (fun _ => ?_) (fun q => absurd q (by decide))) | fail)
      obtain ⟨D, hD, rfl⟩ := id hx
      have eD : (nI D).toNatClampNeg = D := nI_clamp (by omega)
      have vD : vp_in (nI D) 4 := vi (by omega)
      rw [eD] at hg hbg hm qs qk p1 p2
      refine And.intro vD ?_
      refine And.intro (fun q => ?_) (fun q => ?_)
      · have q : ¬ S.1 47 0 (nI D).toNatClampNeg = -1 := q
        rw [eD] at q
        have qk := qk hx ⟨p1, p2⟩ q
        refine And.intro vD ?_
        refine And.intro vD ?_
        refine And.intro vD ?_
        rw [eD]
        have h138 : ∀ S0, Fr (fl [69]) (fgM S g b m) S0 → V (d + 5) 0 0 m_M_end 138 [some M0, some (.inl (nI D)), some (.inl (nI nv)), none] [] S0 Q := by
          intro S0 f0
          have fS : Fr (fl [37027, 37028, 37029, 69]) S S0 := ((fgM_fr S g b m).wk (by decide)).tr (f0.wk (by decide))
          have q34 : S0.1 36 0 34 = nI r := (fS.1 36 0 34 rfl).trans er
          have q27 : S0.1 36 0 27 = g := f0.1 36 0 27 rfl
          have q28 : S0.1 36 0 28 = b := f0.1 36 0 28 rfl
          have q29 : S0.1 36 0 29 = m := f0.1 36 0 29 rfl
          refine V_go pk_149 [218] 200 ?_
          refine And.intro vD ?_
          rw [eD]
          show CT (d + 4) 0 0 m_M_value [M0, .inl (S0.1 36 0 34), .inl (nI 1), .inl (S0.1 36 0 27), .inl (S0.1 36 0 28), .inl (S0.1 36 0 29), .inl 0, .inl 0] S0 _
          rw [q34, q27, q28, q29]
          refine ct_vlM (s := s) (S := S0) (P := 1) r6 (by decide) (hM1.fr fS (by decide)) ((fS.1 36 0 0 rfl).trans ht) t9 hs (fun S1 f1 => ?_)
          generalize rvP c1 e1 g b m s 0 0 = F at qk ⊢
          have f01 := f0.tr f1
          refine And.intro vD ?_
          rw [eD]
          refine ct_held ?_
          refine And.intro vD ?_
          rw [eD]
          have e46 : S0.1 46 0 D = S1.1 46 0 D := (f1.1 46 0 D rfl).symm
          have g2 : Fr (fl [69]) (enM (fgM S g b m) D nv F) (pbM (xupd S1 46 0 D (S1.1 46 0 D - hdP F.toInt64 (S1.1 46 0 D))) D nv) := by
            unfold enM
            rw [f01.1 46 0 D rfl]
            exact pbM.cong f01.cong (by decide) nv
          have p1 : Fr (fl [46, 59, 58]) S1 (pbM (xupd S1 46 0 D (S1.1 46 0 D - hdP F.toInt64 (S1.1 46 0 D))) D nv) := (Fr.up (S := S1) Fr.rf rfl).tr (pbM_fr _ D nv)
          have fS1 : Fr (fl [37027, 37028, 37029, 69]) S S1 := fS.tr (f1.wk (by decide))
          rw [e46]
          refine ct_M_payBottoms (d := d + 2) (nv := nv) (by omega) ((fS1.1 36 0 19 rfl).trans e7) b2 ?_
          generalize pbM (xupd S1 46 0 D (S1.1 46 0 D - hdP F.toInt64 (S1.1 46 0 D))) D nv = S2 at g2 p1 ⊢
          have fS2 : Fr (fl [37027, 37028, 37029, 69, 46, 59, 58]) S S2 := (fS1.wk (by decide)).tr (p1.wk (by decide))
          generalize enM (fgM S g b m) D nv F = Z at qk g2
          have z46 : S2.1 46 0 D = Z.1 46 0 D := g2.1 46 0 D rfl
          have z47 : S2.1 47 0 D = Z.1 47 0 D := g2.1 47 0 D rfl
          have rest : ∀ w, w = enS Z D → V (d + 5) 0 0 m_M_end 218 [some M0, some (.inl (nI D)), some (.inl (nI nv)), none] [.inr (.inl w)] S2 Q := by
            intro w hw
            subst hw
            have k53 : ∀ u, S2.1 53 0 u = Z.1 53 0 u := fun u => g2.1 53 0 u rfl
            have k54 : ∀ u, S2.1 54 0 u = Z.1 54 0 u := fun u => g2.1 54 0 u rfl
            have k56 : ∀ u, S2.1 56 0 u = Z.1 56 0 u := fun u => g2.1 56 0 u rfl
            have k57 : ∀ u, S2.1 57 0 u = Z.1 57 0 u := fun u => g2.1 57 0 u rfl
            have k58 : ∀ u, S2.1 58 0 u = Z.1 58 0 u := fun u => g2.1 58 0 u rfl
            have etk : tkB S2 D = tkB Z D := by funext u; unfold tkB; rw [k53, k54, k58]
            have ewt : ∀ f, wtM S2 f = wtM Z f := fun f => by funext u; unfold wtM; rw [k53, k56, k57]
            have ewl : ∀ f u, wlM S2 D f u = wlM Z D f u := fun f u => by unfold wlM; rw [etk, ewt]
            have hZ2 : S.2 = Z.2 := fS2.2.symm.trans g2.2
            have r27 : S2.1 36 0 27 = g := (p1.1 36 0 27 rfl).trans ((f1.1 36 0 27 rfl).trans q27)
            have r28 : S2.1 36 0 28 = b := (p1.1 36 0 28 rfl).trans ((f1.1 36 0 28 rfl).trans q28)
            have r29 : S2.1 36 0 29 = m := (p1.1 36 0 29 rfl).trans ((f1.1 36 0 29 rfl).trans q29)
            refine V_go pk_149 [] 200 ?_
            refine ct_M_weigh (d := d + 2) (s := s) (nv := nv) ((fS2.1 36 0 19 rfl).trans e7) b2 ((fS2.1 36 0 34 rfl).trans er) r6 (hM0.fr fS2 (by decide)) ((fS2.1 36 0 0 rfl).trans ht) t9 hs ⟨r27, r28, r29⟩ (fun T hT hwT => ?_)
            rw [etk, ewt]
            have fT : Fr (fl [37027, 37028, 37029, 69, 46, 59, 58]) S (T.1, S2.2) := fS2.tr (hT.wk (by decide))
            have hMT : MPc r 2 e2 c2 (T.1, S2.2) := hM2.fr fT (by decide)
            refine ct_M_part (d := d + 2) (s := s) (nv := nv) (by omega) ((fT.1 36 0 19 rfl).trans e7) b2 ((fT.1 36 0 34 rfl).trans er) r6 hMT ((fT.1 36 0 0 rfl).trans ht) t9 hs ⟨(hT.1 36 0 27 rfl).trans r27, (hT.1 36 0 28 rfl).trans r28, (hT.1 36 0 29 rfl).trans r29⟩ (fun T4 hT4 => ?_)
            refine And.intro vD ?_
            refine And.intro vD ?_
            rw [eD]
            exact qk T T4 ⟨fun k i j q => (hT.1 k i j q).trans (g2.1 k i j q), hZ2⟩ (fun u hu => (hwT u hu).trans (ewl _ u)) hT4
          refine And.intro vD ?_
          refine And.intro vD ?_
          rw [eD]
          refine And.intro (fun c => ?_) (fun c => ?_)
          · have c : ¬ Z.1 47 0 D < Z.1 46 0 D := fun g => absurd (show S2.1 46 0 D ≤ S2.1 47 0 D from c) (Int32.not_le.mpr (by rw [z46, z47]; exact g))
            exact rest 0 (if_neg c).symm
          · have c : Z.1 47 0 D < Z.1 46 0 D := by rw [← z46, ← z47]; exact Int32.not_le.mp c
            refine And.intro vD ?_
            refine And.intro vD ?_
            rw [eD, z46, z47]
            exact rest _ (if_pos c).symm
        have loop : ∀ k j, j + k = nv → V (d + 5) 0 0 m_M_end 71 [some M0, some (.inl (nI D)), some (.inl (nI j)), none] [] (fgM S g b (mnM S D j)) Q := by
          intro k
          induction k with
          | zero =>
            intro j hj
            obtain rfl : j = nv := by omega
            refine V_go pk_149 [71, 138] 40 ?_
            refine And.intro (fun _ => ?_) (fun q => absurd ?_ q)
            · rw [hm]; exact h138 _ Fr.rf
            · show S.1 36 0 19 ≤ nI j
              rw [e7]; exact Int32.le_refl _
          | succ k ih =>
            intro j hj
            have ej : (nI j).toNatClampNeg = j := nI_clamp (by omega)
            have vj : vp_in (nI j) 16 := vi (by omega)
            have ih := ih (j + 1) (by omega)
            have em : mnM S D (j + 1) = if (S.1 54 0 j = nI D ∧ S.1 58 0 j = 0) ∧ (S.1 53 0 j = 1 ∨ S.1 53 0 j = 2) then mnM S D j + 1 else mnM S D j := rfl
            rw [em, ← nI_1] at ih
            generalize mnM S D j = mn at ih ⊢
            have fin : ∀ y, y = (if (S.1 54 0 j = nI D ∧ S.1 58 0 j = 0) ∧ (S.1 53 0 j = 1 ∨ S.1 53 0 j = 2) then mn + 1 else mn) → V (d + 5) 0 0 m_M_end 71 [some M0, some (.inl (nI D)), some (.inl (nI j + 1)), none] [] (xupd (fgM S g b mn) 36 0 29 y) Q := by
              intro y hy
              rw [← hy] at ih
              unfold fgM
              rw [xupd_2]
              exact ih
            refine V_go pk_149 [71, 138] 60 ?_
            refine And.intro (fun q => ?_) (fun _ => ?_)
            · have q : S.1 36 0 19 ≤ nI j := q
              rw [e7] at q
              exact absurd ((nI_leI (by omega) (by omega)).mp q) (by omega)
            · refine And.intro vj ?_
              refine And.intro (fun k1 => ?_) (fun k1 => ?_)
              · have k1 : ¬ S.1 54 0 (nI j).toNatClampNeg = nI D := k1
                rw [ej] at k1
                exact fin (mn + 0) (by rw [if_neg (fun q => k1 q.1.1), Int32.add_zero])
              · have k1 : S.1 54 0 (nI j).toNatClampNeg = nI D := k1
                rw [ej] at k1
                refine And.intro vj ?_
                refine And.intro (fun k2 => ?_) (fun k2 => ?_)
                · have k2 : ¬ S.1 58 0 (nI j).toNatClampNeg = 0 := k2
                  rw [ej] at k2
                  exact fin (mn + 0) (by rw [if_neg (fun q => k2 q.1.2), Int32.add_zero])
                · have k2 : S.1 58 0 (nI j).toNatClampNeg = 0 := k2
                  rw [ej] at k2
                  refine And.intro vj ?_
                  refine And.intro (fun k3 => ?_) (fun k3 => ?_)
                  · have k3 : S.1 53 0 (nI j).toNatClampNeg = 1 := k3
                    rw [ej] at k3
                    exact fin (mn + 1) (by rw [if_pos ⟨⟨k1, k2⟩, Or.inl k3⟩])
                  · have k3 : ¬ S.1 53 0 (nI j).toNatClampNeg = 1 := k3
                    rw [ej] at k3
                    refine And.intro vj ?_
                    refine And.intro (fun k4 => ?_) (fun k4 => ?_)
                    · have k4 : ¬ S.1 53 0 (nI j).toNatClampNeg = 2 := k4
                      rw [ej] at k4
                      exact fin (mn + 0) (by rw [if_neg (fun q => q.2.elim k3 k4), Int32.add_zero])
                    · have k4 : S.1 53 0 (nI j).toNatClampNeg = 2 := k4
                      rw [ej] at k4
                      exact fin (mn + 1) (by rw [if_pos ⟨⟨k1, k2⟩, Or.inr k4⟩])
        rw [← ht] at hbg
        rw [← hg, ← hbg] at loop
        exact loop nv 0 (by omega)
      · have q : S.1 47 0 (nI D).toNatClampNeg = -1 := q
        rw [eD] at q
        exact qs hx (fun g => g.2 q)
    · (repeat' first | (refine And.intro (fun q => absurd q (by decide)) (fun _ => ?_)) | (refine And.intro (fun _ => ?_) (fun q => absurd q (by decide))) | fail)
      exact qs hx (fun g => p g.1)
  · (repeat' first | (refine And.intro (fun q => absurd q (by decide)) (fun _ => ?_)) | (refine And.intro (fun _ => ?_) (fun q => absurd q (by decide))) | fail)
    exact qb q
