def mLess (l k : Int32) : Int32 := if l < k then 0 else l - k
theorem cM_all {d : Nat} {x : Int32} (hx : inC 4 x) {S : xS} {Q : xQ} (h : Q (some (.inl (mSum S x.toNatClampNeg))) S) : CT d 0 0 m_M_all [.inr (.inr (36, 0)), .inl x] S Q := by
  obtain ⟨a, ha, rfl⟩ := hx
  rw [nI_clamp (by omega)] at h
  exact ct_M_all ha h
theorem ct_M_buy {d nd : Nat} {x g k : Int32} {S : xS} {Q : xQ} (e3 : S.1 36 0 8 = nI nd) (b : nd ≤ 4) (hP : ∀ D, D < nd → mThere S D → inC 6 (S.1 43 0 D)) (hb : ¬ okBuy nd x g k → Q (some (.inl (-2))) S)
    (hs : okBuy nd x g k → ¬ (mThere S x.toNatClampNeg ∧ mSum S x.toNatClampNeg + k ≤ S.1 45 0 x.toNatClampNeg ∧ k * (mPrice S (S.1 43 0 x.toNatClampNeg) g + 1) ≤ S.1 46 0 x.toNatClampNeg) → Q (some (.inl (-3))) S)
    (hk : okBuy nd x g k → mThere S x.toNatClampNeg → mSum S x.toNatClampNeg + k ≤ S.1 45 0 x.toNatClampNeg → k * (mPrice S (S.1 43 0 x.toNatClampNeg) g + 1) ≤ S.1 46 0 x.toNatClampNeg → Q (some (.inl (S.1 46 0 x.toNatClampNeg - k * (mPrice S (S.1 43 0 x.toNatClampNeg) g + 1))))
      (xupd (xupd (xupd S 46 0 x.toNatClampNeg (S.1 46 0 x.toNatClampNeg - k * (mPrice S (S.1 43 0 x.toNatClampNeg) g + 1))) 50 0 (4 * x.toNatClampNeg + g.toNatClampNeg) (S.1 50 0 (4 * x.toNatClampNeg + g.toNatClampNeg) + k)) 41 0 (4 * (S.1 43 0 x.toNatClampNeg).toNatClampNeg + g.toNatClampNeg) (mLess (S.1 41 0 (4 * (S.1 43 0 x.toNatClampNeg).toNatClampNeg + g.toNatClampNeg)) k))) : CT (d + 3) 0 0 m_M_buy [M0, .inl x, .inl g, .inl k] S Q := by
  refine ct_of (xmok_all (by decide)) rfl (V_go (pc := 0) pk_136 [] 120 ?_)
  refine cM_isDhow e3 (by omega) (fun hx => ?_) (fun q => ?_)
  · (repeat' first | (refine And.intro (fun q => absurd q (by decide)) (fun _ => ?_)) | (refine And.intro (fun _ => ?_) (fun q => absurd q (by decide))) | fail)
    refine cM_good (fun hg => ?_) (fun q => ?_)
    · (repeat' first | (refine And.intro (fun q => absurd q (by decide)) (fun _ => ?_)) | (refine And.intro (fun _ => ?_) (fun q => absurd q (by decide))) | fail)
      refine cM_w 1 99 rfl rfl (by decide) (by decide) (fun c3 => ?_) (fun c3 => ?_)
      · (repeat' first | (refine And.intro (fun q => absurd q (by decide)) (fun _ => ?_)) | (refine And.intro (fun _ => ?_) (fun q => absurd q (by decide))) | fail)
        have ok : okBuy nd x g k := ⟨hx, hg, c3⟩
        have hx4 := hx.vp (N := 4) b
        have i1 := ixg (N := 16) hx hg (by omega)
        have hs := hs ok
        have hk := hk ok
        rw [← i1.2] at hk
        refine cM_isThere (hx.mono b) (fun p1 p2 => ?_) (fun p => ?_)
        · (repeat' first | (refine And.intro (fun q => absurd q (by decide)) (fun _ => ?_)) | (refine And.intro (fun _ => ?_) (fun q => absurd q (by decide))) | fail)
          refine cM_all (hx.mono b) ?_
          refine And.intro hx4 ?_
          refine And.intro (fun c4 => ?_) (fun c4 => ?_)
          · exact hs (fun q => absurd q.2.1 (Int32.not_le.mpr c4))
          · have hp := hP _ hx.lt ⟨p1, p2⟩
            have i2 := ixg (N := 24) hp hg (by decide)
            rw [← i2.2] at hk
            refine And.intro hx4 ?_
            refine And.intro hx4 ?_
            refine cM_price hp hg ?_
            refine And.intro (fun c5 => ?_) (fun c5 => ?_)
            · have hk := hk ⟨p1, p2⟩ (Int32.not_lt.mp c4) c5
              refine And.intro hx4 ?_
              refine And.intro hx4 ?_
              refine And.intro hx4 ?_
              refine cM_price hp hg ?_
              refine And.intro hx4 ?_
              refine And.intro i1.1 ?_
              refine And.intro i1.1 ?_
              refine And.intro i2.1 ?_
              refine And.intro (fun c6 => ?_) (fun c6 => ?_)
              · refine And.intro i2.1 ?_
                refine And.intro i2.1 ?_
                refine And.intro hx4 ?_
                unfold mLess at hk
                rw [if_neg (Int32.not_lt.mpr (show k ≤ S.1 41 0 (4 * S.1 43 0 x.toNatClampNeg + g).toNatClampNeg from c6))] at hk
                refine qi hk ?_ rfl
                show (xupd (xupd (xupd S 46 0 x.toNatClampNeg _) 50 _ _ _) 41 _ _ _).1 46 0 x.toNatClampNeg = _
                simp (decide := true) only [xu, true_and, false_and, and_true, and_false, if_true, if_false]
              · refine And.intro i2.1 ?_
                refine And.intro hx4 ?_
                unfold mLess at hk
                rw [if_pos (show S.1 41 0 (4 * S.1 43 0 x.toNatClampNeg + g).toNatClampNeg < k from Int32.not_le.mp c6)] at hk
                refine qi hk ?_ rfl
                show (xupd (xupd (xupd S 46 0 x.toNatClampNeg _) 50 _ _ _) 41 _ _ _).1 46 0 x.toNatClampNeg = _
                simp (decide := true) only [xu, true_and, false_and, and_true, and_false, if_true, if_false]
            · exact hs (fun q => c5 q.2.2)
        · (repeat' first | (refine And.intro (fun q => absurd q (by decide)) (fun _ => ?_)) | (refine And.intro (fun _ => ?_) (fun q => absurd q (by decide))) | fail)
          exact hs (fun q => p q.1)
      · (repeat' first | (refine And.intro (fun q => absurd q (by decide)) (fun _ => ?_)) | (refine And.intro (fun _ => ?_) (fun q => absurd q (by decide))) | fail)
        exact hb (fun q => c3 q.2.2)
    · (repeat' first | (refine And.intro (fun q => absurd q (by decide)) (fun _ => ?_)) | (refine And.intro (fun _ => ?_) (fun q => absurd q (by decide))) | fail)
      exact hb (fun g => q g.2.1)
  · (repeat' first | (refine And.intro (fun q => absurd q (by decide)) (fun _ => ?_)) | (refine And.intro (fun _ => ?_) (fun q => absurd q (by decide))) | fail)
    exact hb (fun g => q g.1)
theorem sum_eq {n np t D : Nat} {S : xS} (h : IBl n np t D S) : mSum S D = cSum S D := by
  obtain ⟨H, G, -, -, a9, -⟩ := h.2.2.2.1
  unfold mSum cSum
  rw [show 4 * D = 4 * D + 0 from rfl, (a9 0 (by decide)).2, show 4 * D + 0 + 1 = 4 * D + 1 from rfl, show 4 * D + 0 + 2 = 4 * D + 2 from rfl, show 4 * D + 0 + 3 = 4 * D + 3 from rfl, (a9 1 (by decide)).2, (a9 2 (by decide)).2, (a9 3 (by decide)).2, (a9 0 (by decide)).1, (a9 1 (by decide)).1, (a9 2 (by decide)).1, (a9 3 (by decide)).1, Int32.zero_add]
theorem cSum_N {S : xS} {D : Nat} {G : Nat → Nat} (h : ∀ g, g < 4 → S.1 13 D g = nI (G g)) : cSum S D = nI (G 0 + G 1 + G 2 + G 3) := by
  unfold cSum
  rw [h 0 (by decide), h 1 (by decide), h 2 (by decide), h 3 (by decide), Int32.zero_add, nI_add, nI_add, nI_add]
theorem cm_buy {dp n np nd nv nt r t : Nat} {S : xS} (hn : n ≤ 600) (hN : IN np nd nv nt r t S) (hA : IA n S) (hB : IB n np nd t S) {x g k : Int32} : CT (dp + 3) 0 0 m_C_buy [C0, .inl x, .inl g, .inl k] S (fun a S1 => CT (dp + 3) 0 0 m_M_buy [M0, .inl x, .inl g, .inl k] S1 (fun a' S2 => a' = a ∧ (IA (n + 1) S2 ∧ IB (n + 1) np nd t S2) ∧ Fr (fl [13004, 13, 7, 46, 50, 41]) S S2)) := by
  obtain ⟨⟨b1, b2, b3⟩, ⟨e1, e2⟩, ⟨e3, e4⟩, e5⟩ := id hN
  have keep : IA (n + 1) S ∧ IB (n + 1) np nd t S := ⟨hA.succ, hB.succ⟩
  have hl : ∀ D, D < nd → IBl n np t D S := fun D hD => (hB D (by omega)).1 hD
  have hPm : ∀ D, D < nd → mThere S D → inC 6 (S.1 43 0 D) := fun D hD q => by
    have := (hl D hD).P b1 ((there_eq (hl D hD) b1).mp q).1
    rw [this.2]; exact this.1
  have hpr : ∀ ok : okBuy nd x g k, cThere S x.toNatClampNeg → inC 6 (S.1 12 x.toNatClampNeg 0) ∧ S.1 43 0 x.toNatClampNeg = S.1 12 x.toNatClampNeg 0 ∧ mPrice S (S.1 43 0 x.toNatClampNeg) g = pPrice S (S.1 12 x.toNatClampNeg 0).toNatClampNeg g := fun ok q => by
    obtain ⟨hp, ep⟩ := (hl _ ok.1.lt).P b1 q.1
    have := pm_N hA (P := (S.1 12 x.toNatClampNeg 0).toNatClampNeg) (G := g.toNatClampNeg) hp.lt ok.2.1.lt
    rw [← ok.2.1.eq, ← hp.eq] at this
    exact ⟨hp, ep, by rw [ep]; exact this⟩
  refine ct_C_buy e3 b2 (fun D hD q => ((hl D hD).P b1 q).1) (fun q => ?_) (fun ok q => ?_) (fun ok q1 q2 q3 => ?_)
  · exact ct_M_buy e4 b2 hPm (fun _ => ⟨rfl, keep, Fr.rf⟩) (fun ok => absurd ok q) (fun ok => absurd ok q)
  · have hb := hl _ ok.1.lt
    refine ct_M_buy e4 b2 hPm (fun g => absurd ok g) (fun _ _ => ⟨rfl, keep, Fr.rf⟩) (fun _ g1 g2 g3 => absurd ?_ q)
    have th := (there_eq hb b1).mp g1
    rw [sum_eq hb, hb.1.2.2.1] at g2
    rw [(hpr ok th).2.2, hb.1.2.2.2.1] at g3
    exact ⟨th, g2, g3⟩
  · have hb := hl _ ok.1.lt
    have hG := ok.2.1.lt
    obtain ⟨hp, ep, em⟩ := hpr ok q1
    obtain ⟨H, G0, h99, eH, a11, a12⟩ := id hb.2.2.2.1
    obtain ⟨A, hA1, eA⟩ := hb.2.2.2.2.1
    have e46 : S.1 46 0 x.toNatClampNeg = nI A := hb.1.2.2.2.1.trans eA
    have eg := a11 _ hG
    have hGle : ∀ G', G' < 4 → G0 G' ≤ 99 := by
      intro G' h'
      have : G' = 0 ∨ G' = 1 ∨ G' = 2 ∨ G' = 3 := by omega
      rcases this with e | e | e | e <;> rw [e] <;> omega
    have hGle := hGle _ hG
    obtain ⟨K, k1, k2, rfl⟩ := ok.2.2
    obtain ⟨c, c1, c2, ec⟩ := pr_b hA hn (P := (S.1 12 x.toNatClampNeg 0).toNatClampNeg) (G := g.toNatClampNeg) hp.lt hG
    rw [← ok.2.1.eq] at ec
    have hKc : K * (c + 1) ≤ 99 * 100 := Nat.mul_le_mul (by omega) (by omega)
    have q3' := q3
    rw [ec, eA, nI_1, nI_mul, nI_leI (by omega) (by omega)] at q3'
    have q2' := q2
    rw [cSum_N (fun g hg => (a11 g hg).1), eH, nI_add, nI_leI (by omega) (by omega)] at q2'
    rw [ec, eA, nI_1, nI_mul, nI_sb q3' (by omega), eg.1, nI_add]
    obtain ⟨l, hl1, el⟩ : ∃ l, l ≤ 99 * n ∧ S.1 7 (S.1 12 x.toNatClampNeg 0).toNatClampNeg g.toNatClampNeg = nI l := by
      obtain ⟨-, -, -, h4, -⟩ := id hA
      obtain ⟨-, -, -, a5, a6⟩ := h4 _ _ hp.lt hG
      obtain ⟨l, hl, el⟩ := nI_of (Int32.not_lt.mpr a5)
      rw [el, nI_toInt hl] at a6
      exact ⟨l, by omega, el⟩
    have el2 : S.1 41 0 (4 * (S.1 12 x.toNatClampNeg 0).toNatClampNeg + g.toNatClampNeg) = nI l := by
      obtain ⟨-, -, -, h4, -⟩ := id hA
      exact (h4 _ _ hp.lt hG).1.2.2.trans el
    obtain ⟨l2, hl2, f1, f2⟩ : ∃ l2, l2 ≤ l ∧ mx0 (nI l - nI K) = nI l2 ∧ mLess (nI l) (nI K) = nI l2 := by
      unfold mx0 mLess
      by_cases h : l < K
      · refine ⟨0, by omega, ?_, ?_⟩
        · rw [if_neg (fun q => ?_)]
          · rfl
          · have := Int32.lt_iff_toInt_lt.mp q
            rw [sbI (by rw [nI_toInt (show l < 2 ^ 31 by omega), nI_toInt (show K < 2 ^ 31 by omega)]; omega) (by rw [nI_toInt (show l < 2 ^ 31 by omega), nI_toInt (show K < 2 ^ 31 by omega)]; omega), nI_toInt (show l < 2 ^ 31 by omega), nI_toInt (show K < 2 ^ 31 by omega), show (0 : Int32).toInt = 0 from rfl] at this
            omega
        · rw [if_pos (nI_lt h (by omega))]; rfl
      · refine ⟨l - K, by omega, ?_, ?_⟩
        · rw [nI_sb (by omega) (by omega)]
          by_cases h2 : 0 < l - K
          · exact if_pos (nI_lt (a := 0) h2 (by omega))
          · rw [show l - K = 0 by omega]; rfl
        · rw [if_neg (fun q => h ((nI_ltI (by omega) (by omega)).mp q)), nI_sb (by omega) (by omega)]
    rw [el, f1]
    refine ct_M_buy (nd := nd) e4 b2 hPm (fun g0 => absurd ok g0) (fun _ g0 => absurd ⟨(there_eq hb b1).mpr q1, ?_, ?_⟩ g0) (fun _ g1 g2 g3 => ?_)
    · refine ⟨?_, ?_, ?_⟩
      · show some (Sum.inl (S.1 46 0 x.toNatClampNeg - nI K * (mPrice S (S.1 43 0 x.toNatClampNeg) g + 1))) = _
        rw [em, ec, e46, nI_1, nI_mul, nI_sb q3' (by omega)]
      · show IA (n + 1) (xupd (xupd (xupd (xupd (xupd (xupd S 12 x.toNatClampNeg 4 (nI (A - K * (c + 1)))) 13 x.toNatClampNeg g.toNatClampNeg (nI (G0 g.toNatClampNeg + K))) 7 (S.1 12 x.toNatClampNeg 0).toNatClampNeg g.toNatClampNeg (nI l2)) 46 0 x.toNatClampNeg (S.1 46 0 x.toNatClampNeg - nI K * (mPrice S (S.1 43 0 x.toNatClampNeg) g + 1))) 50 0 (4 * x.toNatClampNeg + g.toNatClampNeg) (S.1 50 0 (4 * x.toNatClampNeg + g.toNatClampNeg) + nI K)) 41 0 (4 * (S.1 43 0 x.toNatClampNeg).toNatClampNeg + g.toNatClampNeg) (mLess (S.1 41 0 (4 * (S.1 43 0 x.toNatClampNeg).toNatClampNeg + g.toNatClampNeg)) (nI K))) ∧ IB (n + 1) np nd t (xupd (xupd (xupd (xupd (xupd (xupd S 12 x.toNatClampNeg 4 (nI (A - K * (c + 1)))) 13 x.toNatClampNeg g.toNatClampNeg (nI (G0 g.toNatClampNeg + K))) 7 (S.1 12 x.toNatClampNeg 0).toNatClampNeg g.toNatClampNeg (nI l2)) 46 0 x.toNatClampNeg (S.1 46 0 x.toNatClampNeg - nI K * (mPrice S (S.1 43 0 x.toNatClampNeg) g + 1))) 50 0 (4 * x.toNatClampNeg + g.toNatClampNeg) (S.1 50 0 (4 * x.toNatClampNeg + g.toNatClampNeg) + nI K)) 41 0 (4 * (S.1 43 0 x.toNatClampNeg).toNatClampNeg + g.toNatClampNeg) (mLess (S.1 41 0 (4 * (S.1 43 0 x.toNatClampNeg).toNatClampNeg + g.toNatClampNeg)) (nI K)))
        rw [em, ec, e46, nI_1, nI_mul, nI_sb q3' (by omega), eg.2, nI_add, ep, el2, f2]
        refine ⟨hA.landed hG (nI_pos' (by omega)) (by rw [nI_toInt (by omega)]; omega), hB.trade ok.1.lt b2 hG (by omega) (fun H' G' f1 f2 f3 f4 => Or.inr ?_)⟩
        have eH' := (nI_eq (by omega) (by omega)).mp (eH.symm.trans f1)
        have g4 : ∀ g, g < 4 → G' g = G0 g := fun g hg => by
          have h0 : G0 g ≤ 99 := by
            have : g = 0 ∨ g = 1 ∨ g = 2 ∨ g = 3 := by omega
            rcases this with e | e | e | e <;> rw [e] <;> omega
          have h1 : G' g ≤ 99 := by
            have : g = 0 ∨ g = 1 ∨ g = 2 ∨ g = 3 := by omega
            rcases this with e | e | e | e <;> rw [e] <;> omega
          exact (nI_eq (by omega) (by omega)).mp ((f3 g hg).symm.trans (a11 g hg).1)
        rw [g4 0 (by decide), g4 1 (by decide), g4 2 (by decide), g4 3 (by decide), g4 _ hG]
        omega
      · exact (((((Fr.rf.up rfl).up rfl).up rfl).up rfl).up rfl).up rfl
    · show mSum S _ + nI K ≤ S.1 45 0 _
      rw [sum_eq hb, hb.1.2.2.1]; exact q2
    · show nI K * (mPrice S (S.1 43 0 x.toNatClampNeg) g + 1) ≤ S.1 46 0 x.toNatClampNeg
      rw [em, hb.1.2.2.2.1]; exact q3
