/-! told and good -/
def tC (S : xS) (D : Nat) (w : Int32) : Int32 := if w = 0 then S.1 12 D 0 else if w = 1 then S.1 12 D 1 else if w = 2 then S.1 12 D 3 else if w = 3 then S.1 12 D 4 else if w = 4 then 0 + S.1 13 D 0 + S.1 13 D 1 + S.1 13 D 2 + S.1 13 D 3 else if w = 5 then S.1 12 D 6 else if w = 6 then (if S.1 12 D 2 = 0 then 0 else 1) else -2
def tM (S : xS) (D : Nat) (w : Int32) : Int32 := if w = 0 then (if S.1 49 0 D = 0 then S.1 43 0 D else -1) else if w = 1 then S.1 44 0 D else if w = 2 then S.1 45 0 D else if w = 3 then S.1 46 0 D else if w = 4 then S.1 50 0 (4 * D) + S.1 50 0 (4 * D + 1) + S.1 50 0 (4 * D + 2) + S.1 50 0 (4 * D + 3) else if w = 5 then S.1 47 0 D else if w = 6 then (if S.1 49 0 D = 0 then 0 else 1) else -2
theorem ct_C_told {d nd : Nat} {x w : Int32} {S : xS} {Q : xQ} (e3 : S.1 0 0 9 = nI nd) (b : nd ≤ 4) (hb : ¬ inC nd x → Q (some (.inl (-2))) S) (hk : ∀ D, D < nd → x = nI D → Q (some (.inl (tC S D w))) S) : CT (d + 3) 0 0 m_C_told [C0, .inl x, .inl w] S Q := by
  refine ct_of (xmok_all (by decide)) rfl (V_go (pc := 0) pk_82 [] 60 ?_)
  refine ct_C_isDhow e3 (by omega) (fun D hD q => ?_) (fun q => ?_)
  · (repeat' first | (refine And.intro (fun q => absurd q (by decide)) (fun _ => ?_)) | (refine And.intro (fun _ => ?_) (fun q => absurd q (by decide))) | fail)
    subst q
    have e : (nI D).toNatClampNeg = D := nI_clamp (by omega)
    have hk := hk D hD rfl
    refine And.intro (vi (N := 4) (by omega)) ?_
    refine (And.intro (fun c0 => ?_) (fun c0 => (And.intro (fun c1 => ?_) (fun c1 => (And.intro (fun c2 => ?_) (fun c2 => (And.intro (fun c3 => ?_) (fun c3 => (And.intro (fun c4 => ?_) (fun c4 => (And.intro (fun c5 => ?_) (fun c5 => (And.intro (fun c6 => ?_) (fun c6 => ?_))))))))))))))
    · subst c0
      refine qi hk ?_ rfl
      show S.1 12 (nI D).toNatClampNeg 0 = _
      rw [e]; rfl
    · subst c1
      refine qi hk ?_ rfl
      show S.1 12 (nI D).toNatClampNeg 1 = _
      rw [e]; rfl
    · subst c2
      refine qi hk ?_ rfl
      show S.1 12 (nI D).toNatClampNeg 3 = _
      rw [e]; rfl
    · subst c3
      refine qi hk ?_ rfl
      show S.1 12 (nI D).toNatClampNeg 4 = _
      rw [e]; rfl
    · subst c4
      refine ct_aboard ?_
      refine qi hk ?_ rfl
      rw [e]; rfl
    · subst c5
      refine qi hk ?_ rfl
      show S.1 12 (nI D).toNatClampNeg 6 = _
      rw [e]; rfl
    · subst c6
      refine And.intro (fun c => ?_) (fun c => ?_)
      · have c : S.1 12 (nI D).toNatClampNeg 2 = 0 := c
        rw [e] at c
        refine qi hk ?_ rfl
        show (0 : Int32) = if S.1 12 D 2 = 0 then 0 else 1
        rw [if_pos c]
      · have c : ¬ S.1 12 (nI D).toNatClampNeg 2 = 0 := c
        rw [e] at c
        refine qi hk ?_ rfl
        show (1 : Int32) = if S.1 12 D 2 = 0 then 0 else 1
        rw [if_neg c]
    · refine qi hk ?_ rfl
      show (-2 : Int32) = _
      unfold tC
      rw [if_neg c0, if_neg c1, if_neg c2, if_neg c3, if_neg c4, if_neg c5, if_neg c6]
  · (repeat' first | (refine And.intro (fun q => absurd q (by decide)) (fun _ => ?_)) | (refine And.intro (fun _ => ?_) (fun q => absurd q (by decide))) | fail)
    exact hb q
theorem ct_M_told {d nd : Nat} {x w : Int32} {S : xS} {Q : xQ} (e3 : S.1 36 0 8 = nI nd) (b : nd ≤ 4) (hb : ¬ inC nd x → Q (some (.inl (-2))) S) (hk : ∀ D, D < nd → x = nI D → Q (some (.inl (tM S D w))) S) : CT (d + 3) 0 0 m_M_told [M0, .inl x, .inl w] S Q := by
  refine ct_of (xmok_all (by decide)) rfl (V_go (pc := 0) pk_130 [] 60 ?_)
  refine ct_M_isDhow e3 (by omega) (fun D hD q => ?_) (fun q => ?_)
  · (repeat' first | (refine And.intro (fun q => absurd q (by decide)) (fun _ => ?_)) | (refine And.intro (fun _ => ?_) (fun q => absurd q (by decide))) | fail)
    subst q
    have e : (nI D).toNatClampNeg = D := nI_clamp (by omega)
    have hk := hk D hD rfl
    have hv : vp_in (nI D) 4 := vi (by omega)
    refine (And.intro (fun c0 => ?_) (fun c0 => (And.intro (fun c1 => ?_) (fun c1 => (And.intro (fun c2 => ?_) (fun c2 => (And.intro (fun c3 => ?_) (fun c3 => (And.intro (fun c4 => ?_) (fun c4 => (And.intro (fun c5 => ?_) (fun c5 => (And.intro (fun c6 => ?_) (fun c6 => ?_))))))))))))))
    · subst c0
      refine And.intro hv ?_
      refine And.intro (fun c => ?_) (fun c => ?_)
      · have c : S.1 49 0 (nI D).toNatClampNeg = 0 := c
        rw [e] at c
        refine And.intro hv ?_
        refine qi hk ?_ rfl
        show S.1 43 0 (nI D).toNatClampNeg = if S.1 49 0 D = 0 then S.1 43 0 D else -1
        rw [if_pos c, e]
      · have c : ¬ S.1 49 0 (nI D).toNatClampNeg = 0 := c
        rw [e] at c
        refine qi hk ?_ rfl
        show (-1 : Int32) = if S.1 49 0 D = 0 then S.1 43 0 D else -1
        rw [if_neg c]
    · subst c1
      refine And.intro hv ?_
      refine qi hk ?_ rfl
      show S.1 44 0 (nI D).toNatClampNeg = _
      rw [e]; rfl
    · subst c2
      refine And.intro hv ?_
      refine qi hk ?_ rfl
      show S.1 45 0 (nI D).toNatClampNeg = _
      rw [e]; rfl
    · subst c3
      refine And.intro hv ?_
      refine qi hk ?_ rfl
      show S.1 46 0 (nI D).toNatClampNeg = _
      rw [e]; rfl
    · subst c4
      exact ct_M_all (by omega) hk
    · subst c5
      refine And.intro hv ?_
      refine qi hk ?_ rfl
      show S.1 47 0 (nI D).toNatClampNeg = _
      rw [e]; rfl
    · subst c6
      refine And.intro hv ?_
      refine And.intro (fun c => ?_) (fun c => ?_)
      · have c : S.1 49 0 (nI D).toNatClampNeg = 0 := c
        rw [e] at c
        refine qi hk ?_ rfl
        show (0 : Int32) = if S.1 49 0 D = 0 then 0 else 1
        rw [if_pos c]
      · have c : ¬ S.1 49 0 (nI D).toNatClampNeg = 0 := c
        rw [e] at c
        refine qi hk ?_ rfl
        show (1 : Int32) = if S.1 49 0 D = 0 then 0 else 1
        rw [if_neg c]
    · refine qi hk ?_ rfl
      show (-2 : Int32) = _
      unfold tM
      rw [if_neg c0, if_neg c1, if_neg c2, if_neg c3, if_neg c4, if_neg c5, if_neg c6]
  · (repeat' first | (refine And.intro (fun q => absurd q (by decide)) (fun _ => ?_)) | (refine And.intro (fun _ => ?_) (fun q => absurd q (by decide))) | fail)
    exact hb q
theorem told_eq {n np t D : Nat} {S : xS} (h : IBl n np t D S) (w : Int32) : tM S D w = tC S D w := by
  obtain ⟨⟨a1, a2, a3, a4, a5, a6⟩, a7, a8, ⟨H, G, -, -, a9, -⟩, -⟩ := h
  unfold tM tC
  rw [a1, a2, a3, a4, a5, show 4 * D = 4 * D + 0 from rfl, (a9 0 (by decide)).2, show 4 * D + 0 + 1 = 4 * D + 1 from rfl, show 4 * D + 0 + 2 = 4 * D + 2 from rfl, show 4 * D + 0 + 3 = 4 * D + 3 from rfl, (a9 1 (by decide)).2, (a9 2 (by decide)).2, (a9 3 (by decide)).2, (a9 0 (by decide)).1, (a9 1 (by decide)).1, (a9 2 (by decide)).1, (a9 3 (by decide)).1, Int32.zero_add]
  rcases a7 with ⟨q1, p, q2, q3, q4⟩ | ⟨q1, q2, q3⟩
  · rw [q1, q3, q4]; rfl
  · rw [q1, q2]; rfl
theorem cm_told {dp n np nd nv nt r t : Nat} {S : xS} (hN : IN np nd nv nt r t S) (hB : IB n np nd t S) {x w : Int32} : CT (dp + 3) 0 0 m_C_told [C0, .inl x, .inl w] S (fun a S1 => CT (dp + 3) 0 0 m_M_told [M0, .inl x, .inl w] S1 (fun a' S2 => a' = a ∧ S2 = S)) := by
  obtain ⟨⟨b1, b2, b3⟩, ⟨e1, e2⟩, ⟨e3, e4⟩, e5⟩ := id hN
  refine ct_C_told e3 b2 (fun q => ?_) (fun D hD q => ?_)
  · exact ct_M_told e4 b2 (fun _ => ⟨rfl, rfl⟩) (fun D hD g => absurd ⟨D, hD, g⟩ q)
  · refine ct_M_told e4 b2 (fun g => absurd ⟨D, hD, q⟩ g) (fun D' hD' g => ⟨?_, rfl⟩)
    obtain rfl : D' = D := (nI_eq (by omega) (by omega)).mp (g.symm.trans q)
    rw [told_eq ((hB D' (by omega)).1 hD')]
theorem cm_good {dp n np nd nv nt r t : Nat} {S : xS} (hN : IN np nd nv nt r t S) (hB : IB n np nd t S) {x w : Int32} : CT (dp + 3) 0 0 m_C_good [C0, .inl x, .inl w] S (fun a S1 => CT (dp + 3) 0 0 m_M_good [M0, .inl x, .inl w] S1 (fun a' S2 => a' = a ∧ S2 = S)) := by
  obtain ⟨⟨b1, b2, b3⟩, ⟨e1, e2⟩, ⟨e3, e4⟩, e5⟩ := id hN
  have mb : ¬ inC nd x ∨ ¬ inC 4 w → ∀ {Q : xQ}, Q (some (.inl (-2))) S → CT (dp + 3) 0 0 m_M_good [M0, .inl x, .inl w] S Q := by
    intro hb Q hq
    refine ct_of (xmok_all (by decide)) rfl (V_go (pc := 0) pk_133 [] 60 ?_)
    refine ct_M_isDhow e4 (by omega) (fun D hD q => ?_) (fun q => ?_)
    · (repeat' first | (refine And.intro (fun q => absurd q (by decide)) (fun _ => ?_)) | (refine And.intro (fun _ => ?_) (fun q => absurd q (by decide))) | fail)
      refine ct_M_good (fun G hG q2 => ?_) (fun q => ?_)
      · rcases hb with hb | hb
        · exact absurd ⟨D, hD, q⟩ hb
        · exact absurd ⟨G, hG, q2⟩ hb
      · (repeat' first | (refine And.intro (fun q => absurd q (by decide)) (fun _ => ?_)) | (refine And.intro (fun _ => ?_) (fun q => absurd q (by decide))) | fail)
        exact hq
    · (repeat' first | (refine And.intro (fun q => absurd q (by decide)) (fun _ => ?_)) | (refine And.intro (fun _ => ?_) (fun q => absurd q (by decide))) | fail)
      exact hq
  refine ct_of (xmok_all (by decide)) rfl (V_go (pc := 0) pk_84 [] 60 ?_)
  refine ct_C_isDhow e3 (by omega) (fun D hD q => ?_) (fun q => ?_)
  · (repeat' first | (refine And.intro (fun q => absurd q (by decide)) (fun _ => ?_)) | (refine And.intro (fun _ => ?_) (fun q => absurd q (by decide))) | fail)
    refine ct_C_good (fun G hG q2 => ?_) (fun q => ?_)
    · (repeat' first | (refine And.intro (fun q => absurd q (by decide)) (fun _ => ?_)) | (refine And.intro (fun _ => ?_) (fun q => absurd q (by decide))) | fail)
      subst q; subst q2
      have e : (nI D).toNatClampNeg = D := nI_clamp (by omega)
      have i4 := ix4 (a := D) (g := G) (N := 16) (by omega)
      refine And.intro (vi (N := 4) (by omega)) ?_
      refine And.intro (vi (N := 4) (by omega)) ?_
      refine ct_of (xmok_all (by decide)) rfl (V_go (pc := 0) pk_133 [] 60 ?_)
      refine ct_M_isDhow e4 (by omega) (fun _ _ _ => ?_) (fun q => absurd ⟨D, hD, rfl⟩ q)
      (repeat' first | (refine And.intro (fun q => absurd q (by decide)) (fun _ => ?_)) | (refine And.intro (fun _ => ?_) (fun q => absurd q (by decide))) | fail)
      refine ct_M_good (fun _ _ _ => ?_) (fun q => absurd ⟨G, hG, rfl⟩ q)
      (repeat' first | (refine And.intro (fun q => absurd q (by decide)) (fun _ => ?_)) | (refine And.intro (fun _ => ?_) (fun q => absurd q (by decide))) | fail)
      refine And.intro i4.2.1 ?_
      refine And.intro ?_ rfl
      show some (Sum.inl (S.1 50 0 (4 * nI D + nI G).toNatClampNeg)) = some (.inl (S.1 13 (nI D).toNatClampNeg (nI G).toNatClampNeg))
      obtain ⟨H, F, -, -, a9, -⟩ := ((hB D (by omega)).1 hD).2.2.2.1
      rw [i4.2.2, e, nI_clamp (show G < 2 ^ 31 by omega), (a9 G hG).1, (a9 G hG).2]
    · (repeat' first | (refine And.intro (fun q => absurd q (by decide)) (fun _ => ?_)) | (refine And.intro (fun _ => ?_) (fun q => absurd q (by decide))) | fail)
      exact mb (Or.inr q) ⟨rfl, rfl⟩
  · (repeat' first | (refine And.intro (fun q => absurd q (by decide)) (fun _ => ?_)) | (refine And.intro (fun _ => ?_) (fun q => absurd q (by decide))) | fail)
    exact mb (Or.inl q) ⟨rfl, rfl⟩
