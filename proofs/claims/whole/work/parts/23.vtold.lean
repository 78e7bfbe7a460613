/-! ventureTold, on, force -/
def vC (S : xS) (v : Nat) (w : Int32) : Int32 := if w = 0 then S.1 15 v 0 else if w = 1 then S.1 15 v 1 else if w = 2 then S.1 15 v 2 else if w = 3 then S.1 15 v 3 else if w = 4 then S.1 15 v 4 else if w = 5 then (if S.1 15 v 7 = 0 then 0 else 1) else if w = 6 then S.1 15 v 5 else -2
def vM (S : xS) (v : Nat) (w : Int32) : Int32 := if w = 0 then S.1 53 0 v else if w = 1 then S.1 54 0 v else if w = 2 then S.1 55 0 v else if w = 3 then S.1 56 0 v else if w = 4 then S.1 57 0 v else if w = 5 then (if S.1 58 0 v = 0 then 0 else 1) else if w = 6 then S.1 59 0 v else -2
theorem ct_C_vtold {d nv : Nat} {x w : Int32} {S : xS} {Q : xQ} (e3 : S.1 0 0 10 = nI nv) (b : nv ≤ 16) (hb : ¬ inC nv x → Q (some (.inl (-2))) S) (hk : inC nv x → Q (some (.inl (vC S x.toNatClampNeg w))) S) : CT (d + 3) 0 0 m_C_ventureTold [C0, .inl x, .inl w] S Q := by
  refine ct_of (xmok_all (by decide)) rfl (V_go (pc := 0) pk_94 [] 60 ?_)
  refine cC_isVenture e3 (by omega) (fun hx => ?_) (fun q => ?_)
  · (repeat' first | (refine And.intro (fun q => absurd q (by decide)) (fun _ => ?_)) | (refine And.intro (fun _ => ?_) (fun q => absurd q (by decide))) | fail)
    have hk := hk hx
    have hv := hx.vp (N := 16) b
    refine And.intro hv ?_
    refine (And.intro (fun c0 => ?_) (fun c0 => (And.intro (fun c1 => ?_) (fun c1 => (And.intro (fun c2 => ?_) (fun c2 => (And.intro (fun c3 => ?_) (fun c3 => (And.intro (fun c4 => ?_) (fun c4 => (And.intro (fun c5 => ?_) (fun c5 => (And.intro (fun c6 => ?_) (fun c6 => ?_))))))))))))))
    · subst c0
      exact qi hk rfl rfl
    · subst c1
      exact qi hk rfl rfl
    · subst c2
      exact qi hk rfl rfl
    · subst c3
      exact qi hk rfl rfl
    · subst c4
      exact qi hk rfl rfl
    · subst c5
      refine And.intro (fun c => ?_) (fun c => ?_)
      · refine qi hk ?_ rfl
        show (0 : Int32) = if S.1 15 x.toNatClampNeg 7 = 0 then 0 else 1
        exact (if_pos c).symm
      · refine qi hk ?_ rfl
        show (1 : Int32) = if S.1 15 x.toNatClampNeg 7 = 0 then 0 else 1
        exact (if_neg c).symm
    · subst c6
      exact qi hk rfl rfl
    · refine qi hk ?_ rfl
      show (-2 : Int32) = _
      unfold vC
      rw [if_neg c0, if_neg c1, if_neg c2, if_neg c3, if_neg c4, if_neg c5, if_neg c6]
  · (repeat' first | (refine And.intro (fun q => absurd q (by decide)) (fun _ => ?_)) | (refine And.intro (fun _ => ?_) (fun q => absurd q (by decide))) | fail)
    exact hb q
theorem ct_M_vtold {d nv : Nat} {x w : Int32} {S : xS} {Q : xQ} (e3 : S.1 36 0 19 = nI nv) (b : nv ≤ 16) (hb : ¬ inC nv x → Q (some (.inl (-2))) S) (hk : inC nv x → Q (some (.inl (vM S x.toNatClampNeg w))) S) : CT (d + 3) 0 0 m_M_ventureTold [M0, .inl x, .inl w] S Q := by
  refine ct_of (xmok_all (by decide)) rfl (V_go (pc := 0) pk_145 [] 60 ?_)
  refine cM_isVenture e3 (by omega) (fun hx => ?_) (fun q => ?_)
  · (repeat' first | (refine And.intro (fun q => absurd q (by decide)) (fun _ => ?_)) | (refine And.intro (fun _ => ?_) (fun q => absurd q (by decide))) | fail)
    have hk := hk hx
    have hv := hx.vp (N := 16) b
    refine (And.intro (fun c0 => ?_) (fun c0 => (And.intro (fun c1 => ?_) (fun c1 => (And.intro (fun c2 => ?_) (fun c2 => (And.intro (fun c3 => ?_) (fun c3 => (And.intro (fun c4 => ?_) (fun c4 => (And.intro (fun c5 => ?_) (fun c5 => (And.intro (fun c6 => ?_) (fun c6 => ?_))))))))))))))
    · subst c0
      refine And.intro hv ?_
      exact qi hk rfl rfl
    · subst c1
      refine And.intro hv ?_
      exact qi hk rfl rfl
    · subst c2
      refine And.intro hv ?_
      exact qi hk rfl rfl
    · subst c3
      refine And.intro hv ?_
      exact qi hk rfl rfl
    · subst c4
      refine And.intro hv ?_
      exact qi hk rfl rfl
    · subst c5
      refine And.intro hv ?_
      refine And.intro (fun c => ?_) (fun c => ?_)
      · refine qi hk ?_ rfl
        show (0 : Int32) = if S.1 58 0 x.toNatClampNeg = 0 then 0 else 1
        exact (if_pos c).symm
      · refine qi hk ?_ rfl
        show (1 : Int32) = if S.1 58 0 x.toNatClampNeg = 0 then 0 else 1
        exact (if_neg c).symm
    · subst c6
      refine And.intro hv ?_
      exact qi hk rfl rfl
    · refine qi hk ?_ rfl
      show (-2 : Int32) = _
      unfold vM
      rw [if_neg c0, if_neg c1, if_neg c2, if_neg c3, if_neg c4, if_neg c5, if_neg c6]
  · (repeat' first | (refine And.intro (fun q => absurd q (by decide)) (fun _ => ?_)) | (refine And.intro (fun _ => ?_) (fun q => absurd q (by decide))) | fail)
    exact hb q
theorem cm_vtold {dp np nd nv nt r t : Nat} {S : xS} (hN : IN np nd nv nt r t S) (hD : ID nd nv S) {x w : Int32} : CT (dp + 3) 0 0 m_C_ventureTold [C0, .inl x, .inl w] S (fun a S1 => CT (dp + 3) 0 0 m_M_ventureTold [M0, .inl x, .inl w] S1 (fun a' S2 => a' = a ∧ S2 = S)) := by
  obtain ⟨⟨b1, b2, b3, b4, b5, b6⟩, ⟨e1, e2⟩, ⟨e3, e4⟩, ⟨e7, e8⟩, e9⟩ := id hN
  refine ct_C_vtold e7 b3 (fun q => ?_) (fun hx => ?_)
  · exact ct_M_vtold e8 b3 (fun _ => ⟨rfl, rfl⟩) (fun g => absurd g q)
  · refine ct_M_vtold e8 b3 (fun g => absurd hx g) (fun _ => ⟨?_, rfl⟩)
    obtain ⟨⟨a1, a2, a3, a4, a5, a6, a7⟩, -⟩ := (hD _ (by have := hx.lt; omega)).1 hx.lt
    unfold vC vM
    rw [a1, a2, a3, a4, a5, a6, a7]
theorem IBl.lost {n np t D : Nat} {S : xS} (h : IBl n np t D S) : S.1 49 0 D = S.1 12 D 2 := h.1.1
theorem ID.on {nd nv V : Nat} {S : xS} (h : ID nd nv S) {X : Nat} (hX : X < nd) : ID nd nv (xupd (xupd S 15 V 1 (nI X)) 54 0 V (nI X)) := by
  intro v hv
  refine ⟨fun q => ?_, fun q => ?_⟩
  · obtain ⟨⟨a1, a2, a3, a4, a5, a6, a7⟩, a8, a9, a10⟩ := (h v hv).1 q
    by_cases e : v = V
    · subst e
      refine ⟨⟨a1, ?_, a3, a4, a5, a6, a7⟩, a8, Or.inr ⟨X, hX, ?_⟩, a10⟩ <;> simp (decide := true) only [xu, true_and, false_and, and_true, and_false, if_true, if_false]
    · refine ⟨⟨a1, ?_, a3, a4, a5, a6, a7⟩, a8, ?_, a10⟩
      · simp (decide := true) only [xu, true_and, false_and, and_true, and_false, if_true, if_false, e]; exact a2
      · simp (decide := true) only [xu, true_and, false_and, and_true, and_false, if_true, if_false, e]; exact a9
  · exact (h v hv).2 q
theorem cm_on {dp n np nd nv nt r t : Nat} {S : xS} (hN : IN np nd nv nt r t S) (hB : IB n np nd t S) (hD : ID nd nv S) {v x : Int32} : CT (dp + 3) 0 0 m_C_on [C0, .inl v, .inl x] S (fun a S1 => CT (dp + 3) 0 0 m_M_on [M0, .inl v, .inl x] S1 (fun a' S2 => a' = a ∧ ID nd nv S2 ∧ Fr (fl [16001, 54]) S S2)) := by
  obtain ⟨⟨b1, b2, b3, b4, b5, b6⟩, ⟨e1, e2⟩, ⟨e3, e4⟩, ⟨e7, e8⟩, e9⟩ := id hN
  have mb : ¬ inC nv v ∨ ¬ inC nd x ∨ ¬ S.1 49 0 x.toNatClampNeg = 0 → ∀ {Q : xQ}, Q (some (.inl (-2))) S → CT (dp + 3) 0 0 m_M_on [M0, .inl v, .inl x] S Q := by
    intro hb Q hq
    refine ct_of (xmok_all (by decide)) rfl (V_go (pc := 0) pk_147 [] 60 ?_)
    refine cM_isVenture e8 (by omega) (fun h1 => ?_) (fun q => ?_)
    · (repeat' first | (refine And.intro (fun q => absurd q (by decide)) (fun _ => ?_)) | (refine And.intro (fun _ => ?_) (fun q => absurd q (by decide))) | fail)
      refine cM_isDhow e4 (by omega) (fun h2 => ?_) (fun q => ?_)
      · (repeat' first | (refine And.intro (fun q => absurd q (by decide)) (fun _ => ?_)) | (refine And.intro (fun _ => ?_) (fun q => absurd q (by decide))) | fail)
        refine And.intro (h2.vp (N := 4) b2) ?_
        refine And.intro (fun c => ?_) (fun _ => hq)
        rcases hb with hb | hb | hb
        · exact absurd h1 hb
        · exact absurd h2 hb
        · exact absurd c hb
      · (repeat' first | (refine And.intro (fun q => absurd q (by decide)) (fun _ => ?_)) | (refine And.intro (fun _ => ?_) (fun q => absurd q (by decide))) | fail)
        exact hq
    · (repeat' first | (refine And.intro (fun q => absurd q (by decide)) (fun _ => ?_)) | (refine And.intro (fun _ => ?_) (fun q => absurd q (by decide))) | fail)
      exact hq
  refine ct_of (xmok_all (by decide)) rfl (V_go (pc := 0) pk_96 [] 60 ?_)
  refine cC_isVenture e7 (by omega) (fun h1 => ?_) (fun q => ?_)
  · (repeat' first | (refine And.intro (fun q => absurd q (by decide)) (fun _ => ?_)) | (refine And.intro (fun _ => ?_) (fun q => absurd q (by decide))) | fail)
    refine cC_isDhow e3 (by omega) (fun h2 => ?_) (fun q => ?_)
    · (repeat' first | (refine And.intro (fun q => absurd q (by decide)) (fun _ => ?_)) | (refine And.intro (fun _ => ?_) (fun q => absurd q (by decide))) | fail)
      have h2v := h2.vp (N := 4) b2
      have h1v := h1.vp (N := 16) b3
      have hb := (hB _ (by have := h2.lt; omega)).1 h2.lt
      have hd := (hD _ (by have := h1.lt; omega)).1 h1.lt
      refine And.intro h2v ?_
      refine And.intro (fun c => ?_) (fun c => mb (Or.inr (Or.inr (fun q => c ?_))) ⟨rfl, hD, Fr.rf⟩)
      · refine And.intro h1v ?_
        have ms : ∀ {S' : xS} {Q : xQ}, S'.1 36 0 19 = nI nv → S'.1 36 0 8 = nI nd → S'.1 49 0 x.toNatClampNeg = 0 → (S'.1 54 0 v.toNatClampNeg = -1 → Q (some (.inl 1)) (xupd S' 54 0 v.toNatClampNeg x)) → (¬ S'.1 54 0 v.toNatClampNeg = -1 → Q (some (.inl (-3))) S') → CT (dp + 3) 0 0 m_M_on [M0, .inl v, .inl x] S' Q := by
          intro S' Q g1 g2 g3 q1 q2
          refine ct_of (xmok_all (by decide)) rfl (V_go (pc := 0) pk_147 [] 60 ?_)
          refine cM_isVenture g1 (by omega) (fun _ => ?_) (fun q => absurd h1 q)
          (repeat' first | (refine And.intro (fun q => absurd q (by decide)) (fun _ => ?_)) | (refine And.intro (fun _ => ?_) (fun q => absurd q (by decide))) | fail)
          refine cM_isDhow g2 (by omega) (fun _ => ?_) (fun q => absurd h2 q)
          (repeat' first | (refine And.intro (fun q => absurd q (by decide)) (fun _ => ?_)) | (refine And.intro (fun _ => ?_) (fun q => absurd q (by decide))) | fail)
          refine And.intro h2v ?_
          refine And.intro (fun _ => ?_) (fun c => absurd g3 c)
          refine And.intro h1v ?_
          refine And.intro (fun c => ?_) (fun c => q2 c)
          refine And.intro h1v ?_
          exact q1 c
        have w1 : ∀ {Q : xQ}, (S.1 15 v.toNatClampNeg 1 = -1 → Q (some (.inl 1)) S) → (¬ S.1 15 v.toNatClampNeg 1 = -1 → Q (some (.inl 0)) S) → CT (dp + 2) 0 0 m_Venture_waits [.inr (.inr (15, v.toNatClampNeg))] S Q := by
          intro Q q1 q0
          refine ct_of (xmok_all (by decide)) rfl (V_go (pc := 0) pk_67 [] 50 ?_)
          exact And.intro (fun c => And.intro (Or.inl rfl) (q0 c)) (fun c => And.intro (Or.inr rfl) (q1 c))
        have l0 : S.1 49 0 x.toNatClampNeg = 0 := hb.lost.trans c
        refine w1 (fun q => ?_) (fun q => ?_)
        · (repeat' first | (refine And.intro (fun q => absurd q (by decide)) (fun _ => ?_)) | (refine And.intro (fun _ => ?_) (fun q => absurd q (by decide))) | fail)
          refine ms (by exact e8) (by exact e4) (by exact l0) (fun _ => ⟨rfl, ?_, (Fr.rf.up rfl).up rfl⟩) (fun g => absurd (hd.1.2.1.trans q) g)
          rw [show x = nI x.toNatClampNeg from h2.eq]
          exact hD.on (V := v.toNatClampNeg) h2.lt
        · (repeat' first | (refine And.intro (fun q => absurd q (by decide)) (fun _ => ?_)) | (refine And.intro (fun _ => ?_) (fun q => absurd q (by decide))) | fail)
          exact ms e8 e4 l0 (fun g => absurd (hd.1.2.1.symm.trans g) q) (fun _ => ⟨rfl, hD, Fr.rf⟩)
      · exact hb.lost.symm.trans q
    · (repeat' first | (refine And.intro (fun q => absurd q (by decide)) (fun _ => ?_)) | (refine And.intro (fun _ => ?_) (fun q => absurd q (by decide))) | fail)
      exact mb (Or.inr (Or.inl q)) ⟨rfl, hD, Fr.rf⟩
  · (repeat' first | (refine And.intro (fun q => absurd q (by decide)) (fun _ => ?_)) | (refine And.intro (fun _ => ?_) (fun q => absurd q (by decide))) | fail)
    exact mb (Or.inl q) ⟨rfl, hD, Fr.rf⟩
theorem cm_force {dp np nd nv nt r t : Nat} {S : xS} (hN : IN np nd nv nt r t S) {x : Int32} : CT (dp + 3) 0 0 m_C_force [C0, .inl x] S (fun a S1 => CT (dp + 3) 0 0 m_M_force [M0, .inl x] S1 (fun a' S2 => a' = a ∧ (∃ r', IN np nd nv nt r' t S2) ∧ Fr (fl [1012, 37034]) S S2)) := by
  obtain ⟨⟨b1, b2, b3, b4, b5, b6⟩, ⟨e1, e2⟩, ⟨e3, e4⟩, ⟨e7, e8⟩, ⟨e9, e10⟩, ⟨e11, e12⟩, e13⟩ := id hN
  have mm : ∀ {S' : xS} {Q : xQ}, S'.1 36 0 33 = nI nt → (inC nt x → Q (some (.inl (S'.1 36 0 34))) (xupd S' 36 0 34 x)) → (¬ inC nt x → Q (some (.inl (-2))) S') → CT (dp + 3) 0 0 m_M_force [M0, .inl x] S' Q := by
    intro S' Q g q1 q0
    refine ct_of (xmok_all (by decide)) rfl (V_go (pc := 0) pk_174 [] 50 ?_)
    refine And.intro (fun c1 => q0 (fun g => ?_)) (fun c1 => And.intro (fun c2 => ?_) (fun c2 => q0 (fun g1 => ?_)))
    · exact absurd ((inC_iff (by omega)).mpr g).1 (Int32.not_le.mpr c1)
    · have c2 : x < S'.1 36 0 33 := c2
      rw [g] at c2
      exact q1 ((inC_iff (by omega)).mp ⟨Int32.not_lt.mp c1, c2⟩)
    · have c2 : ¬ x < S'.1 36 0 33 := c2
      rw [g] at c2; exact absurd ((inC_iff (by omega)).mpr g1).2 c2
  refine ct_of (xmok_all (by decide)) rfl (V_go (pc := 0) pk_105 [] 50 ?_)
  refine cC_isText e9 (by omega) (fun h1 => ?_) (fun q => ?_)
  · (repeat' first | (refine And.intro (fun q => absurd q (by decide)) (fun _ => ?_)) | (refine And.intro (fun _ => ?_) (fun q => absurd q (by decide))) | fail)
    refine mm (by exact e10) (fun _ => ⟨?_, ⟨x.toNatClampNeg, ?_⟩, (Fr.rf.up rfl).up rfl⟩) (fun g => absurd h1 g)
    · show some (Sum.inl (S.1 36 0 34)) = some (Sum.inl (S.1 0 0 12))
      rw [e11, e12]
    · exact ⟨⟨b1, b2, b3, b4, h1.lt, b6⟩, ⟨e1, e2⟩, ⟨e3, e4⟩, ⟨e7, e8⟩, ⟨e9, e10⟩, ⟨h1.eq, h1.eq⟩, e13⟩
  · (repeat' first | (refine And.intro (fun q => absurd q (by decide)) (fun _ => ?_)) | (refine And.intro (fun _ => ?_) (fun q => absurd q (by decide))) | fail)
    exact mm e10 (fun g => absurd g q) (fun _ => ⟨rfl, ⟨r, hN⟩, Fr.rf⟩)
