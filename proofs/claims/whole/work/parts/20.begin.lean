/-! begin, way -/
theorem IB.stake {n np nd t D : Nat} {S : xS} (h : IB n np nd t S) (hD : D < nd) {A B : Nat} (hA : A ≤ 100000 * (n + 1)) (hB : B ≤ t) : IB n np nd t (xupd (xupd (xupd (xupd S 12 D 6 (nI A)) 12 D 7 (nI B)) 47 0 D (nI A)) 48 0 D (nI B)) := by
  intro d hd
  refine ⟨fun q => ?_, fun q => ?_⟩
  · obtain ⟨⟨a1, a2, a3, a4, a5, a6⟩, a7, a8, a9, a10, a15, a16⟩ := (h d hd).1 q
    by_cases e : d = D
    · subst e
      refine ⟨⟨a1, a2, a3, a4, ?_, ?_⟩, a7, a8, a9, a10, Or.inr ⟨A, hA, ?_⟩, B, hB, ?_⟩ <;> simp (decide := true) only [xu, true_and, false_and, and_true, and_false, if_true, if_false]
    · refine ⟨⟨a1, a2, a3, a4, ?_, ?_⟩, a7, a8, a9, a10, ?_, ?_⟩
      · simp (decide := true) only [xu, true_and, false_and, and_true, and_false, if_true, if_false, e]; exact a5
      · simp (decide := true) only [xu, true_and, false_and, and_true, and_false, if_true, if_false, e]; exact a6
      · simp (decide := true) only [xu, true_and, false_and, and_true, and_false, if_true, if_false, e]; exact a15
      · simp (decide := true) only [xu, true_and, false_and, and_true, and_false, if_true, if_false, e]; exact a16
  · have e : ¬ d = D := by omega
    obtain ⟨a1, a2, a3, a4, a5, a6, a7, a8⟩ := (h d hd).2 q
    refine ⟨a1, a2, a3, ?_, ?_, a6, a7, ?_⟩
    · simp (decide := true) only [xu, true_and, false_and, and_true, and_false, if_true, if_false, e]; exact a4
    · simp (decide := true) only [xu, true_and, false_and, and_true, and_false, if_true, if_false, e]; exact a5
    · simp (decide := true) only [xu, true_and, false_and, and_true, and_false, if_true, if_false, e]; exact a8
theorem ct_C_begin {d nd : Nat} {x : Int32} {S : xS} {Q : xQ} (e3 : S.1 0 0 9 = nI nd) (b : nd ≤ 4) (hb : ¬ inC nd x → Q (some (.inl (-2))) S) (hs : inC nd x → ¬ (cThere S x.toNatClampNeg ∧ S.1 12 x.toNatClampNeg 6 = -1) → Q (some (.inl (-3))) S)
    (hk : inC nd x → cThere S x.toNatClampNeg → S.1 12 x.toNatClampNeg 6 = -1 → Q (some (.inl (S.1 12 x.toNatClampNeg 4))) (xupd (xupd S 12 x.toNatClampNeg 6 (S.1 12 x.toNatClampNeg 4)) 12 x.toNatClampNeg 7 (S.1 0 0 13))) : CT (d + 3) 0 0 m_C_begin [C0, .inl x] S Q := by
  refine ct_of (xmok_all (by decide)) rfl (V_go (pc := 0) pk_97 [] 80 ?_)
  refine cC_isDhow e3 (by omega) (fun hx => ?_) (fun q => ?_)
  · (repeat' first | (refine And.intro (fun q => absurd q (by decide)) (fun _ => ?_)) | (refine And.intro (fun _ => ?_) (fun q => absurd q (by decide))) | fail)
    refine And.intro (hx.vp b) ?_
    refine ct_inPort (fun p1 p2 => ?_) (fun p => ?_)
    · (repeat' first | (refine And.intro (fun q => absurd q (by decide)) (fun _ => ?_)) | (refine And.intro (fun _ => ?_) (fun q => absurd q (by decide))) | fail)
      refine ct_onVoyage (fun q => ?_) (fun q => ?_)
      · (repeat' first | (refine And.intro (fun q => absurd q (by decide)) (fun _ => ?_)) | (refine And.intro (fun _ => ?_) (fun q => absurd q (by decide))) | fail)
        exact hs hx (fun g => q g.2)
      · (repeat' first | (refine And.intro (fun q => absurd q (by decide)) (fun _ => ?_)) | (refine And.intro (fun _ => ?_) (fun q => absurd q (by decide))) | fail)
        refine qi (hk hx ⟨p1, p2⟩ q) ?_ rfl
        show (xupd (xupd S 12 x.toNatClampNeg 6 _) 12 x.toNatClampNeg 7 _).1 12 x.toNatClampNeg 6 = _
        simp (decide := true) only [xu, true_and, false_and, and_true, and_false, if_true, if_false]
    · (repeat' first | (refine And.intro (fun q => absurd q (by decide)) (fun _ => ?_)) | (refine And.intro (fun _ => ?_) (fun q => absurd q (by decide))) | fail)
      exact hs hx (fun g => p g.1)
  · (repeat' first | (refine And.intro (fun q => absurd q (by decide)) (fun _ => ?_)) | (refine And.intro (fun _ => ?_) (fun q => absurd q (by decide))) | fail)
    exact hb q
theorem ct_M_begin {d nd : Nat} {x : Int32} {S : xS} {Q : xQ} (e3 : S.1 36 0 8 = nI nd) (b : nd ≤ 4) (hb : ¬ inC nd x → Q (some (.inl (-2))) S) (hs : inC nd x → ¬ (mThere S x.toNatClampNeg ∧ S.1 47 0 x.toNatClampNeg = -1) → Q (some (.inl (-3))) S)
    (hk : inC nd x → mThere S x.toNatClampNeg → S.1 47 0 x.toNatClampNeg = -1 → Q (some (.inl (S.1 46 0 x.toNatClampNeg))) (xupd (xupd S 47 0 x.toNatClampNeg (S.1 46 0 x.toNatClampNeg)) 48 0 x.toNatClampNeg (S.1 36 0 0))) : CT (d + 3) 0 0 m_M_begin [M0, .inl x] S Q := by
  refine ct_of (xmok_all (by decide)) rfl (V_go (pc := 0) pk_148 [] 80 ?_)
  refine cM_isDhow e3 (by omega) (fun hx => ?_) (fun q => ?_)
  · (repeat' first | (refine And.intro (fun q => absurd q (by decide)) (fun _ => ?_)) | (refine And.intro (fun _ => ?_) (fun q => absurd q (by decide))) | fail)
    have hx4 := hx.vp (N := 4) b
    refine cM_isThere (hx.mono b) (fun p1 p2 => ?_) (fun p => ?_)
    · (repeat' first | (refine And.intro (fun q => absurd q (by decide)) (fun _ => ?_)) | (refine And.intro (fun _ => ?_) (fun q => absurd q (by decide))) | fail)
      refine And.intro hx4 ?_
      refine And.intro (fun c => ?_) (fun c => ?_)
      · refine And.intro hx4 ?_
        refine And.intro hx4 ?_
        refine And.intro hx4 ?_
        refine And.intro hx4 ?_
        refine qi (hk hx ⟨p1, p2⟩ c) ?_ rfl
        show (xupd (xupd S 47 0 x.toNatClampNeg _) 48 0 x.toNatClampNeg _).1 47 0 x.toNatClampNeg = _
        simp (decide := true) only [xu, true_and, false_and, and_true, and_false, if_true, if_false]
      · exact hs hx (fun g => c g.2)
    · (repeat' first | (refine And.intro (fun q => absurd q (by decide)) (fun _ => ?_)) | (refine And.intro (fun _ => ?_) (fun q => absurd q (by decide))) | fail)
      exact hs hx (fun g => p g.1)
  · (repeat' first | (refine And.intro (fun q => absurd q (by decide)) (fun _ => ?_)) | (refine And.intro (fun _ => ?_) (fun q => absurd q (by decide))) | fail)
    exact hb q
theorem cm_begin {dp n np nd nv nt r t : Nat} {S : xS} (hN : IN np nd nv nt r t S) (hB : IB n np nd t S) {x : Int32} : CT (dp + 3) 0 0 m_C_begin [C0, .inl x] S (fun a S1 => CT (dp + 3) 0 0 m_M_begin [M0, .inl x] S1 (fun a' S2 => a' = a ∧ IB n np nd t S2 ∧ Fr (fl [13006, 13007, 47, 48]) S S2)) := by
  obtain ⟨⟨b1, b2, b3⟩, ⟨e1, e2⟩, ⟨e3, e4⟩, -, -, -, e13, e14⟩ := id hN
  have hl : ∀ D, D < nd → IBl n np t D S := fun D hD => (hB D (by omega)).1 hD
  refine ct_C_begin e3 b2 (fun q => ?_) (fun hx q => ?_) (fun hx q1 q2 => ?_)
  · exact ct_M_begin e4 b2 (fun _ => ⟨rfl, hB, Fr.rf⟩) (fun ok => absurd ok q) (fun ok => absurd ok q)
  · have hb := hl _ hx.lt
    exact ct_M_begin e4 b2 (fun g => absurd hx g) (fun _ _ => ⟨rfl, hB, Fr.rf⟩) (fun _ g1 g2 => absurd ⟨(there_eq hb b1).mp g1, hb.1.2.2.2.2.1.symm.trans g2⟩ q)
  · have hb := hl _ hx.lt
    obtain ⟨A, hA1, eA⟩ := hb.2.2.2.2.1
    refine ct_M_begin (nd := nd) e4 b2 (fun g => absurd hx g) (fun _ g => absurd ⟨(there_eq hb b1).mpr q1, hb.1.2.2.2.2.1.trans q2⟩ g) (fun _ g1 g2 => ⟨?_, ?_, ?_⟩)
    · show some (Sum.inl (S.1 46 0 x.toNatClampNeg)) = _
      rw [hb.1.2.2.2.1]
    · show IB n np nd t (xupd (xupd (xupd (xupd S 12 x.toNatClampNeg 6 (S.1 12 x.toNatClampNeg 4)) 12 x.toNatClampNeg 7 (S.1 0 0 13)) 47 0 x.toNatClampNeg (S.1 46 0 x.toNatClampNeg)) 48 0 x.toNatClampNeg (S.1 36 0 0))
      rw [hb.1.2.2.2.1, eA, e13, e14]
      exact hB.stake hx.lt hA1 (Nat.le_refl t)
    · exact (((Fr.rf.up rfl).up rfl).up rfl).up rfl
theorem mo_N {t : Nat} (h : t < 2 ^ 31) : mo (nI t) = t / 30 % 12 ∧ vp_in (nI t / 30 - nI t / 30 / 12 * 12) 12 := by
  unfold mo
  rw [mon_N h]
  exact ⟨nI_clamp (by omega), vi (by omega)⟩
theorem cm_way {dp n np nd nv nt r t : Nat} {S : xS} (hN : IN np nd nv nt r t S) (hA : IA n S) {a b y : Int32} : CT (dp + 3) 0 0 m_C_way [C0, .inl a, .inl b, .inl y] S (fun q S1 => CT (dp + 3) 0 0 m_M_way [M0, .inl a, .inl b, .inl y] S1 (fun q' S2 => q' = q ∧ S2 = S)) := by
  obtain ⟨⟨b1, b2, b3⟩, ⟨e1, e2⟩, -⟩ := id hN
  have mb : ¬ inC np a ∨ ¬ inC np b ∨ a = b ∨ ¬ inR 0 9999 y → ∀ {Q : xQ}, Q (some (.inl (-2))) S → CT (dp + 3) 0 0 m_M_way [M0, .inl a, .inl b, .inl y] S Q := by
    intro hb Q hq
    refine ct_of (xmok_all (by decide)) rfl (V_go (pc := 0) pk_127 [] 60 ?_)
    refine cM_isPort e2 (by omega) (fun h1 => ?_) (fun q => ?_)
    · (repeat' first | (refine And.intro (fun q => absurd q (by decide)) (fun _ => ?_)) | (refine And.intro (fun _ => ?_) (fun q => absurd q (by decide))) | fail)
      refine cM_isPort e2 (by omega) (fun h2 => ?_) (fun q => ?_)
      · (repeat' first | (refine And.intro (fun q => absurd q (by decide)) (fun _ => ?_)) | (refine And.intro (fun _ => ?_) (fun q => absurd q (by decide))) | fail)
        refine And.intro (fun _ => hq) (fun h3 => ?_)
        refine cM_w 0 9999 rfl rfl (by decide) (by decide) (fun h4 => ?_) (fun q => ?_)
        · rcases hb with hb | hb | hb | hb
          · exact absurd h1 hb
          · exact absurd h2 hb
          · exact absurd hb h3
          · exact absurd h4 hb
        · (repeat' first | (refine And.intro (fun q => absurd q (by decide)) (fun _ => ?_)) | (refine And.intro (fun _ => ?_) (fun q => absurd q (by decide))) | fail)
          exact hq
      · (repeat' first | (refine And.intro (fun q => absurd q (by decide)) (fun _ => ?_)) | (refine And.intro (fun _ => ?_) (fun q => absurd q (by decide))) | fail)
        exact hq
    · (repeat' first | (refine And.intro (fun q => absurd q (by decide)) (fun _ => ?_)) | (refine And.intro (fun _ => ?_) (fun q => absurd q (by decide))) | fail)
      exact hq
  refine ct_of (xmok_all (by decide)) rfl (V_go (pc := 0) pk_79 [] 60 ?_)
  refine cC_hasPort e1 (by omega) (fun h1 => ?_) (fun q => ?_)
  · (repeat' first | (refine And.intro (fun q => absurd q (by decide)) (fun _ => ?_)) | (refine And.intro (fun _ => ?_) (fun q => absurd q (by decide))) | fail)
    refine cC_hasPort e1 (by omega) (fun h2 => ?_) (fun q => ?_)
    · (repeat' first | (refine And.intro (fun q => absurd q (by decide)) (fun _ => ?_)) | (refine And.intro (fun _ => ?_) (fun q => absurd q (by decide))) | fail)
      refine And.intro (fun q => mb (Or.inr (Or.inr (Or.inl q))) ⟨rfl, rfl⟩) (fun h3 => ?_)
      refine cC_w 0 9999 rfl rfl (by decide) (by decide) (fun h4 => ?_) (fun q => ?_)
      · (repeat' first | (refine And.intro (fun q => absurd q (by decide)) (fun _ => ?_)) | (refine And.intro (fun _ => ?_) (fun q => absurd q (by decide))) | fail)
        obtain ⟨Y, y1, y2, rfl⟩ := h4
        obtain ⟨em, hm⟩ := mo_N (t := Y) (by omega)
        refine ct_crossing (h1.mono b1) (h2.mono b1) hm ?_
        refine ct_of (xmok_all (by decide)) rfl (V_go (pc := 0) pk_127 [] 60 ?_)
        refine cM_isPort e2 (by omega) (fun _ => ?_) (fun q => absurd h1 q)
        (repeat' first | (refine And.intro (fun q => absurd q (by decide)) (fun _ => ?_)) | (refine And.intro (fun _ => ?_) (fun q => absurd q (by decide))) | fail)
        refine cM_isPort e2 (by omega) (fun _ => ?_) (fun q => absurd h2 q)
        (repeat' first | (refine And.intro (fun q => absurd q (by decide)) (fun _ => ?_)) | (refine And.intro (fun _ => ?_) (fun q => absurd q (by decide))) | fail)
        refine And.intro (fun q => absurd q h3) (fun _ => ?_)
        refine cM_w 0 9999 rfl rfl (by decide) (by decide) (fun _ => ?_) (fun q => absurd ⟨Y, y1, y2, rfl⟩ q)
        (repeat' first | (refine And.intro (fun q => absurd q (by decide)) (fun _ => ?_)) | (refine And.intro (fun _ => ?_) (fun q => absurd q (by decide))) | fail)
        refine ct_wayOf (h1.mono b1) (h2.mono b1) hm ?_
        refine And.intro ?_ rfl
        rw [em]
        rcases way_eq hA (h1.mono b1).lt (h2.mono b1).lt (m := Y / 30 % 12) (by omega) with ⟨q1, q2⟩ | ⟨c, -, -, q1, q2⟩
        · rw [q1, q2]
        · rw [q1, q2]
      · (repeat' first | (refine And.intro (fun q => absurd q (by decide)) (fun _ => ?_)) | (refine And.intro (fun _ => ?_) (fun q => absurd q (by decide))) | fail)
        exact mb (Or.inr (Or.inr (Or.inr q))) ⟨rfl, rfl⟩
    · (repeat' first | (refine And.intro (fun q => absurd q (by decide)) (fun _ => ?_)) | (refine And.intro (fun _ => ?_) (fun q => absurd q (by decide))) | fail)
      exact mb (Or.inr (Or.inl q)) ⟨rfl, rfl⟩
  · (repeat' first | (refine And.intro (fun q => absurd q (by decide)) (fun _ => ?_)) | (refine And.intro (fun _ => ?_) (fun q => absurd q (by decide))) | fail)
    exact mb (Or.inl q) ⟨rfl, rfl⟩
