/-! the thirty calls, with the shape of the answer (written by cs.py from the cm_ theorems) -/
def shI (a : Option xV) (P : Prop) : Prop := match a with
  | some (.inl _) => P
  | _ => False
def shJ (a : Option xV) (P : Prop) : Prop := match a with
  | some (.inr (.inl _)) => P
  | _ => False
theorem cs_price {d : Nat} {S : xS} {n : Nat} (h : IA n S) {p g : Int32} : CT (d + 3) 0 0 m_C_price [C0, .inl p, .inl g] S (fun r S1 => shI r (CT (d + 3) 0 0 m_M_price [M0, .inl p, .inl g] S1 (fun r' S2 => r' = r ∧ S2 = S))) := by
  refine ct_of (xmok_all (by decide)) rfl ?_
  refine V_go (pc := 0) pk_74 [] 60 ?_
  refine ct_Sea_has (fun c1 c2 => ?_) (fun c => ?_)
  · (repeat' first | (refine And.intro (fun q => absurd q (by decide)) (fun _ => ?_)) | (refine And.intro (fun _ => ?_) (fun q => absurd q (by decide))) | fail)
    refine ct_C_isGood (fun c3 c4 => ?_) (fun c => ?_)
    · (repeat' first | (refine And.intro (fun q => absurd q (by decide)) (fun _ => ?_)) | (refine And.intro (fun _ => ?_) (fun q => absurd q (by decide))) | fail)
      have hp5 := (isP h).2 c2
      obtain ⟨e, e24, e1, e2⟩ := at4 c1 hp5 c3 c4
      refine And.intro (vin (m := 5) rfl c1 hp5) ?_
      refine ct_Port_priceOf (vin (m := 3) rfl c3 c4) ?_
      refine ct_of (xmok_all (by decide)) rfl ?_
      refine V_go (pc := 0) pk_124 [] 60 ?_
      refine ct_M_isPort (fun _ _ => ?_) (fun c => absurd ⟨c1, (isP h).1.mp c2⟩ c)
      (repeat' first | (refine And.intro (fun q => absurd q (by decide)) (fun _ => ?_)) | (refine And.intro (fun _ => ?_) (fun q => absurd q (by decide))) | fail)
      refine ct_M_isGood (fun _ _ => ?_) (fun c => absurd ⟨c3, c4⟩ c)
      (repeat' first | (refine And.intro (fun q => absurd q (by decide)) (fun _ => ?_)) | (refine And.intro (fun _ => ?_) (fun q => absurd q (by decide))) | fail)
      refine ct_M_priceOf e24 ?_
      exact ⟨by rw [pm_price h c1 hp5 c3 c4], rfl⟩
    · (repeat' first | (refine And.intro (fun q => absurd q (by decide)) (fun _ => ?_)) | (refine And.intro (fun _ => ?_) (fun q => absurd q (by decide))) | fail)
      exact mm_price_bad h (Or.inr c) ⟨rfl, rfl⟩
  · (repeat' first | (refine And.intro (fun q => absurd q (by decide)) (fun _ => ?_)) | (refine And.intro (fun _ => ?_) (fun q => absurd q (by decide))) | fail)
    exact mm_price_bad h (Or.inl c) ⟨rfl, rfl⟩
theorem cs_wind {d : Nat} {S : xS} {n : Nat} (h : IA n S) {m w : Int32} : CT (d + 3) 0 0 m_C_wind [C0, .inl m, .inl w] S (fun r S1 => shI r (CT (d + 3) 0 0 m_M_wind [M0, .inl m, .inl w] S1 (fun r' S2 => r' = r ∧ IA n S2 ∧ Fr fWind S S2))) := by
  refine ct_of (xmok_all (by decide)) rfl ?_
  refine V_go (pc := 0) pk_75 [] 60 ?_
  refine ct_within (fun c1 c2 => ?_) (fun c => ?_)
  · (repeat' first | (refine And.intro (fun q => absurd q (by decide)) (fun _ => ?_)) | (refine And.intro (fun _ => ?_) (fun q => absurd q (by decide))) | fail)
    refine ct_within (fun c3 c4 => ?_) (fun c => ?_)
    · (repeat' first | (refine And.intro (fun q => absurd q (by decide)) (fun _ => ?_)) | (refine And.intro (fun _ => ?_) (fun q => absurd q (by decide))) | fail)
      refine And.intro (vin (m := 11) rfl c1 c2) ?_
      refine ct_of (xmok_all (by decide)) rfl ?_
      refine V_go (pc := 0) pk_125 [] 60 ?_
      refine ct_M_isIn32 (a := 0) (b := 11) rfl rfl (fun _ _ => ?_) (fun c => absurd ⟨c1, c2⟩ c)
      (repeat' first | (refine And.intro (fun q => absurd q (by decide)) (fun _ => ?_)) | (refine And.intro (fun _ => ?_) (fun q => absurd q (by decide))) | fail)
      refine ct_M_isIn32 (a := -2) (b := 2) rfl rfl (fun _ _ => ?_) (fun c => absurd ⟨c3, c4⟩ c)
      (repeat' first | (refine And.intro (fun q => absurd q (by decide)) (fun _ => ?_)) | (refine And.intro (fun _ => ?_) (fun q => absurd q (by decide))) | fail)
      refine And.intro (vin (m := 11) rfl c1 c2) ?_
      exact ⟨rfl, h.wind ⟨c3, c4⟩, (Fr.rf.up rfl).up rfl⟩
    · (repeat' first | (refine And.intro (fun q => absurd q (by decide)) (fun _ => ?_)) | (refine And.intro (fun _ => ?_) (fun q => absurd q (by decide))) | fail)
      exact mm_wind_bad (Or.inr c) ⟨rfl, h, Fr.rf⟩
  · (repeat' first | (refine And.intro (fun q => absurd q (by decide)) (fun _ => ?_)) | (refine And.intro (fun _ => ?_) (fun q => absurd q (by decide))) | fail)
    exact mm_wind_bad (Or.inl c) ⟨rfl, h, Fr.rf⟩

theorem cs_wants {d : Nat} {S : xS} {n : Nat} (h : IA n S) {p g b f : Int32} : CT (d + 3) 0 0 m_C_wants [C0, .inl p, .inl g, .inl b, .inl f] S (fun r S1 => shI r (CT (d + 3) 0 0 m_M_wants [M0, .inl p, .inl g, .inl b, .inl f] S1 (fun r' S2 => r' = r ∧ IA n S2 ∧ Fr fWants S S2))) := by
  refine ct_of (xmok_all (by decide)) rfl ?_
  refine V_go (pc := 0) pk_72 [] 80 ?_
  refine ct_Sea_has (fun c1 c2 => ?_) (fun c => ?_)
  · (repeat' first | (refine And.intro (fun q => absurd q (by decide)) (fun _ => ?_)) | (refine And.intro (fun _ => ?_) (fun q => absurd q (by decide))) | fail)
    refine ct_C_isGood (fun c3 c4 => ?_) (fun c => ?_)
    · (repeat' first | (refine And.intro (fun q => absurd q (by decide)) (fun _ => ?_)) | (refine And.intro (fun _ => ?_) (fun q => absurd q (by decide))) | fail)
      refine ct_within (fun c5 c6 => ?_) (fun c => ?_)
      · (repeat' first | (refine And.intro (fun q => absurd q (by decide)) (fun _ => ?_)) | (refine And.intro (fun _ => ?_) (fun q => absurd q (by decide))) | fail)
        refine ct_within (fun c7 c8 => ?_) (fun c => ?_)
        · (repeat' first | (refine And.intro (fun q => absurd q (by decide)) (fun _ => ?_)) | (refine And.intro (fun _ => ?_) (fun q => absurd q (by decide))) | fail)
          have hp5 := (isP h).2 c2
          obtain ⟨e, e24, e1, e2⟩ := at4 c1 hp5 c3 c4
          refine And.intro (vin (m := 5) rfl c1 hp5) ?_
          refine And.intro (vin (m := 3) rfl c3 c4) ?_
          refine And.intro (vin (m := 3) rfl c3 c4) ?_
          refine ct_Port_priceOf (vin (m := 3) rfl c3 c4) ?_
          refine ct_of (xmok_all (by decide)) rfl ?_
          refine V_go (pc := 0) pk_120 [] 80 ?_
          refine ct_M_isPort (fun _ _ => ?_) (fun c => absurd ⟨c1, (isP h).1.mp c2⟩ c)
          (repeat' first | (refine And.intro (fun q => absurd q (by decide)) (fun _ => ?_)) | (refine And.intro (fun _ => ?_) (fun q => absurd q (by decide))) | fail)
          refine ct_M_isGood (fun _ _ => ?_) (fun c => absurd ⟨c3, c4⟩ c)
          (repeat' first | (refine And.intro (fun q => absurd q (by decide)) (fun _ => ?_)) | (refine And.intro (fun _ => ?_) (fun q => absurd q (by decide))) | fail)
          refine ct_M_isIn32 (a := 1) (b := 99) rfl rfl (fun _ _ => ?_) (fun c => absurd ⟨c5, c6⟩ c)
          (repeat' first | (refine And.intro (fun q => absurd q (by decide)) (fun _ => ?_)) | (refine And.intro (fun _ => ?_) (fun q => absurd q (by decide))) | fail)
          refine ct_M_isIn32 (a := 0) (b := 9) rfl rfl (fun _ _ => ?_) (fun c => absurd ⟨c7, c8⟩ c)
          (repeat' first | (refine And.intro (fun q => absurd q (by decide)) (fun _ => ?_)) | (refine And.intro (fun _ => ?_) (fun q => absurd q (by decide))) | fail)
          refine And.intro e24 ?_
          refine And.intro e24 ?_
          refine ct_M_priceOf e24 ?_
          rw [e]
          have h' := h.wants (P := p.toNatClampNeg) (G := g.toNatClampNeg) e2 ⟨c5, c6⟩ ⟨c7, c8⟩
          refine ⟨?_, h', (((Fr.rf.up rfl).up rfl).up rfl).up rfl⟩
          rw [pm_price h' c1 hp5 c3 c4, pPrice_off rfl rfl rfl, pPrice_off rfl rfl rfl]
        · (repeat' first | (refine And.intro (fun q => absurd q (by decide)) (fun _ => ?_)) | (refine And.intro (fun _ => ?_) (fun q => absurd q (by decide))) | fail)
          exact mm_wants_bad h (Or.inr (Or.inr (Or.inr c))) ⟨rfl, h, Fr.rf⟩
      · (repeat' first | (refine And.intro (fun q => absurd q (by decide)) (fun _ => ?_)) | (refine And.intro (fun _ => ?_) (fun q => absurd q (by decide))) | fail)
        exact mm_wants_bad h (Or.inr (Or.inr (Or.inl c))) ⟨rfl, h, Fr.rf⟩
    · (repeat' first | (refine And.intro (fun q => absurd q (by decide)) (fun _ => ?_)) | (refine And.intro (fun _ => ?_) (fun q => absurd q (by decide))) | fail)
      exact mm_wants_bad h (Or.inr (Or.inl c)) ⟨rfl, h, Fr.rf⟩
  · (repeat' first | (refine And.intro (fun q => absurd q (by decide)) (fun _ => ?_)) | (refine And.intro (fun _ => ?_) (fun q => absurd q (by decide))) | fail)
    exact mm_wants_bad h (Or.inl c) ⟨rfl, h, Fr.rf⟩

theorem cs_port {d : Nat} {S : xS} {n : Nat} (h : IA n S) {x y : Int32} : CT (d + 3) 0 0 m_C_port [C0, .inl x, .inl y] S (fun r S1 => shI r (CT (d + 3) 0 0 m_M_port [M0, .inl x, .inl y] S1 (fun r' S2 => r' = r ∧ (IA n S2 ∧ (S2.1 1 0 2 = S.1 1 0 2 ∨ S2.1 1 0 2 = S.1 1 0 2 + 1)) ∧ Fr fPort S S2))) := by
  refine ct_of (xmok_all (by decide)) rfl ?_
  refine V_go (pc := 0) pk_71 [] 60 ?_
  refine ct_within (fun c1 c2 => ?_) (fun c => ?_)
  · (repeat' first | (refine And.intro (fun q => absurd q (by decide)) (fun _ => ?_)) | (refine And.intro (fun _ => ?_) (fun q => absurd q (by decide))) | fail)
    refine ct_within (fun c3 c4 => ?_) (fun c => ?_)
    · (repeat' first | (refine And.intro (fun q => absurd q (by decide)) (fun _ => ?_)) | (refine And.intro (fun _ => ?_) (fun q => absurd q (by decide))) | fail)
      have hs := h.1
      have h36 := h.2.1
      refine And.intro (fun c5 => ?_) (fun c5 => ?_)
      · have hs5 : S.1 1 0 2 ≤ 5 := by
          have := ltI c5
          rw [show (6 : Int32).toInt = 6 from rfl] at this
          exact Int32.le_iff_toInt_le.mpr (by rw [show (5 : Int32).toInt = 5 from rfl]; omega)
        refine ct_Sea_found (vin (m := 5) rfl hs.1 hs5) ?_
        have e36 : (sFound S x y).1 36 0 1 = S.1 1 0 2 := by unfold sFound; simp (decide := true) only [xu, true_and, false_and, and_true, and_false, if_true, if_false]; exact h36
        refine ct_M_port_ok c1 c2 c3 c4 (by rw [e36]; exact hs.1) (by rw [e36]; exact hs5) ?_
        refine ⟨by rw [e36], ?_, ?_⟩
        · exact ⟨h.port hs5 ⟨c1, c2⟩ ⟨c3, c4⟩, Or.inr (by unfold sMport; rw [e36]; unfold sFound; simp (decide := true) only [xu, true_and, false_and, and_true, and_false, if_true, if_false])⟩
        · unfold sMport sFound
          exact (((((((((((((Fr.rf.up rfl).up rfl).up rfl).up rfl).up rfl).up rfl).up rfl).up rfl).up rfl).up rfl).up rfl).up rfl).up rfl).up rfl
      · refine ct_of (xmok_all (by decide)) rfl ?_
        refine V_go (pc := 0) pk_118 [] 100 ?_
        refine ct_M_isIn32 (a := 0) (b := 99) rfl rfl (fun _ _ => ?_) (fun c => absurd ⟨c1, c2⟩ c)
        (repeat' first | (refine And.intro (fun q => absurd q (by decide)) (fun _ => ?_)) | (refine And.intro (fun _ => ?_) (fun q => absurd q (by decide))) | fail)
        refine ct_M_isIn32 (a := 0) (b := 99) rfl rfl (fun _ _ => ?_) (fun c => absurd ⟨c3, c4⟩ c)
        (repeat' first | (refine And.intro (fun q => absurd q (by decide)) (fun _ => ?_)) | (refine And.intro (fun _ => ?_) (fun q => absurd q (by decide))) | fail)
        have e6 : S.1 36 0 1 = 6 := by rw [h36]; exact Int32.le_antisymm hs.2 (Int32.not_lt.mp c5)
        refine And.intro (fun q => absurd e6 q) (fun _ => ?_)
        exact ⟨rfl, ⟨h, Or.inl rfl⟩, Fr.rf⟩
    · (repeat' first | (refine And.intro (fun q => absurd q (by decide)) (fun _ => ?_)) | (refine And.intro (fun _ => ?_) (fun q => absurd q (by decide))) | fail)
      exact mm_port_bad (Or.inr c) ⟨rfl, ⟨h, Or.inl rfl⟩, Fr.rf⟩
  · (repeat' first | (refine And.intro (fun q => absurd q (by decide)) (fun _ => ?_)) | (refine And.intro (fun _ => ?_) (fun q => absurd q (by decide))) | fail)
    exact mm_port_bad (Or.inl c) ⟨rfl, ⟨h, Or.inl rfl⟩, Fr.rf⟩

theorem cs_dhow {dp n np nd nv nt r t : Nat} {S : xS} (hN : IN np nd nv nt r t S) (hB : IB n np nd t S) {p h c : Int32} : CT (dp + 3) 0 0 m_C_dhow [C0, .inl p, .inl h, .inl c] S (fun a S1 => shI a (CT (dp + 3) 0 0 m_M_dhow [M0, .inl p, .inl h, .inl c] S1 (fun a' S2 => a' = a ∧ (∃ nd', nd ≤ nd' ∧ IN np nd' nv nt r t S2 ∧ IB n np nd' t S2) ∧ Fr (fl [13000, 13003, 13004, 1009, 43, 44, 45, 46, 47, 37008]) S S2))) := by
  obtain ⟨⟨b1, b2, b3⟩, ⟨e1, e2⟩, ⟨e3, e4⟩, e5⟩ := id hN
  refine ct_C_dhow e1 e3 b1 b2 (fun q => ?_) (fun q q4 => ?_) (fun q q4 => ?_)
  · exact ct_M_dhow e2 e4 b1 b2 (fun _ => ⟨rfl, ⟨nd, Nat.le_refl _, hN, hB⟩, Fr.rf⟩) (fun g => absurd g q) (fun g => absurd g q)
  · exact ct_M_dhow e2 e4 b1 b2 (fun g => absurd q g) (fun _ _ => ⟨rfl, ⟨nd, Nat.le_refl _, hN, hB⟩, Fr.rf⟩) (fun _ g => absurd g (by omega))
  · refine ct_M_dhow (np := np) (nd := nd) (by simp (decide := true) only [xu, true_and, false_and, and_true, and_false, if_true, if_false]; exact e2) (by simp (decide := true) only [xu, true_and, false_and, and_true, and_false, if_true, if_false]; exact e4) b1 b2 (fun g => absurd q g) (fun _ g => absurd g (by omega)) (fun _ _ => ⟨rfl, ⟨nd + 1, Nat.le_succ _, ?_, hB.dhow q4 q⟩, ?_⟩)
    · exact ⟨⟨b1, by omega, b3⟩, ⟨e1, e2⟩, ⟨rfl, rfl⟩, e5⟩
    · exact (((((((((Fr.rf.up rfl).up rfl).up rfl).up rfl).up rfl).up rfl).up rfl).up rfl).up rfl).up rfl

theorem cs_told {dp n np nd nv nt r t : Nat} {S : xS} (hN : IN np nd nv nt r t S) (hB : IB n np nd t S) {x w : Int32} : CT (dp + 3) 0 0 m_C_told [C0, .inl x, .inl w] S (fun a S1 => shI a (CT (dp + 3) 0 0 m_M_told [M0, .inl x, .inl w] S1 (fun a' S2 => a' = a ∧ S2 = S))) := by
  obtain ⟨⟨b1, b2, b3⟩, ⟨e1, e2⟩, ⟨e3, e4⟩, e5⟩ := id hN
  refine ct_C_told e3 b2 (fun q => ?_) (fun D hD q => ?_)
  · exact ct_M_told e4 b2 (fun _ => ⟨rfl, rfl⟩) (fun D hD g => absurd ⟨D, hD, g⟩ q)
  · refine ct_M_told e4 b2 (fun g => absurd ⟨D, hD, q⟩ g) (fun D' hD' g => ⟨?_, rfl⟩)
    obtain rfl : D' = D := (nI_eq (by omega) (by omega)).mp (g.symm.trans q)
    rw [told_eq ((hB D' (by omega)).1 hD')]
theorem cs_good {dp n np nd nv nt r t : Nat} {S : xS} (hN : IN np nd nv nt r t S) (hB : IB n np nd t S) {x w : Int32} : CT (dp + 3) 0 0 m_C_good [C0, .inl x, .inl w] S (fun a S1 => shI a (CT (dp + 3) 0 0 m_M_good [M0, .inl x, .inl w] S1 (fun a' S2 => a' = a ∧ S2 = S))) := by
  obtain ⟨⟨b1, b2, b3⟩, ⟨e1, e2⟩, ⟨e3, e4⟩, e5⟩ := id hN
  have mb : ¬ inC nd x ∨ ¬ inC 4 w → ∀ {Q : xQ}, Q (some (.inl (-2))) S → CT (dp + 3) 0 0 m_M_good [M0, .inl x, .inl w] S Q := by
    intro hb Q hq
    refine ct_of (xmok_all (by decide)) rfl (V_go (pc := 0) pk_133 [] 60 ?_)
    refine ct_M_isDhow e4 (by omega) (fun D hD q => ?_) (fun q => ?_)
    · (repeat' first | (refine And.intro (fun q => absurd q (by decide)) (fun _ => ?_)) | (refine And.intro (fun _ => ?_) (fun q => absurd q (by decide))) | fail)
      refine ct_M_good (fun G hG q2 => ?_) (fun q => ?_)
      · rcases hb with hb | hb
        · exact absurd ⟨D, hD, q⟩ hb
        · exact absurd ⟨G, hG, q2⟩ hb
      · (repeat' first | (refine And.intro (fun q => absurd q (by decide)) (fun _ => ?_)) | (refine And.intro (fun _ => ?_) (fun q => absurd q (by decide))) | fail)
        exact hq
    · (repeat' first | (refine And.intro (fun q => absurd q (by decide)) (fun _ => ?_)) | (refine And.intro (fun _ => ?_) (fun q => absurd q (by decide))) | fail)
      exact hq
  refine ct_of (xmok_all (by decide)) rfl (V_go (pc := 0) pk_84 [] 60 ?_)
  refine ct_C_isDhow e3 (by omega) (fun D hD q => ?_) (fun q => ?_)
  · (repeat' first | (refine And.intro (fun q => absurd q (by decide)) (fun _ => ?_)) | (refine And.intro (fun _ => ?_) (fun q => absurd q (by decide))) | fail)
    refine ct_C_good (fun G hG q2 => ?_) (fun q => ?_)
    · (repeat' first | (refine And.intro (fun q => absurd q (by decide)) (fun _ => ?_)) | (refine And.intro (fun _ => ?_) (fun q => absurd q (by decide))) | fail)
      subst q; subst q2
      have e : (nI D).toNatClampNeg = D := nI_clamp (by omega)
      have i4 := ix4 (a := D) (g := G) (N := 16) (by omega)
      refine And.intro (vi (N := 4) (by omega)) ?_
      refine And.intro (vi (N := 4) (by omega)) ?_
      refine ct_of (xmok_all (by decide)) rfl (V_go (pc := 0) pk_133 [] 60 ?_)
      refine ct_M_isDhow e4 (by omega) (fun _ _ _ => ?_) (fun q => absurd ⟨D, hD, rfl⟩ q)
      (repeat' first | (refine And.intro (fun q => absurd q (by decide)) (fun _ => ?_)) | (refine And.intro (fun _ => ?_) (fun q => absurd q (by decide))) | fail)
      refine ct_M_good (fun _ _ _ => ?_) (fun q => absurd ⟨G, hG, rfl⟩ q)
      (repeat' first | (refine And.intro (fun q => absurd q (by decide)) (fun _ => ?_)) | (refine And.intro (fun _ => ?_) (fun q => absurd q (by decide))) | fail)
      refine And.intro i4.2.1 ?_
      refine And.intro ?_ rfl
      show some (Sum.inl (S.1 50 0 (4 * nI D + nI G).toNatClampNeg)) = some (.inl (S.1 13 (nI D).toNatClampNeg (nI G).toNatClampNeg))
      obtain ⟨H, F, -, -, a9, -⟩ := ((hB D (by omega)).1 hD).2.2.2.1
      rw [i4.2.2, e, nI_clamp (show G < 2 ^ 31 by omega), (a9 G hG).1, (a9 G hG).2]
    · (repeat' first | (refine And.intro (fun q => absurd q (by decide)) (fun _ => ?_)) | (refine And.intro (fun _ => ?_) (fun q => absurd q (by decide))) | fail)
      exact mb (Or.inr q) ⟨rfl, rfl⟩
  · (repeat' first | (refine And.intro (fun q => absurd q (by decide)) (fun _ => ?_)) | (refine And.intro (fun _ => ?_) (fun q => absurd q (by decide))) | fail)
    exact mb (Or.inl q) ⟨rfl, rfl⟩

theorem cs_sell {dp n np nd nv nt r t : Nat} {S : xS} (hn : n ≤ 600) (hN : IN np nd nv nt r t S) (hA : IA n S) (hB : IB n np nd t S) {x g k : Int32} : CT (dp + 3) 0 0 m_C_sell [C0, .inl x, .inl g, .inl k] S (fun a S1 => shI a (CT (dp + 3) 0 0 m_M_sell [M0, .inl x, .inl g, .inl k] S1 (fun a' S2 => a' = a ∧ (IA (n + 1) S2 ∧ IB (n + 1) np nd t S2) ∧ Fr (fl [13004, 13, 7, 46, 50, 41]) S S2))) := by
  obtain ⟨⟨b1, b2, b3⟩, ⟨e1, e2⟩, ⟨e3, e4⟩, e5⟩ := id hN
  have keep : IA (n + 1) S ∧ IB (n + 1) np nd t S := ⟨hA.succ, hB.succ⟩
  have hl : ∀ D, D < nd → IBl n np t D S := fun D hD => (hB D (by omega)).1 hD
  have hPm : ∀ D, D < nd → mThere S D → inC 6 (S.1 43 0 D) := fun D hD q => by
    have := (hl D hD).P b1 ((there_eq (hl D hD) b1).mp q).1
    rw [this.2]; exact this.1
  refine ct_C_sell e3 b2 (fun D hD q => ((hl D hD).P b1 q).1) (fun q => ?_) (fun ok q => ?_) (fun ok q1 q2 => ?_)
  · exact ct_M_sell e4 b2 hPm (fun _ => ⟨rfl, keep, Fr.rf⟩) (fun ok => absurd ok q) (fun ok => absurd ok q)
  · have hb := hl _ ok.1.lt
    obtain ⟨H, G0, -, -, a11, -⟩ := hb.2.2.2.1
    have eg := a11 _ ok.2.1.lt
    refine ct_M_sell e4 b2 hPm (fun g => absurd ok g) (fun _ _ => ⟨rfl, keep, Fr.rf⟩) (fun _ g1 g2 => absurd ⟨(there_eq hb b1).mp g1, ?_⟩ q)
    rw [eg.1, ← eg.2]; exact g2
  · have hb := hl _ ok.1.lt
    have hG := ok.2.1.lt
    obtain ⟨hp, ep⟩ := hb.P b1 q1.1
    obtain ⟨H, G0, h99, eH, a11, a12⟩ := id hb.2.2.2.1
    obtain ⟨A, hA1, eA⟩ := hb.2.2.2.2.1
    have e46 : S.1 46 0 x.toNatClampNeg = nI A := hb.1.2.2.2.1.trans eA
    have eg := a11 _ hG
    have hGle : G0 g.toNatClampNeg ≤ 99 := by
      have : g.toNatClampNeg = 0 ∨ g.toNatClampNeg = 1 ∨ g.toNatClampNeg = 2 ∨ g.toNatClampNeg = 3 := by omega
      rcases this with e | e | e | e <;> rw [e] <;> omega
    rw [eg.1] at q2
    obtain ⟨K, k1, k2, rfl⟩ := inC_of_le ok.2.2 q2 (by omega)
    obtain ⟨c, c1, c2, ec⟩ := pr_b hA hn (P := (S.1 12 x.toNatClampNeg 0).toNatClampNeg) (G := g.toNatClampNeg) hp.lt hG
    rw [← ok.2.1.eq] at ec
    have em : mPrice S (S.1 43 0 x.toNatClampNeg) g = nI c := by
      have := pm_N hA (P := (S.1 12 x.toNatClampNeg 0).toNatClampNeg) (G := g.toNatClampNeg) hp.lt hG
      rw [← ok.2.1.eq, ← hp.eq, ec] at this
      rw [ep]; exact this
    have hKc : K * c ≤ 99 * 99 := Nat.mul_le_mul (by omega) c2
    rw [ec, eA, nI_mul, nI_add, eg.1, nI_sb k2 (by omega)]
    obtain ⟨l, hl1, el⟩ : ∃ l, l ≤ 99 * n ∧ S.1 7 (S.1 12 x.toNatClampNeg 0).toNatClampNeg g.toNatClampNeg = nI l := by
      obtain ⟨-, -, -, h4, -⟩ := id hA
      obtain ⟨-, -, -, a5, a6⟩ := h4 _ _ hp.lt hG
      obtain ⟨l, hl, el⟩ := nI_of (Int32.not_lt.mpr a5)
      rw [el, nI_toInt hl] at a6
      exact ⟨l, by omega, el⟩
    have el2 : S.1 41 0 (4 * (S.1 12 x.toNatClampNeg 0).toNatClampNeg + g.toNatClampNeg) = nI l := by
      obtain ⟨-, -, -, h4, -⟩ := id hA
      exact (h4 _ _ hp.lt hG).1.2.2.trans el
    rw [el, nI_add]
    refine ct_M_sell (nd := nd) e4 b2 hPm (fun g0 => absurd ok g0) (fun _ g0 => absurd ⟨(there_eq hb b1).mpr q1, (by show nI K ≤ S.1 50 0 _; rw [eg.2]; exact q2)⟩ g0) (fun _ g1 g2 => ?_)
    · show _ ∧ _ ∧ _
      refine ⟨?_, ?_, ?_⟩
      · show some (Sum.inl (S.1 46 0 x.toNatClampNeg + nI K * mPrice S (S.1 43 0 x.toNatClampNeg) g)) = _
        rw [em, e46, nI_mul, nI_add]
      · show IA (n + 1) (xupd (xupd (xupd (xupd (xupd (xupd S 12 x.toNatClampNeg 4 (nI (A + K * c))) 13 x.toNatClampNeg g.toNatClampNeg (nI (G0 g.toNatClampNeg - K))) 7 (S.1 12 x.toNatClampNeg 0).toNatClampNeg g.toNatClampNeg (nI (l + K))) 46 0 x.toNatClampNeg (S.1 46 0 x.toNatClampNeg + nI K * mPrice S (S.1 43 0 x.toNatClampNeg) g)) 50 0 (4 * x.toNatClampNeg + g.toNatClampNeg) (S.1 50 0 (4 * x.toNatClampNeg + g.toNatClampNeg) - nI K)) 41 0 (4 * (S.1 43 0 x.toNatClampNeg).toNatClampNeg + g.toNatClampNeg) (S.1 41 0 (4 * (S.1 43 0 x.toNatClampNeg).toNatClampNeg + g.toNatClampNeg) + nI K)) ∧ IB (n + 1) np nd t (xupd (xupd (xupd (xupd (xupd (xupd S 12 x.toNatClampNeg 4 (nI (A + K * c))) 13 x.toNatClampNeg g.toNatClampNeg (nI (G0 g.toNatClampNeg - K))) 7 (S.1 12 x.toNatClampNeg 0).toNatClampNeg g.toNatClampNeg (nI (l + K))) 46 0 x.toNatClampNeg (S.1 46 0 x.toNatClampNeg + nI K * mPrice S (S.1 43 0 x.toNatClampNeg) g)) 50 0 (4 * x.toNatClampNeg + g.toNatClampNeg) (S.1 50 0 (4 * x.toNatClampNeg + g.toNatClampNeg) - nI K)) 41 0 (4 * (S.1 43 0 x.toNatClampNeg).toNatClampNeg + g.toNatClampNeg) (S.1 41 0 (4 * (S.1 43 0 x.toNatClampNeg).toNatClampNeg + g.toNatClampNeg) + nI K))
        rw [em, e46, nI_mul, nI_add, eg.2, nI_sb k2 (by omega), ep, el2, nI_add]
        refine ⟨hA.landed hG (nI_pos' (by omega)) (by rw [nI_toInt (by omega)]; omega), hB.trade ok.1.lt b2 hG (by omega) (fun H' G' f1 f2 f3 f4 => Or.inl ?_)⟩
        have := f3 _ hG
        rw [eg.1] at this
        have h9 : G' g.toNatClampNeg ≤ 99 := by
          have : g.toNatClampNeg = 0 ∨ g.toNatClampNeg = 1 ∨ g.toNatClampNeg = 2 ∨ g.toNatClampNeg = 3 := by omega
          rcases this with e | e | e | e <;> rw [e] <;> omega
        have := (nI_eq (by omega) (by omega)).mp this
        omega
      · exact (((((Fr.rf.up rfl).up rfl).up rfl).up rfl).up rfl).up rfl

theorem cs_buy {dp n np nd nv nt r t : Nat} {S : xS} (hn : n ≤ 600) (hN : IN np nd nv nt r t S) (hA : IA n S) (hB : IB n np nd t S) {x g k : Int32} : CT (dp + 3) 0 0 m_C_buy [C0, .inl x, .inl g, .inl k] S (fun a S1 => shI a (CT (dp + 3) 0 0 m_M_buy [M0, .inl x, .inl g, .inl k] S1 (fun a' S2 => a' = a ∧ (IA (n + 1) S2 ∧ IB (n + 1) np nd t S2) ∧ Fr (fl [13004, 13, 7, 46, 50, 41]) S S2))) := by
  obtain ⟨⟨b1, b2, b3⟩, ⟨e1, e2⟩, ⟨e3, e4⟩, e5⟩ := id hN
  have keep : IA (n + 1) S ∧ IB (n + 1) np nd t S := ⟨hA.succ, hB.succ⟩
  have hl : ∀ D, D < nd → IBl n np t D S := fun D hD => (hB D (by omega)).1 hD
  have hPm : ∀ D, D < nd → mThere S D → inC 6 (S.1 43 0 D) := fun D hD q => by
    have := (hl D hD).P b1 ((there_eq (hl D hD) b1).mp q).1
    rw [this.2]; exact this.1
  have hpr : ∀ ok : okBuy nd x g k, cThere S x.toNatClampNeg → inC 6 (S.1 12 x.toNatClampNeg 0) ∧ S.1 43 0 x.toNatClampNeg = S.1 12 x.toNatClampNeg 0 ∧ mPrice S (S.1 43 0 x.toNatClampNeg) g = pPrice S (S.1 12 x.toNatClampNeg 0).toNatClampNeg g := fun ok q => by
    obtain ⟨hp, ep⟩ := (hl _ ok.1.lt).P b1 q.1
    have := pm_N hA (P := (S.1 12 x.toNatClampNeg 0).toNatClampNeg) (G := g.toNatClampNeg) hp.lt ok.2.1.lt
    rw [← ok.2.1.eq, ← hp.eq] at this
    exact ⟨hp, ep, by rw [ep]; exact this⟩
  refine ct_C_buy e3 b2 (fun D hD q => ((hl D hD).P b1 q).1) (fun q => ?_) (fun ok q => ?_) (fun ok q1 q2 q3 => ?_)
  · exact ct_M_buy e4 b2 hPm (fun _ => ⟨rfl, keep, Fr.rf⟩) (fun ok => absurd ok q) (fun ok => absurd ok q)
  · have hb := hl _ ok.1.lt
    refine ct_M_buy e4 b2 hPm (fun g => absurd ok g) (fun _ _ => ⟨rfl, keep, Fr.rf⟩) (fun _ g1 g2 g3 => absurd ?_ q)
    have th := (there_eq hb b1).mp g1
    rw [sum_eq hb, hb.1.2.2.1] at g2
    rw [(hpr ok th).2.2, hb.1.2.2.2.1] at g3
    exact ⟨th, g2, g3⟩
  · have hb := hl _ ok.1.lt
    have hG := ok.2.1.lt
    obtain ⟨hp, ep, em⟩ := hpr ok q1
    obtain ⟨H, G0, h99, eH, a11, a12⟩ := id hb.2.2.2.1
    obtain ⟨A, hA1, eA⟩ := hb.2.2.2.2.1
    have e46 : S.1 46 0 x.toNatClampNeg = nI A := hb.1.2.2.2.1.trans eA
    have eg := a11 _ hG
    have hGle : ∀ G', G' < 4 → G0 G' ≤ 99 := by
      intro G' h'
      have : G' = 0 ∨ G' = 1 ∨ G' = 2 ∨ G' = 3 := by omega
      rcases this with e | e | e | e <;> rw [e] <;> omega
    have hGle := hGle _ hG
    obtain ⟨K, k1, k2, rfl⟩ := ok.2.2
    obtain ⟨c, c1, c2, ec⟩ := pr_b hA hn (P := (S.1 12 x.toNatClampNeg 0).toNatClampNeg) (G := g.toNatClampNeg) hp.lt hG
    rw [← ok.2.1.eq] at ec
    have hKc : K * (c + 1) ≤ 99 * 100 := Nat.mul_le_mul (by omega) (by omega)
    have q3' := q3
    rw [ec, eA, nI_1, nI_mul, nI_leI (by omega) (by omega)] at q3'
    have q2' := q2
    rw [cSum_N (fun g hg => (a11 g hg).1), eH, nI_add, nI_leI (by omega) (by omega)] at q2'
    rw [ec, eA, nI_1, nI_mul, nI_sb q3' (by omega), eg.1, nI_add]
    obtain ⟨l, hl1, el⟩ : ∃ l, l ≤ 99 * n ∧ S.1 7 (S.1 12 x.toNatClampNeg 0).toNatClampNeg g.toNatClampNeg = nI l := by
      obtain ⟨-, -, -, h4, -⟩ := id hA
      obtain ⟨-, -, -, a5, a6⟩ := h4 _ _ hp.lt hG
      obtain ⟨l, hl, el⟩ := nI_of (Int32.not_lt.mpr a5)
      rw [el, nI_toInt hl] at a6
      exact ⟨l, by omega, el⟩
    have el2 : S.1 41 0 (4 * (S.1 12 x.toNatClampNeg 0).toNatClampNeg + g.toNatClampNeg) = nI l := by
      obtain ⟨-, -, -, h4, -⟩ := id hA
      exact (h4 _ _ hp.lt hG).1.2.2.trans el
    obtain ⟨l2, hl2, f1, f2⟩ : ∃ l2, l2 ≤ l ∧ mx0 (nI l - nI K) = nI l2 ∧ mLess (nI l) (nI K) = nI l2 := by
      unfold mx0 mLess
      by_cases h : l < K
      · refine ⟨0, by omega, ?_, ?_⟩
        · rw [if_neg (fun q => ?_)]
          · rfl
          · have := Int32.lt_iff_toInt_lt.mp q
            rw [sbI (by rw [nI_toInt (show l < 2 ^ 31 by omega), nI_toInt (show K < 2 ^ 31 by omega)]; omega) (by rw [nI_toInt (show l < 2 ^ 31 by omega), nI_toInt (show K < 2 ^ 31 by omega)]; omega), nI_toInt (show l < 2 ^ 31 by omega), nI_toInt (show K < 2 ^ 31 by omega), show (0 : Int32).toInt = 0 from rfl] at this
            omega
        · rw [if_pos (nI_lt h (by omega))]; rfl
      · refine ⟨l - K, by omega, ?_, ?_⟩
        · rw [nI_sb (by omega) (by omega)]
          by_cases h2 : 0 < l - K
          · exact if_pos (nI_lt (a := 0) h2 (by omega))
          · rw [show l - K = 0 by omega]; rfl
        · rw [if_neg (fun q => h ((nI_ltI (by omega) (by omega)).mp q)), nI_sb (by omega) (by omega)]
    rw [el, f1]
    refine ct_M_buy (nd := nd) e4 b2 hPm (fun g0 => absurd ok g0) (fun _ g0 => absurd ⟨(there_eq hb b1).mpr q1, ?_, ?_⟩ g0) (fun _ g1 g2 g3 => ?_)
    · refine ⟨?_, ?_, ?_⟩
      · show some (Sum.inl (S.1 46 0 x.toNatClampNeg - nI K * (mPrice S (S.1 43 0 x.toNatClampNeg) g + 1))) = _
        rw [em, ec, e46, nI_1, nI_mul, nI_sb q3' (by omega)]
      · show IA (n + 1) (xupd (xupd (xupd (xupd (xupd (xupd S 12 x.toNatClampNeg 4 (nI (A - K * (c + 1)))) 13 x.toNatClampNeg g.toNatClampNeg (nI (G0 g.toNatClampNeg + K))) 7 (S.1 12 x.toNatClampNeg 0).toNatClampNeg g.toNatClampNeg (nI l2)) 46 0 x.toNatClampNeg (S.1 46 0 x.toNatClampNeg - nI K * (mPrice S (S.1 43 0 x.toNatClampNeg) g + 1))) 50 0 (4 * x.toNatClampNeg + g.toNatClampNeg) (S.1 50 0 (4 * x.toNatClampNeg + g.toNatClampNeg) + nI K)) 41 0 (4 * (S.1 43 0 x.toNatClampNeg).toNatClampNeg + g.toNatClampNeg) (mLess (S.1 41 0 (4 * (S.1 43 0 x.toNatClampNeg).toNatClampNeg + g.toNatClampNeg)) (nI K))) ∧ IB (n + 1) np nd t (xupd (xupd (xupd (xupd (xupd (xupd S 12 x.toNatClampNeg 4 (nI (A - K * (c + 1)))) 13 x.toNatClampNeg g.toNatClampNeg (nI (G0 g.toNatClampNeg + K))) 7 (S.1 12 x.toNatClampNeg 0).toNatClampNeg g.toNatClampNeg (nI l2)) 46 0 x.toNatClampNeg (S.1 46 0 x.toNatClampNeg - nI K * (mPrice S (S.1 43 0 x.toNatClampNeg) g + 1))) 50 0 (4 * x.toNatClampNeg + g.toNatClampNeg) (S.1 50 0 (4 * x.toNatClampNeg + g.toNatClampNeg) + nI K)) 41 0 (4 * (S.1 43 0 x.toNatClampNeg).toNatClampNeg + g.toNatClampNeg) (mLess (S.1 41 0 (4 * (S.1 43 0 x.toNatClampNeg).toNatClampNeg + g.toNatClampNeg)) (nI K)))
        rw [em, ec, e46, nI_1, nI_mul, nI_sb q3' (by omega), eg.2, nI_add, ep, el2, f2]
        refine ⟨hA.landed hG (nI_pos' (by omega)) (by rw [nI_toInt (by omega)]; omega), hB.trade ok.1.lt b2 hG (by omega) (fun H' G' f1 f2 f3 f4 => Or.inr ?_)⟩
        have eH' := (nI_eq (by omega) (by omega)).mp (eH.symm.trans f1)
        have g4 : ∀ g, g < 4 → G' g = G0 g := fun g hg => by
          have h0 : G0 g ≤ 99 := by
            have : g = 0 ∨ g = 1 ∨ g = 2 ∨ g = 3 := by omega
            rcases this with e | e | e | e <;> rw [e] <;> omega
          have h1 : G' g ≤ 99 := by
            have : g = 0 ∨ g = 1 ∨ g = 2 ∨ g = 3 := by omega
            rcases this with e | e | e | e <;> rw [e] <;> omega
          exact (nI_eq (by omega) (by omega)).mp ((f3 g hg).symm.trans (a11 g hg).1)
        rw [g4 0 (by decide), g4 1 (by decide), g4 2 (by decide), g4 3 (by decide), g4 _ hG]
        omega
      · exact (((((Fr.rf.up rfl).up rfl).up rfl).up rfl).up rfl).up rfl
    · show mSum S _ + nI K ≤ S.1 45 0 _
      rw [sum_eq hb, hb.1.2.2.1]; exact q2
    · show nI K * (mPrice S (S.1 43 0 x.toNatClampNeg) g + 1) ≤ S.1 46 0 x.toNatClampNeg
      rw [em, hb.1.2.2.2.1]; exact q3

theorem cs_begin {dp n np nd nv nt r t : Nat} {S : xS} (hN : IN np nd nv nt r t S) (hB : IB n np nd t S) {x : Int32} : CT (dp + 3) 0 0 m_C_begin [C0, .inl x] S (fun a S1 => shI a (CT (dp + 3) 0 0 m_M_begin [M0, .inl x] S1 (fun a' S2 => a' = a ∧ IB n np nd t S2 ∧ Fr (fl [13006, 13007, 47, 48]) S S2))) := by
  obtain ⟨⟨b1, b2, b3⟩, ⟨e1, e2⟩, ⟨e3, e4⟩, -, -, -, e13, e14⟩ := id hN
  have hl : ∀ D, D < nd → IBl n np t D S := fun D hD => (hB D (by omega)).1 hD
  refine ct_C_begin e3 b2 (fun q => ?_) (fun hx q => ?_) (fun hx q1 q2 => ?_)
  · exact ct_M_begin e4 b2 (fun _ => ⟨rfl, hB, Fr.rf⟩) (fun ok => absurd ok q) (fun ok => absurd ok q)
  · have hb := hl _ hx.lt
    exact ct_M_begin e4 b2 (fun g => absurd hx g) (fun _ _ => ⟨rfl, hB, Fr.rf⟩) (fun _ g1 g2 => absurd ⟨(there_eq hb b1).mp g1, hb.1.2.2.2.2.1.symm.trans g2⟩ q)
  · have hb := hl _ hx.lt
    obtain ⟨A, hA1, eA⟩ := hb.2.2.2.2.1
    refine ct_M_begin (nd := nd) e4 b2 (fun g => absurd hx g) (fun _ g => absurd ⟨(there_eq hb b1).mpr q1, hb.1.2.2.2.2.1.trans q2⟩ g) (fun _ g1 g2 => ⟨?_, ?_, ?_⟩)
    · show some (Sum.inl (S.1 46 0 x.toNatClampNeg)) = _
      rw [hb.1.2.2.2.1]
    · show IB n np nd t (xupd (xupd (xupd (xupd S 12 x.toNatClampNeg 6 (S.1 12 x.toNatClampNeg 4)) 12 x.toNatClampNeg 7 (S.1 0 0 13)) 47 0 x.toNatClampNeg (S.1 46 0 x.toNatClampNeg)) 48 0 x.toNatClampNeg (S.1 36 0 0))
      rw [hb.1.2.2.2.1, eA, e13, e14]
      exact hB.stake hx.lt hA1 (Nat.le_refl t)
    · exact (((Fr.rf.up rfl).up rfl).up rfl).up rfl
theorem cs_way {dp n np nd nv nt r t : Nat} {S : xS} (hN : IN np nd nv nt r t S) (hA : IA n S) {a b y : Int32} : CT (dp + 3) 0 0 m_C_way [C0, .inl a, .inl b, .inl y] S (fun q S1 => shI q (CT (dp + 3) 0 0 m_M_way [M0, .inl a, .inl b, .inl y] S1 (fun q' S2 => q' = q ∧ S2 = S))) := by
  obtain ⟨⟨b1, b2, b3⟩, ⟨e1, e2⟩, -⟩ := id hN
  have mb : ¬ inC np a ∨ ¬ inC np b ∨ a = b ∨ ¬ inR 0 9999 y → ∀ {Q : xQ}, Q (some (.inl (-2))) S → CT (dp + 3) 0 0 m_M_way [M0, .inl a, .inl b, .inl y] S Q := by
    intro hb Q hq
    refine ct_of (xmok_all (by decide)) rfl (V_go (pc := 0) pk_127 [] 60 ?_)
    refine cM_isPort e2 (by omega) (fun h1 => ?_) (fun q => ?_)
    · (repeat' first | (refine And.intro (fun q => absurd q (by decide)) (fun _ => ?_)) | (refine And.intro (fun _ => ?_) (fun q => absurd q (by decide))) | fail)
      refine cM_isPort e2 (by omega) (fun h2 => ?_) (fun q => ?_)
      · (repeat' first | (refine And.intro (fun q => absurd q (by decide)) (fun _ => ?_)) | (refine And.intro (fun _ => ?_) (fun q => absurd q (by decide))) | fail)
        refine And.intro (fun _ => hq) (fun h3 => ?_)
        refine cM_w 0 9999 rfl rfl (by decide) (by decide) (fun h4 => ?_) (fun q => ?_)
        · rcases hb with hb | hb | hb | hb
          · exact absurd h1 hb
          · exact absurd h2 hb
          · exact absurd hb h3
          · exact absurd h4 hb
        · (repeat' first | (refine And.intro (fun q => absurd q (by decide)) (fun _ => ?_)) | (refine And.intro (fun _ => ?_) (fun q => absurd q (by decide))) | fail)
          exact hq
      · (repeat' first | (refine And.intro (fun q => absurd q (by decide)) (fun _ => ?_)) | (refine And.intro (fun _ => ?_) (fun q => absurd q (by decide))) | fail)
        exact hq
    · (repeat' first | (refine And.intro (fun q => absurd q (by decide)) (fun _ => ?_)) | (refine And.intro (fun _ => ?_) (fun q => absurd q (by decide))) | fail)
      exact hq
  refine ct_of (xmok_all (by decide)) rfl (V_go (pc := 0) pk_79 [] 60 ?_)
  refine cC_hasPort e1 (by omega) (fun h1 => ?_) (fun q => ?_)
  · (repeat' first | (refine And.intro (fun q => absurd q (by decide)) (fun _ => ?_)) | (refine And.intro (fun _ => ?_) (fun q => absurd q (by decide))) | fail)
    refine cC_hasPort e1 (by omega) (fun h2 => ?_) (fun q => ?_)
    · (repeat' first | (refine And.intro (fun q => absurd q (by decide)) (fun _ => ?_)) | (refine And.intro (fun _ => ?_) (fun q => absurd q (by decide))) | fail)
      refine And.intro (fun q => mb (Or.inr (Or.inr (Or.inl q))) ⟨rfl, rfl⟩) (fun h3 => ?_)
      refine cC_w 0 9999 rfl rfl (by decide) (by decide) (fun h4 => ?_) (fun q => ?_)
      · (repeat' first | (refine And.intro (fun q => absurd q (by decide)) (fun _ => ?_)) | (refine And.intro (fun _ => ?_) (fun q => absurd q (by decide))) | fail)
        obtain ⟨Y, y1, y2, rfl⟩ := h4
        obtain ⟨em, hm⟩ := mo_N (t := Y) (by omega)
        refine ct_crossing (h1.mono b1) (h2.mono b1) hm ?_
        refine ct_of (xmok_all (by decide)) rfl (V_go (pc := 0) pk_127 [] 60 ?_)
        refine cM_isPort e2 (by omega) (fun _ => ?_) (fun q => absurd h1 q)
        (repeat' first | (refine And.intro (fun q => absurd q (by decide)) (fun _ => ?_)) | (refine And.intro (fun _ => ?_) (fun q => absurd q (by decide))) | fail)
        refine cM_isPort e2 (by omega) (fun _ => ?_) (fun q => absurd h2 q)
        (repeat' first | (refine And.intro (fun q => absurd q (by decide)) (fun _ => ?_)) | (refine And.intro (fun _ => ?_) (fun q => absurd q (by decide))) | fail)
        refine And.intro (fun q => absurd q h3) (fun _ => ?_)
        refine cM_w 0 9999 rfl rfl (by decide) (by decide) (fun _ => ?_) (fun q => absurd ⟨Y, y1, y2, rfl⟩ q)
        (repeat' first | (refine And.intro (fun q => absurd q (by decide)) (fun _ => ?_)) | (refine And.intro (fun _ => ?_) (fun q => absurd q (by decide))) | fail)
        refine ct_wayOf (h1.mono b1) (h2.mono b1) hm ?_
        refine And.intro ?_ rfl
        rw [em]
        rcases way_eq hA (h1.mono b1).lt (h2.mono b1).lt (m := Y / 30 % 12) (by omega) with ⟨q1, q2⟩ | ⟨c, -, -, q1, q2⟩
        · rw [q1, q2]
        · rw [q1, q2]
      · (repeat' first | (refine And.intro (fun q => absurd q (by decide)) (fun _ => ?_)) | (refine And.intro (fun _ => ?_) (fun q => absurd q (by decide))) | fail)
        exact mb (Or.inr (Or.inr (Or.inr q))) ⟨rfl, rfl⟩
    · (repeat' first | (refine And.intro (fun q => absurd q (by decide)) (fun _ => ?_)) | (refine And.intro (fun _ => ?_) (fun q => absurd q (by decide))) | fail)
      exact mb (Or.inr (Or.inl q)) ⟨rfl, rfl⟩
  · (repeat' first | (refine And.intro (fun q => absurd q (by decide)) (fun _ => ?_)) | (refine And.intro (fun _ => ?_) (fun q => absurd q (by decide))) | fail)
    exact mb (Or.inl q) ⟨rfl, rfl⟩

theorem cs_venture {dp n np nd nv nt r t : Nat} {S : xS} (hn : n ≤ 600) (hN : IN np nd nv nt r t S) (hB : IB n np nd t S) (hD : ID nd nv S) {k x a p : Int32} : CT (dp + 3) 0 0 m_C_venture [C0, .inl k, .inl x, .inl a, .inl p] S (fun q S1 => shI q (CT (dp + 3) 0 0 m_M_venture [M0, .inl k, .inl x, .inl a, .inl p] S1 (fun q' S2 => q' = q ∧ (∃ nv', IN np nd nv' nt r t S2 ∧ IB (n + 1) np nd t S2 ∧ ID nd nv' S2) ∧ Fr (fl [16000, 16001, 16002, 16003, 16004, 13004, 1010, 46, 53, 54, 55, 56, 57, 37019]) S S2))) := by
  obtain ⟨⟨b1, b2, b3, b4, b5, b6⟩, ⟨e1, e2⟩, ⟨e3, e4⟩, ⟨e7, e8⟩, e9⟩ := id hN
  have keep : ∃ nv', IN np nd nv' nt r t S ∧ IB (n + 1) np nd t S ∧ ID nd nv' S := ⟨nv, hN, hB.succ, hD⟩
  have hl : ∀ D, D < nd → IBl n np t D S := fun D hD => (hB D (by omega)).1 hD
  have iff1 : okV nd k x a p → ((mThere S x.toNatClampNeg ∧ (k = 1 ∨ S.1 47 0 x.toNatClampNeg = -1) ∧ (¬ k = 2 ∨ a ≤ S.1 46 0 x.toNatClampNeg)) ↔ (cThere S x.toNatClampNeg ∧ (k = 1 ∨ S.1 12 x.toNatClampNeg 6 = -1) ∧ (¬ k = 2 ∨ a ≤ S.1 12 x.toNatClampNeg 4))) := fun ok => by
    have hb := hl _ ok.2.1.lt
    rw [there_eq hb b1, hb.1.2.2.2.2.1, hb.1.2.2.2.1]
  refine ct_C_venture e3 e7 b2 b3 (fun q => ?_) (fun ok q => ?_) (fun ok q q2 => ?_) (fun ok q q2 => ?_)
  · exact ct_M_venture e4 e8 b2 b3 (fun _ => ⟨rfl, keep, Fr.rf⟩) (fun g => absurd g q) (fun g => absurd g q) (fun g => absurd g q)
  · exact ct_M_venture e4 e8 b2 b3 (fun g => absurd ok g) (fun _ _ => ⟨rfl, keep, Fr.rf⟩) (fun _ g => absurd ((iff1 ok).mp g) q) (fun _ g => absurd ((iff1 ok).mp g) q)
  · exact ct_M_venture e4 e8 b2 b3 (fun g => absurd ok g) (fun _ g => absurd ((iff1 ok).mpr q) g) (fun _ _ _ => ⟨rfl, keep, Fr.rf⟩) (fun _ _ g => absurd g (by omega))
  · have hb := hl _ ok.2.1.lt
    obtain ⟨A, hA1, eA⟩ := hb.2.2.2.2.1
    have e46 : S.1 46 0 x.toNatClampNeg = nI A := hb.1.2.2.2.1.trans eA
    refine ct_M_venture (nd := nd) (nv := nv) (by exact e4) (by exact e8) b2 b3 (fun g => absurd ok g) (fun _ g => absurd ((iff1 ok).mpr q) g) (fun _ _ g => absurd g (by omega)) (fun _ _ _ => ⟨rfl, ⟨nv + 1, ?_, ?_, ?_⟩, ?_⟩)
    · exact ⟨⟨b1, b2, by omega, b4, b5, b6⟩, ⟨e1, e2⟩, ⟨e3, e4⟩, ⟨rfl, rfl⟩, e9⟩
    · obtain ⟨A', hA', eA'⟩ : ∃ A', A' ≤ 100000 * (n + 2) ∧ nI A + brV k a = nI A' := by
        obtain ⟨B, -, hB2, eB⟩ := ok.2.2.1
        unfold brV
        by_cases c : k = 1
        · exact ⟨A, by omega, by rw [if_pos c]; exact Int32.add_zero _⟩
        · by_cases c2 : k = 2
          · have := q.2.2.resolve_left (fun g => g c2)
            rw [eB, eA, nI_leI (by omega) (by omega)] at this
            exact ⟨A - B, by omega, by rw [if_neg c, if_pos c2, eB, nI_ng this (by omega)]⟩
          · exact ⟨A + B, by omega, by rw [if_neg c, if_neg c2, eB, nI_add]⟩
      have := hB.purse hA' ok.2.1.lt
      refine IB.fr (l := [16000, 16001, 16002, 16003, 16004, 1010, 53, 54, 55, 56, 57, 37019]) (S := xupd (xupd S 12 x.toNatClampNeg 4 (nI A')) 46 0 x.toNatClampNeg (nI A')) ?_ (by decide) this
      refine ⟨fun i j l hij => ?_, rfl⟩
      show (xupd (xupd (xupd (xupd (xupd (xupd (xupd (xupd (xupd (xupd (xupd (xupd (xupd (xupd S 15 nv 0 k) 15 nv 1 x) 15 nv 2 a) 15 nv 3 p) 15 nv 4 (owV k a (S.1 15 nv 4))) 12 x.toNatClampNeg 4 (S.1 12 x.toNatClampNeg 4 + brV k a)) 0 0 10 (nI (nv + 1))) 46 0 x.toNatClampNeg (brV k a + S.1 46 0 x.toNatClampNeg)) 53 0 nv k) 54 0 nv x) 55 0 nv a) 56 0 nv p) 57 0 nv (owV k a 0)) 36 0 19 (nI (nv + 1))).1 i j l = _
      rw [eA, e46, Int32.add_comm (brV k a) (nI A), eA']
      have hz : ∀ (k' j' : Nat), fl [16000, 16001, 16002, 16003, 16004, 1010, 53, 54, 55, 56, 57, 37019] k' j' = true → ¬ (i = k' ∧ l = j') := fun k' j' g q => by rw [q.1, q.2, g] at hij; cases hij
      have z1 := hz 15 0 rfl; have z2 := hz 15 1 rfl; have z3 := hz 15 2 rfl; have z4 := hz 15 3 rfl; have z5 := hz 15 4 rfl; have z6 := hz 0 10 rfl; have z7 := hz 53 nv rfl; have z8 := hz 54 nv rfl; have z9 := hz 55 nv rfl; have z10 := hz 56 nv rfl; have z11 := hz 57 nv rfl; have z12 := hz 36 19 rfl
      simp only [xu, ← and_assoc, z1, z2, z3, z4, z5, z6, z7, z8, z9, z10, z11, z12, false_and, if_false]
    · exact hD.venture q2 b2 ok
    · exact (((((((((((((Fr.rf.up rfl).up rfl).up rfl).up rfl).up rfl).up rfl).up rfl).up rfl).up rfl).up rfl).up rfl).up rfl).up rfl).up rfl

theorem cs_vtold {dp np nd nv nt r t : Nat} {S : xS} (hN : IN np nd nv nt r t S) (hD : ID nd nv S) {x w : Int32} : CT (dp + 3) 0 0 m_C_ventureTold [C0, .inl x, .inl w] S (fun a S1 => shI a (CT (dp + 3) 0 0 m_M_ventureTold [M0, .inl x, .inl w] S1 (fun a' S2 => a' = a ∧ S2 = S))) := by
  obtain ⟨⟨b1, b2, b3, b4, b5, b6⟩, ⟨e1, e2⟩, ⟨e3, e4⟩, ⟨e7, e8⟩, e9⟩ := id hN
  refine ct_C_vtold e7 b3 (fun q => ?_) (fun hx => ?_)
  · exact ct_M_vtold e8 b3 (fun _ => ⟨rfl, rfl⟩) (fun g => absurd g q)
  · refine ct_M_vtold e8 b3 (fun g => absurd hx g) (fun _ => ⟨?_, rfl⟩)
    obtain ⟨⟨a1, a2, a3, a4, a5, a6, a7⟩, -⟩ := (hD _ (by have := hx.lt; omega)).1 hx.lt
    unfold vC vM
    rw [a1, a2, a3, a4, a5, a6, a7]
theorem cs_on {dp n np nd nv nt r t : Nat} {S : xS} (hN : IN np nd nv nt r t S) (hB : IB n np nd t S) (hD : ID nd nv S) {v x : Int32} : CT (dp + 3) 0 0 m_C_on [C0, .inl v, .inl x] S (fun a S1 => shI a (CT (dp + 3) 0 0 m_M_on [M0, .inl v, .inl x] S1 (fun a' S2 => a' = a ∧ ID nd nv S2 ∧ Fr (fl [16001, 54]) S S2))) := by
  obtain ⟨⟨b1, b2, b3, b4, b5, b6⟩, ⟨e1, e2⟩, ⟨e3, e4⟩, ⟨e7, e8⟩, e9⟩ := id hN
  have mb : ¬ inC nv v ∨ ¬ inC nd x ∨ ¬ S.1 49 0 x.toNatClampNeg = 0 → ∀ {Q : xQ}, Q (some (.inl (-2))) S → CT (dp + 3) 0 0 m_M_on [M0, .inl v, .inl x] S Q := by
    intro hb Q hq
    refine ct_of (xmok_all (by decide)) rfl (V_go (pc := 0) pk_147 [] 60 ?_)
    refine cM_isVenture e8 (by omega) (fun h1 => ?_) (fun q => ?_)
    · (repeat' first | (refine And.intro (fun q => absurd q (by decide)) (fun _ => ?_)) | (refine And.intro (fun _ => ?_) (fun q => absurd q (by decide))) | fail)
      refine cM_isDhow e4 (by omega) (fun h2 => ?_) (fun q => ?_)
      · (repeat' first | (refine And.intro (fun q => absurd q (by decide)) (fun _ => ?_)) | (refine And.intro (fun _ => ?_) (fun q => absurd q (by decide))) | fail)
        refine And.intro (h2.vp (N := 4) b2) ?_
        refine And.intro (fun c => ?_) (fun _ => hq)
        rcases hb with hb | hb | hb
        · exact absurd h1 hb
        · exact absurd h2 hb
        · exact absurd c hb
      · (repeat' first | (refine And.intro (fun q => absurd q (by decide)) (fun _ => ?_)) | (refine And.intro (fun _ => ?_) (fun q => absurd q (by decide))) | fail)
        exact hq
    · (repeat' first | (refine And.intro (fun q => absurd q (by decide)) (fun _ => ?_)) | (refine And.intro (fun _ => ?_) (fun q => absurd q (by decide))) | fail)
      exact hq
  refine ct_of (xmok_all (by decide)) rfl (V_go (pc := 0) pk_96 [] 60 ?_)
  refine cC_isVenture e7 (by omega) (fun h1 => ?_) (fun q => ?_)
  · (repeat' first | (refine And.intro (fun q => absurd q (by decide)) (fun _ => ?_)) | (refine And.intro (fun _ => ?_) (fun q => absurd q (by decide))) | fail)
    refine cC_isDhow e3 (by omega) (fun h2 => ?_) (fun q => ?_)
    · (repeat' first | (refine And.intro (fun q => absurd q (by decide)) (fun _ => ?_)) | (refine And.intro (fun _ => ?_) (fun q => absurd q (by decide))) | fail)
      have h2v := h2.vp (N := 4) b2
      have h1v := h1.vp (N := 16) b3
      have hb := (hB _ (by have := h2.lt; omega)).1 h2.lt
      have hd := (hD _ (by have := h1.lt; omega)).1 h1.lt
      refine And.intro h2v ?_
      refine And.intro (fun c => ?_) (fun c => mb (Or.inr (Or.inr (fun q => c ?_))) ⟨rfl, hD, Fr.rf⟩)
      · refine And.intro h1v ?_
        have ms : ∀ {S' : xS} {Q : xQ}, S'.1 36 0 19 = nI nv → S'.1 36 0 8 = nI nd → S'.1 49 0 x.toNatClampNeg = 0 → (S'.1 54 0 v.toNatClampNeg = -1 → Q (some (.inl 1)) (xupd S' 54 0 v.toNatClampNeg x)) → (¬ S'.1 54 0 v.toNatClampNeg = -1 → Q (some (.inl (-3))) S') → CT (dp + 3) 0 0 m_M_on [M0, .inl v, .inl x] S' Q := by
          intro S' Q g1 g2 g3 q1 q2
          refine ct_of (xmok_all (by decide)) rfl (V_go (pc := 0) pk_147 [] 60 ?_)
          refine cM_isVenture g1 (by omega) (fun _ => ?_) (fun q => absurd h1 q)
          (repeat' first | (refine And.intro (fun q => absurd q (by decide)) (fun _ => ?_)) | (refine And.intro (fun _ => ?_) (fun q => absurd q (by decide))) | fail)
          refine cM_isDhow g2 (by omega) (fun _ => ?_) (fun q => absurd h2 q)
          (repeat' first | (refine And.intro (fun q => absurd q (by decide)) (fun _ => ?_)) | (refine And.intro (fun _ => ?_) (fun q => absurd q (by decide))) | fail)
          refine And.intro h2v ?_
          refine And.intro (fun _ => ?_) (fun c => absurd g3 c)
          refine And.intro h1v ?_
          refine And.intro (fun c => ?_) (fun c => q2 c)
          refine And.intro h1v ?_
          exact q1 c
        have w1 : ∀ {Q : xQ}, (S.1 15 v.toNatClampNeg 1 = -1 → Q (some (.inl 1)) S) → (¬ S.1 15 v.toNatClampNeg 1 = -1 → Q (some (.inl 0)) S) → CT (dp + 2) 0 0 m_Venture_waits [.inr (.inr (15, v.toNatClampNeg))] S Q := by
          intro Q q1 q0
          refine ct_of (xmok_all (by decide)) rfl (V_go (pc := 0) pk_67 [] 50 ?_)
          exact And.intro (fun c => And.intro (Or.inl rfl) (q0 c)) (fun c => And.intro (Or.inr rfl) (q1 c))
        have l0 : S.1 49 0 x.toNatClampNeg = 0 := hb.lost.trans c
        refine w1 (fun q => ?_) (fun q => ?_)
        · (repeat' first | (refine And.intro (fun q => absurd q (by decide)) (fun _ => ?_)) | (refine And.intro (fun _ => ?_) (fun q => absurd q (by decide))) | fail)
          refine ms (by exact e8) (by exact e4) (by exact l0) (fun _ => ⟨rfl, ?_, (Fr.rf.up rfl).up rfl⟩) (fun g => absurd (hd.1.2.1.trans q) g)
          rw [show x = nI x.toNatClampNeg from h2.eq]
          exact hD.on (V := v.toNatClampNeg) h2.lt
        · (repeat' first | (refine And.intro (fun q => absurd q (by decide)) (fun _ => ?_)) | (refine And.intro (fun _ => ?_) (fun q => absurd q (by decide))) | fail)
          exact ms e8 e4 l0 (fun g => absurd (hd.1.2.1.symm.trans g) q) (fun _ => ⟨rfl, hD, Fr.rf⟩)
      · exact hb.lost.symm.trans q
    · (repeat' first | (refine And.intro (fun q => absurd q (by decide)) (fun _ => ?_)) | (refine And.intro (fun _ => ?_) (fun q => absurd q (by decide))) | fail)
      exact mb (Or.inr (Or.inl q)) ⟨rfl, hD, Fr.rf⟩
  · (repeat' first | (refine And.intro (fun q => absurd q (by decide)) (fun _ => ?_)) | (refine And.intro (fun _ => ?_) (fun q => absurd q (by decide))) | fail)
    exact mb (Or.inl q) ⟨rfl, hD, Fr.rf⟩
theorem cs_force {dp np nd nv nt r t : Nat} {S : xS} (hN : IN np nd nv nt r t S) {x : Int32} : CT (dp + 3) 0 0 m_C_force [C0, .inl x] S (fun a S1 => shI a (CT (dp + 3) 0 0 m_M_force [M0, .inl x] S1 (fun a' S2 => a' = a ∧ (∃ r', IN np nd nv nt r' t S2) ∧ Fr (fl [1012, 37034]) S S2))) := by
  obtain ⟨⟨b1, b2, b3, b4, b5, b6⟩, ⟨e1, e2⟩, ⟨e3, e4⟩, ⟨e7, e8⟩, ⟨e9, e10⟩, ⟨e11, e12⟩, e13⟩ := id hN
  have mm : ∀ {S' : xS} {Q : xQ}, S'.1 36 0 33 = nI nt → (inC nt x → Q (some (.inl (S'.1 36 0 34))) (xupd S' 36 0 34 x)) → (¬ inC nt x → Q (some (.inl (-2))) S') → CT (dp + 3) 0 0 m_M_force [M0, .inl x] S' Q := by
    intro S' Q g q1 q0
    refine ct_of (xmok_all (by decide)) rfl (V_go (pc := 0) pk_174 [] 50 ?_)
    refine And.intro (fun c1 => q0 (fun g => ?_)) (fun c1 => And.intro (fun c2 => ?_) (fun c2 => q0 (fun g1 => ?_)))
    · exact absurd ((inC_iff (by omega)).mpr g).1 (Int32.not_le.mpr c1)
    · have c2 : x < S'.1 36 0 33 := c2
      rw [g] at c2
      exact q1 ((inC_iff (by omega)).mp ⟨Int32.not_lt.mp c1, c2⟩)
    · have c2 : ¬ x < S'.1 36 0 33 := c2
      rw [g] at c2; exact absurd ((inC_iff (by omega)).mpr g1).2 c2
  refine ct_of (xmok_all (by decide)) rfl (V_go (pc := 0) pk_105 [] 50 ?_)
  refine cC_isText e9 (by omega) (fun h1 => ?_) (fun q => ?_)
  · (repeat' first | (refine And.intro (fun q => absurd q (by decide)) (fun _ => ?_)) | (refine And.intro (fun _ => ?_) (fun q => absurd q (by decide))) | fail)
    refine mm (by exact e10) (fun _ => ⟨?_, ⟨x.toNatClampNeg, ?_⟩, (Fr.rf.up rfl).up rfl⟩) (fun g => absurd h1 g)
    · show some (Sum.inl (S.1 36 0 34)) = some (Sum.inl (S.1 0 0 12))
      rw [e11, e12]
    · exact ⟨⟨b1, b2, b3, b4, h1.lt, b6⟩, ⟨e1, e2⟩, ⟨e3, e4⟩, ⟨e7, e8⟩, ⟨e9, e10⟩, ⟨h1.eq, h1.eq⟩, e13⟩
  · (repeat' first | (refine And.intro (fun q => absurd q (by decide)) (fun _ => ?_)) | (refine And.intro (fun _ => ?_) (fun q => absurd q (by decide))) | fail)
    exact mm e10 (fun g => absurd g q) (fun _ => ⟨rfl, ⟨r, hN⟩, Fr.rf⟩)

theorem cs_sheet {dp : Nat} {S : xS} (hE : IE S) {x s n : Int32} : CT (dp + 3) 0 0 m_C_sheet [C0, .inl x, .inl s, .inl n] S (fun a S1 => shI a (CT (dp + 3) 0 0 m_M_sheet [M0, .inl x, .inl s, .inl n] S1 (fun a' S2 => a' = a ∧ IE S2 ∧ Fr (fl [22001, 22002, 22, 72, 73, 74]) S S2))) := by
  refine ct_C_sheet_ (fun q => ?_) (fun ok q => ?_) (fun ok q => ?_)
  · exact ct_M_sheet (fun _ => ⟨rfl, hE, Fr.rf⟩) (fun g => absurd g q) (fun g => absurd g q)
  · exact ct_M_sheet (fun g => absurd ok g) (fun _ _ => ⟨rfl, hE, Fr.rf⟩) (fun _ g => absurd q g)
  · refine ct_M_sheet (fun g => absurd ok g) (fun _ g => absurd g q) (fun _ _ => ⟨rfl, ?_, ?_⟩)
    · refine hE.sheet ok.1.lt ?_ ?_
      · by_cases c : s = -1
        · exact Or.inl c
        · have h0 : ¬ s < 0 := fun q => c ((ge_m1 ok.2.1.1).mp q)
          obtain ⟨j, hj, e⟩ := nI_of2 (M := 2) (n := 2) rfl h0 ok.2.1.2
          exact Or.inr ⟨j, hj, e⟩
      · unfold szS
        by_cases c : s = -1
        · exact ⟨0, by omega, by rw [if_pos c]; rfl⟩
        · rw [if_neg c]
          have h0 : ¬ n < 0 := fun g => q ⟨c, g⟩
          have h40 : n ≤ 40 := Int32.not_lt.mp (fun g => ok.2.2 ⟨c, g⟩)
          obtain ⟨j, hj, e⟩ := nI_of2 (M := 40) (n := 40) rfl h0 h40
          exact ⟨j, hj, e⟩
    · exact (((((Fr.rf.up rfl).up rfl).fill (fun _ => rfl)).up rfl).up rfl).fill (fun _ => rfl)

theorem cs_cell {dp : Nat} {S : xS} (hE : IE S) {x i v : Int32} : CT (dp + 3) 0 0 m_C_cell [C0, .inl x, .inl i, .inl v] S (fun a S1 => shI a (CT (dp + 3) 0 0 m_M_cell [M0, .inl x, .inl i, .inl v] S1 (fun a' S2 => a' = a ∧ IE S2 ∧ Fr (fl [22, 74]) S S2))) := by
  have mm : ∀ {S' : xS} {Q : xQ}, (¬ inC 4 x → Q (some (.inl (-2))) S') → (inC 4 x → S'.1 72 0 x.toNatClampNeg < 0 → Q (some (.inl (-11))) S') → (inC 4 x → ¬ S'.1 72 0 x.toNatClampNeg < 0 → ¬ (0 ≤ i ∧ i < S'.1 73 0 x.toNatClampNeg) → Q (some (.inl (-12))) S') → (inC 4 x → ¬ S'.1 72 0 x.toNatClampNeg < 0 → (0 ≤ i ∧ i < S'.1 73 0 x.toNatClampNeg) → vp_in (40 * x + i) 160 ∧ Q (some (.inl 1)) (xupd S' 74 0 (40 * x + i).toNatClampNeg (cV (S'.1 72 0 x.toNatClampNeg) v))) → CT (dp + 3) 0 0 m_M_cell [M0, .inl x, .inl i, .inl v] S' Q := by
    intro S' Q q1 q2 q3 q4
    refine ct_of (xmok_all (by decide)) rfl (V_go (pc := 0) pk_184 [] 60 ?_)
    refine cM_w 0 3 rfl rfl (by decide) (by decide) (fun h1 => ?_) (fun q => ?_)
    · (repeat' first | (refine And.intro (fun q => absurd q (by decide)) (fun _ => ?_)) | (refine And.intro (fun _ => ?_) (fun q => absurd q (by decide))) | fail)
      have h1 : inC 4 x := by
        obtain ⟨k, -, k2, k3⟩ := h1
        exact ⟨k, by omega, k3⟩
      have hv := h1.vp (N := 4) (by decide)
      refine And.intro hv ?_
      refine And.intro (fun c => ?_) (fun c => q2 h1 (Int32.not_le.mp c))
      have c := Int32.not_lt.mpr c
      refine And.intro (fun c2 => q3 h1 c (fun g => absurd g.1 (Int32.not_le.mpr c2))) (fun c2 => ?_)
      refine And.intro hv ?_
      refine And.intro (fun c3 => ?_) (fun c3 => q3 h1 c (fun g => c3 g.2))
      obtain ⟨iv, hq⟩ := q4 h1 c ⟨Int32.not_lt.mp c2, c3⟩
      unfold cV at hq
      refine And.intro hv ?_
      refine And.intro (fun c4 => ?_) (fun c4 => ?_)
      · rw [if_neg c4] at hq
        refine And.intro hv ?_
        refine And.intro (fun c5 => ?_) (fun c5 => ?_)
        · rw [if_neg c5] at hq
          exact And.intro iv hq
        · rw [if_pos c5] at hq
          exact And.intro iv hq
      · rw [if_pos c4] at hq
        exact And.intro iv hq
    · (repeat' first | (refine And.intro (fun q => absurd q (by decide)) (fun _ => ?_)) | (refine And.intro (fun _ => ?_) (fun q => absurd q (by decide))) | fail)
      refine q1 (fun g => q ?_)
      obtain ⟨k, k1, k2⟩ := g
      exact ⟨k, by omega, by omega, k2⟩
  refine ct_of (xmok_all (by decide)) rfl (V_go (pc := 0) pk_116 [] 60 ?_)
  refine cC_sheet (fun h1 => ?_) (fun q => ?_)
  · (repeat' first | (refine And.intro (fun q => absurd q (by decide)) (fun _ => ?_)) | (refine And.intro (fun _ => ?_) (fun q => absurd q (by decide))) | fail)
    have hv := h1.vp (N := 4) (by decide)
    obtain ⟨⟨a1, a2⟩, a3, ⟨c, hc, a4⟩, a5⟩ := hE _ h1.lt
    have lo : S.1 72 0 x.toNatClampNeg < 0 ↔ S.1 21 x.toNatClampNeg 1 = -1 := by
      rw [a1]
      rcases a3 with q | ⟨k, hk, q⟩
      · rw [q]; exact ⟨fun _ => rfl, fun _ => by decide⟩
      · rw [q]
        exact ⟨fun g => absurd (nI_pos' (by omega)) (Int32.not_le.mpr g), fun g => by rw [g]; decide⟩
    refine And.intro hv ?_
    refine ct_Sheet_missing (fun q => ?_) (fun q => ?_)
    · (repeat' first | (refine And.intro (fun q => absurd q (by decide)) (fun _ => ?_)) | (refine And.intro (fun _ => ?_) (fun q => absurd q (by decide))) | fail)
      exact mm (fun g => absurd h1 g) (fun _ _ => ⟨rfl, hE, Fr.rf⟩) (fun _ g => absurd (lo.mpr q) g) (fun _ g => absurd (lo.mpr q) g)
    · (repeat' first | (refine And.intro (fun q => absurd q (by decide)) (fun _ => ?_)) | (refine And.intro (fun _ => ?_) (fun q => absurd q (by decide))) | fail)
      have q72 : ¬ S.1 72 0 x.toNatClampNeg < 0 := fun g => q (lo.mp g)
      refine ct_Sheet_holds (fun g1 g2 => ?_) (fun g => ?_)
      · (repeat' first | (refine And.intro (fun q => absurd q (by decide)) (fun _ => ?_)) | (refine And.intro (fun _ => ?_) (fun q => absurd q (by decide))) | fail)
        have g2 : i ≤ S.1 21 x.toNatClampNeg 2 - 1 := g2
        rw [a4] at g2
        have hi := (inC_iff' (by omega)).mp ⟨g1, g2⟩
        refine ct_put (hi.vp hc) ?_
        refine mm (fun g => absurd h1 g) (fun _ g => absurd g q72) (fun _ _ g => absurd ⟨g1, ?_⟩ g) (fun _ _ _ => ?_)
        · have hX := h1.lt
          have hI := hi.lt
          have ex : (40 : Int32) * x + i = nI (40 * x.toNatClampNeg + i.toNatClampNeg) := by rw [show (40 : Int32) * x + i = 40 * nI x.toNatClampNeg + nI i.toNatClampNeg by rw [← h1.eq, ← hi.eq], show (40 : Int32) = nI 40 from rfl, nI_mul, nI_add]
          rw [ex, nI_clamp (by omega)]
          refine ⟨vi (by omega), rfl, ?_, (Fr.rf.up rfl).up rfl⟩
          show IE (xupd (xupd S 22 x.toNatClampNeg i.toNatClampNeg (cV (S.1 21 x.toNatClampNeg 1) v)) 74 0 (40 * x.toNatClampNeg + i.toNatClampNeg) (cV (S.1 72 0 x.toNatClampNeg) v))
          rw [a1]
          exact hE.cell (by omega)
        · show i < S.1 73 0 x.toNatClampNeg
          rw [a2, a4]; exact ((inC_iff (by omega)).mpr hi).2
      · (repeat' first | (refine And.intro (fun q => absurd q (by decide)) (fun _ => ?_)) | (refine And.intro (fun _ => ?_) (fun q => absurd q (by decide))) | fail)
        refine mm (fun g => absurd h1 g) (fun _ g => absurd g q72) (fun _ _ _ => ⟨rfl, hE, Fr.rf⟩) (fun _ _ g0 => absurd ?_ g)
        have g0' : i < S.1 73 0 x.toNatClampNeg := g0.2
        rw [a2, a4] at g0'
        show 0 ≤ i ∧ i ≤ S.1 21 x.toNatClampNeg 2 - 1
        rw [a4]
        exact (inC_iff' (by omega)).mpr ((inC_iff (by omega)).mp ⟨g0.1, g0'⟩)
  · (repeat' first | (refine And.intro (fun q => absurd q (by decide)) (fun _ => ?_)) | (refine And.intro (fun _ => ?_) (fun q => absurd q (by decide))) | fail)
    exact mm (fun _ => ⟨rfl, hE, Fr.rf⟩) (fun g => absurd g q) (fun g => absurd g q) (fun g => absurd g q)

theorem cs_count {dp n np nd nv nt r t nb : Nat} {S : xS} (hN : IN np nd nv nt r t S) (hB : IB n np nd t S) (hD : ID nd nv S) (hF : IF nb S) {w : Int32} : CT (dp + 3) 0 0 m_C_count [C0, .inl w] S (fun a S1 => shI a (CT (dp + 3) 0 0 m_M_count [M0, .inl w] S1 (fun a' S2 => a' = a ∧ S2 = S))) := by
  obtain ⟨⟨b1, b2, b3, b4, b5, b6⟩, ⟨e1, e2⟩, ⟨e3, e4⟩, ⟨e7, e8⟩, ⟨e9, e10⟩, ⟨e11, e12⟩, e13, e14⟩ := id hN
  refine ct_C_count e3 e7 b2 b3 (ct_M_count e4 e8 b2 b3 ⟨?_, rfl⟩)
  unfold kC kM
  rw [e1, e2, e3, e4, e7, e8, e9, e10, e11, e12, e13, e14, hF.2.1, hF.2.2.1, cnt_eq (f := fun i => S.1 49 0 i) (g := fun i => S.1 12 i 2) (fun i hi => ((hB i (by omega)).1 hi).lost), cnt_eq (f := fun i => S.1 58 0 i) (g := fun i => S.1 15 i 7) (fun i hi => ((hD i (by omega)).1 hi).1.2.2.2.2.2.2)]

theorem cs_taken {dp np nd nv nt r t : Nat} {S : xS} (hN : IN np nd nv nt r t S) (hD : ID nd nv S) (hK : IK S) {x k : Int32} : CT (dp + 3) 0 0 m_C_taken [C0, .inl x, .inl k] S (fun a S1 => shI a (CT (dp + 3) 0 0 m_M_taken [M0, .inl x, .inl k] S1 (fun a' S2 => a' = a ∧ S2 = S))) := by
  obtain ⟨⟨b1, b2, b3, b4, b5, b6⟩, ⟨e1, e2⟩, ⟨e3, e4⟩, ⟨e7, e8⟩, e9⟩ := id hN
  refine ct_of (xmok_all (by decide)) rfl (V_go (pc := 0) pk_117 [] 60 ?_)
  refine cC_w 0 5 rfl rfl (by decide) (by decide) (fun g1 => ?_) (fun q => ?_)
  · (repeat' first | (refine And.intro (fun q => absurd q (by decide)) (fun _ => ?_)) | (refine And.intro (fun _ => ?_) (fun q => absurd q (by decide))) | fail)
    refine cC_isVenture e7 (by omega) (fun g2 => ?_) (fun q => ?_)
    · (repeat' first | (refine And.intro (fun q => absurd q (by decide)) (fun _ => ?_)) | (refine And.intro (fun _ => ?_) (fun q => absurd q (by decide))) | fail)
      have hv := g2.vp (N := 16) b3
      obtain ⟨⟨a1, -, a3, -⟩, ⟨K, hK6, eK⟩, -⟩ := (hD _ (by have := g2.lt; omega)).1 g2.lt
      have em : isM (S.1 53 0 x.toNatClampNeg) k = ofK K k := by
        obtain ⟨k', -, k2, rfl⟩ := id g1
        rw [a1, eK]
        exact ofK_isM K hK6 k' (by omega)
      refine And.intro hv ?_
      refine ct_isOfKind hK eK hK6 (fun q => ?_) (fun q => ?_)
      · (repeat' first | (refine And.intro (fun q => absurd q (by decide)) (fun _ => ?_)) | (refine And.intro (fun _ => ?_) (fun q => absurd q (by decide))) | fail)
        refine And.intro hv ?_
        exact ct_M_taken e8 b3 (fun g => absurd g1 g) (fun _ g => absurd g2 g) (fun _ _ _ => ⟨by rw [a3], rfl⟩) (fun _ _ g => by rw [em, q] at g; cases g)
      · (repeat' first | (refine And.intro (fun q => absurd q (by decide)) (fun _ => ?_)) | (refine And.intro (fun _ => ?_) (fun q => absurd q (by decide))) | fail)
        exact ct_M_taken e8 b3 (fun g => absurd g1 g) (fun _ g => absurd g2 g) (fun _ _ g => by rw [em, q] at g; cases g) (fun _ _ _ => ⟨rfl, rfl⟩)
    · (repeat' first | (refine And.intro (fun q => absurd q (by decide)) (fun _ => ?_)) | (refine And.intro (fun _ => ?_) (fun q => absurd q (by decide))) | fail)
      exact ct_M_taken e8 b3 (fun g => absurd g1 g) (fun _ _ => ⟨rfl, rfl⟩) (fun _ g => absurd g q) (fun _ g => absurd g q)
  · (repeat' first | (refine And.intro (fun q => absurd q (by decide)) (fun _ => ?_)) | (refine And.intro (fun _ => ?_) (fun q => absurd q (by decide))) | fail)
    exact ct_M_taken e8 b3 (fun _ => ⟨rfl, rfl⟩) (fun g => absurd g q) (fun g => absurd g q) (fun g => absurd g q)

theorem cs_feed {dp nb : Nat} {S : xS} (hF : IF nb S) {k : Int32} {w : Int64} : CT (dp + 3) 0 0 m_C_feed [C0, .inl k, .inr (.inl w)] S (fun a S1 => shI a (CT (dp + 3) 0 0 m_M_feed [M0, .inl k, .inr (.inl w)] S1 (fun a' S2 => a' = a ∧ (∃ nb', IF nb' S2) ∧ Fr (fl [24, 24001, 61, 37032]) S S2))) := by
  obtain ⟨a1, a2, a3, a4⟩ := id hF
  refine ct_C_feed a2 a1 (fun q => ?_) (fun q q2 => ?_) (fun q q2 => ?_)
  · exact ct_M_feed a3 a1 (fun _ => ⟨rfl, ⟨nb, hF⟩, Fr.rf⟩) (fun g => absurd g q) (fun g => absurd g q)
  · exact ct_M_feed a3 a1 (fun g => absurd q g) (fun _ _ => ⟨rfl, ⟨nb, hF⟩, Fr.rf⟩) (fun _ g => absurd g (by omega))
  · have f1 := fdC_fr S nb (bv w) k.toNatClampNeg
    have e36 : (fdC S nb (bv w) k.toNatClampNeg).1 36 0 32 = nI nb := (f1.1 36 0 32 rfl).trans a3
    refine ct_M_feed e36 a1 (fun g => absurd q g) (fun _ g => absurd g (by omega)) (fun _ g => ⟨rfl, ⟨nb + k.toNatClampNeg, ?_⟩, ?_⟩)
    · generalize k.toNatClampNeg = K at q2 f1 e36
      have f2 := fdM_fr (fdC S nb (bv w) K) nb (bv w) K
      refine ⟨q2, (f2.1 23 0 1 rfl).trans (fdC_n a2 K), fdM_n e36 K, fun i hi => ?_⟩
      rw [fdM_at, f2.1 24 0 i rfl, fdC_at, f1.1 61 0 i rfl]
      by_cases h : nb ≤ i ∧ i < nb + K
      · rw [if_pos h, if_pos h]
        exact ⟨rfl, bv_b w _⟩
      · rw [if_neg h, if_neg h]
        exact a4 i (by omega)
    · exact (f1.wk (by decide)).tr ((fdM_fr _ nb (bv w) k.toNatClampNeg).wk (by decide))

theorem cs_winds {dp n : Nat} {S : xS} (hA : IA n S) (hE : IE S) {x s f k : Int32} : CT (dp + 3) 0 0 m_C_winds [C0, .inl x, .inl s, .inl f, .inl k] S (fun a S1 => shI a (CT (dp + 3) 0 0 m_M_winds [M0, .inl x, .inl s, .inl f, .inl k] S1 (fun a' S2 => a' = a ∧ IA n S2 ∧ Fr (fl [3, 42]) S S2))) := by
  by_cases hx : inC 4 x
  case neg =>
    exact ct_C_winds (z := 0) (by decide) (fun _ => ct_M_winds (z := 0) (by decide) (fun _ => ⟨rfl, hA, Fr.rf⟩) (fun g => absurd g.1 hx) (fun g => absurd g.1 hx) (fun g => absurd g.1 hx) (fun g => absurd g.1 hx) (fun g => absurd g.1 hx)) (fun g => absurd g.1 hx) (fun g => absurd g.1 hx) (fun g => absurd g.1 hx) (fun g => absurd g.1 hx) (fun g => absurd g.1 hx)
  case pos =>
    obtain ⟨⟨a1, a2⟩, a3, ⟨z, hz, a4⟩, a5⟩ := hE _ hx.lt
    have lo : S.1 72 0 x.toNatClampNeg < 0 ↔ S.1 21 x.toNatClampNeg 1 = -1 := by
      rw [a1]
      rcases a3 with q | ⟨k, hk, q⟩
      · rw [q]; exact ⟨fun _ => rfl, fun _ => by decide⟩
      · rw [q]
        exact ⟨fun g => absurd (nI_pos' (by omega)) (Int32.not_le.mpr g), fun g => by rw [g]; decide⟩
    have rel : ∀ m, m ≤ 12 → (∀ j, j < m → inC z (f + nI j)) → IA n (wdM (wdC S x.toNatClampNeg f m) x.toNatClampNeg f m) ∧ Fr (fl [3, 42]) S (wdM (wdC S x.toNatClampNeg f m) x.toNatClampNeg f m) := by
      intro m hm hi
      have f1 := wdC_fr S x.toNatClampNeg f m
      have f2 := wdM_fr (wdC S x.toNatClampNeg f m) x.toNatClampNeg f m
      have fr := (f1.wk (l' := [3, 42]) (by decide)).tr (f2.wk (l' := [3, 42]) (by decide))
      refine ⟨?_, fr⟩
      have off : ∀ k i j, fl [3, 42] k j = false → (wdM (wdC S x.toNatClampNeg f m) x.toNatClampNeg f m).1 k i j = S.1 k i j := fr.1
      obtain ⟨h1, h2, h3, h4, h5⟩ := hA
      refine ⟨?_, ?_, fun p hp => ?_, fun p g hp hg => ?_, fun j hj => ?_⟩
      · rw [off 1 0 2 rfl]; exact h1
      · rw [off 1 0 2 rfl, off 36 0 1 rfl]; exact h2
      · rw [off 37 0 p rfl, off 38 0 p rfl, off 4 p 0 rfl, off 4 p 1 rfl]; exact h3 p hp
      · rw [off 39 0 _ rfl, off 40 0 _ rfl, off 41 0 _ rfl, off 5 p g rfl, off 6 p g rfl, off 7 p g rfl]; exact h4 p g hp hg
      · rw [f2.1 3 0 j rfl, wdM_at, wdC_at, f1.1 42 0 j rfl, f1.1 74 0 _ rfl]
        by_cases hjm : j < m
        · have hc := hi j hjm
          have := hc.lt
          rw [if_pos hjm, if_pos hjm, a5 _ (by omega), (cl_eq _).1]
          exact ⟨rfl, (cl_eq _).2⟩
        · rw [if_neg hjm, if_neg hjm]
          exact h5 j hj
    have kle : okW x s k → k.toNatClampNeg ≤ 12 := fun ok => by
      obtain ⟨K, -, k2, rfl⟩ := ok.2.2
      rw [nI_clamp (by omega)]; exact k2
    have s0 : okW x s k → ¬ s = -1 := fun ok q => by
      obtain ⟨a, -, a2, rfl⟩ := ok.2.1
      have := congrArg Int32.toInt q
      rw [nI_toInt (by omega), show (-1 : Int32).toInt = -1 from rfl] at this
      omega
    refine ct_C_winds (z := z) hz (fun q => ?_) (fun ok q q2 => ?_) (fun ok q => ?_) (fun _ => a4) (fun ok q m hm hi hn => ?_) (fun ok q hi => ?_)
    · exact ct_M_winds (z := z) hz (fun _ => ⟨rfl, hA, Fr.rf⟩) (fun g => absurd g q) (fun g => absurd g q) (fun g => absurd g q) (fun g => absurd g q) (fun g => absurd g q)
    · exact ct_M_winds (z := z) hz (fun g => absurd ok g) (fun _ g => absurd (lo.mp g) q) (fun _ _ _ => ⟨rfl, hA, Fr.rf⟩) (fun _ => a2.trans a4) (fun _ g => absurd (a1.symm.trans g) q2) (fun _ g => absurd (a1.symm.trans g) q2)
    · exact ct_M_winds (z := z) hz (fun g => absurd ok g) (fun _ _ => ⟨rfl, hA, Fr.rf⟩) (fun _ g => absurd (lo.mpr q) g) (fun _ => a2.trans a4) (fun _ g => absurd ((g.symm.trans a1).trans q) (s0 ok)) (fun _ g => absurd ((g.symm.trans a1).trans q) (s0 ok))
    · have f1 := wdC_fr S x.toNatClampNeg f m
      have r72 : (wdC S x.toNatClampNeg f m).1 72 0 x.toNatClampNeg = s := ((f1.1 72 0 _ rfl).trans a1).trans q
      have r73 : (wdC S x.toNatClampNeg f m).1 73 0 x.toNatClampNeg = nI z := ((f1.1 73 0 _ rfl).trans a2).trans a4
      refine ct_M_winds (z := z) hz (fun g => absurd ok g) (fun _ g => ?_) (fun _ _ g => absurd r72 g) (fun _ => r73) (fun _ _ m' hm' hi' hn' => ?_) (fun _ _ g => absurd (g m hm) hn)
      · rw [f1.1 72 0 _ rfl] at g
        exact absurd (q.symm.trans (lo.mp g)) (s0 ok)
      · obtain rfl : m' = m := by
          rcases Nat.lt_trichotomy m' m with g | g | g
          · exact absurd (hi m' g) hn'
          · exact g
          · exact absurd (hi' m g) hn
        exact ⟨rfl, rel m' (by have := kle ok; omega) hi⟩
    · have f1 := wdC_fr S x.toNatClampNeg f k.toNatClampNeg
      have r72 : (wdC S x.toNatClampNeg f k.toNatClampNeg).1 72 0 x.toNatClampNeg = s := ((f1.1 72 0 _ rfl).trans a1).trans q
      have r73 : (wdC S x.toNatClampNeg f k.toNatClampNeg).1 73 0 x.toNatClampNeg = nI z := ((f1.1 73 0 _ rfl).trans a2).trans a4
      refine ct_M_winds (z := z) hz (fun g => absurd ok g) (fun _ g => ?_) (fun _ _ g => absurd r72 g) (fun _ => r73) (fun _ _ m' hm' _ hn' => absurd (hi m' hm') hn') (fun _ _ _ => ⟨rfl, rel _ (kle ok) hi⟩)
      rw [f1.1 72 0 _ rfl] at g
      exact absurd (q.symm.trans (lo.mp g)) (s0 ok)

theorem cs_sail {dp n np nd nv nt r t : Nat} {S : xS} (hn : n ≤ 600) (hN : IN np nd nv nt r t S) (hA : IA n S) (hB : IB n np nd t S) (hC : IC np t S) {x p : Int32} : CT (dp + 5) 0 0 m_C_sail [C0, .inl x, .inl p] S (fun a S1 => shI a (CT (dp + 5) 0 0 m_M_sail [M0, .inl x, .inl p] S1 (fun a' S2 => a' = a ∧ (IB n np nd t S2 ∧ IC np t S2) ∧ Fr (fl [9, 10, 13000, 13001, 51, 52, 43, 44]) S S2))) := by
  obtain ⟨⟨b1, b2, b3, b4, b5, b6⟩, ⟨e1, e2⟩, ⟨e3, e4⟩, e7, e9, e11, e13, e14⟩ := id hN
  have hl : ∀ D, D < nd → IBl n np t D S := fun D hD => (hB D (by omega)).1 hD
  -- the model, from any store like S on its side
  have mm : ∀ {S' : xS} {Q : xQ}, (∀ k i j, 36 ≤ k → k ≤ 74 → S'.1 k i j = S.1 k i j) → (¬ okSail np nd S x p → Q (some (.inl (-2))) S') → (okSail np nd S x p → ¬ cThere S x.toNatClampNeg → Q (some (.inl (-3))) S') → (okSail np nd S x p → cThere S x.toNatClampNeg → mWay S (S.1 12 x.toNatClampNeg 0).toNatClampNeg p.toNatClampNeg (t / 30 % 12) = -1 → Q (some (.inl (-3))) S') → (okSail np nd S x p → cThere S x.toNatClampNeg → ¬ mWay S (S.1 12 x.toNatClampNeg 0).toNatClampNeg p.toNatClampNeg (t / 30 % 12) = -1 → Q (some (.inl (nI t + mWay S (S.1 12 x.toNatClampNeg 0).toNatClampNeg p.toNatClampNeg (t / 30 % 12)))) (xupd (xupd (tkM (knM S' (S.1 12 x.toNatClampNeg 0).toNatClampNeg) (S.1 12 x.toNatClampNeg 0).toNatClampNeg x.toNatClampNeg np) 43 0 x.toNatClampNeg p) 44 0 x.toNatClampNeg (nI t + mWay S (S.1 12 x.toNatClampNeg 0).toNatClampNeg p.toNatClampNeg (t / 30 % 12)))) → CT (dp + 5) 0 0 m_M_sail [M0, .inl x, .inl p] S' Q := by
    intro S' Q hS q1 q2 q3 q4
    have f8 : S'.1 36 0 8 = nI nd := (hS 36 0 8 (by decide) (by decide)).trans e4
    have f1 : S'.1 36 0 1 = nI np := (hS 36 0 1 (by decide) (by decide)).trans e2
    have f0 : S'.1 36 0 0 = nI t := (hS 36 0 0 (by decide) (by decide)).trans e14
    have f49 : ∀ D, S'.1 49 0 D = S.1 49 0 D := fun D => hS 49 0 D (by decide) (by decide)
    have f44 : ∀ D, S'.1 44 0 D = S.1 44 0 D := fun D => hS 44 0 D (by decide) (by decide)
    have f43 : ∀ D, S'.1 43 0 D = S.1 43 0 D := fun D => hS 43 0 D (by decide) (by decide)
    refine ct_of (xmok_all (by decide)) rfl (V_go (pc := 0) pk_137 [48] 40 ?_)
    refine cM_isDhow f8 (by omega) (fun hx => ?_) (fun q => ?_)
    · (repeat' first | (refine And.intro (fun q => absurd q (by decide)) (fun _ => ?_)) | (refine And.intro (fun _ => ?_) (fun q => absurd q (by decide))) | fail)
      refine cM_isPort f1 (by omega) (fun hp => ?_) (fun q => ?_)
      · (repeat' first | (refine And.intro (fun q => absurd q (by decide)) (fun _ => ?_)) | (refine And.intro (fun _ => ?_) (fun q => absurd q (by decide))) | fail)
        have hb := hl _ hx.lt
        have hx4 := hx.vp (N := 4) b2
        have rest : ¬ (cThere S x.toNatClampNeg ∧ S.1 12 x.toNatClampNeg 0 = p) → V (dp + 5) 0 0 m_M_sail 48 [some M0, some (.inl x), some (.inl p), none] [] S' Q := by
          intro nn
          have ok : okSail np nd S x p := ⟨hx, hp, nn⟩
          refine V_go pk_137 [] 60 ?_
          refine cM_isThere (hx.mono b2) (fun p1 p2 => ?_) (fun q => ?_)
          · (repeat' first | (refine And.intro (fun q => absurd q (by decide)) (fun _ => ?_)) | (refine And.intro (fun _ => ?_) (fun q => absurd q (by decide))) | fail)
            have th : cThere S x.toNatClampNeg := (there_eq hb b1).mp ⟨(f49 _).symm.trans p1, (f44 _).symm.trans p2⟩
            obtain ⟨hp12, ep⟩ := hb.P b1 th.1
            have e43 : S'.1 43 0 x.toNatClampNeg = S.1 12 x.toNatClampNeg 0 := (f43 _).trans ep
            obtain ⟨em, hm⟩ := mo_N (t := t) (by omega)
            have ew : mWay S' (S'.1 43 0 x.toNatClampNeg).toNatClampNeg p.toNatClampNeg (mo (S'.1 36 0 0)) = mWay S (S.1 12 x.toNatClampNeg 0).toNatClampNeg p.toNatClampNeg (t / 30 % 12) := by
              rw [e43, f0, em]
              unfold mWay
              simp only [fun j => hS 37 0 j (by decide) (by decide), fun j => hS 38 0 j (by decide) (by decide), fun j => hS 42 0 j (by decide) (by decide)]
            refine And.intro hx4 ?_
            refine ct_wayOf (by rw [e43]; exact hp12) (hp.mono b1) (by rw [f0]; exact hm) ?_
            refine And.intro (fun c => ?_) (fun c => ?_)
            · have c : ¬ mWay S' (S'.1 43 0 x.toNatClampNeg).toNatClampNeg p.toNatClampNeg (mo (S'.1 36 0 0)) = -1 := c
              rw [ew] at c
              refine ct_talk (D := x.toNatClampNeg) (P := (S.1 12 x.toNatClampNeg 0).toNatClampNeg) (np := np) hx.eq (by have := hx.lt; omega) hp12.lt (e43.trans hp12.eq) f1 b1 ?_
              refine And.intro hx4 ?_
              refine And.intro hx4 ?_
              refine And.intro hx4 ?_
              have k0 : (tkM (knM S' (S.1 12 x.toNatClampNeg 0).toNatClampNeg) (S.1 12 x.toNatClampNeg 0).toNatClampNeg x.toNatClampNeg np).1 36 0 0 = nI t := (tkk_kp S' _ _ np 36 0 0 (by decide) (by decide)).trans f0
              refine qi (q4 ok th c) ?_ ?_
              · show (xupd (xupd (tkM (knM S' (S.1 12 x.toNatClampNeg 0).toNatClampNeg) (S.1 12 x.toNatClampNeg 0).toNatClampNeg x.toNatClampNeg np) 43 0 x.toNatClampNeg p) 44 0 x.toNatClampNeg ((tkM (knM S' (S.1 12 x.toNatClampNeg 0).toNatClampNeg) (S.1 12 x.toNatClampNeg 0).toNatClampNeg x.toNatClampNeg np).1 36 0 0 + mWay S' (S'.1 43 0 x.toNatClampNeg).toNatClampNeg p.toNatClampNeg (mo (S'.1 36 0 0)))).1 44 0 x.toNatClampNeg = _
                rw [k0, ew]
                simp (decide := true) only [xu, true_and, false_and, and_true, and_false, if_true, if_false]
              · show xupd (xupd (tkM (knM S' (S.1 12 x.toNatClampNeg 0).toNatClampNeg) (S.1 12 x.toNatClampNeg 0).toNatClampNeg x.toNatClampNeg np) 43 0 x.toNatClampNeg p) 44 0 x.toNatClampNeg ((tkM (knM S' (S.1 12 x.toNatClampNeg 0).toNatClampNeg) (S.1 12 x.toNatClampNeg 0).toNatClampNeg x.toNatClampNeg np).1 36 0 0 + mWay S' (S'.1 43 0 x.toNatClampNeg).toNatClampNeg p.toNatClampNeg (mo (S'.1 36 0 0))) = _
                rw [k0, ew]
            · have c : mWay S' (S'.1 43 0 x.toNatClampNeg).toNatClampNeg p.toNatClampNeg (mo (S'.1 36 0 0)) = -1 := c
              rw [ew] at c
              exact q3 ok th c
          · (repeat' first | (refine And.intro (fun q => absurd q (by decide)) (fun _ => ?_)) | (refine And.intro (fun _ => ?_) (fun q => absurd q (by decide))) | fail)
            refine q2 ok (fun g => q ?_)
            have := (there_eq hb b1).mpr g
            exact ⟨(f49 _).trans this.1, (f44 _).trans this.2⟩
        refine And.intro hx4 ?_
        refine And.intro (fun c => rest (fun g => ?_)) (fun c1 => ?_)
        · have := (there_eq hb b1).mpr g.1
          exact c ((f49 _).trans this.1)
        · refine And.intro hx4 ?_
          refine And.intro (fun c => rest (fun g => ?_)) (fun c2 => ?_)
          · have := (there_eq hb b1).mpr g.1
            exact c ((f44 _).trans this.2)
          · have th : cThere S x.toNatClampNeg := (there_eq hb b1).mp ⟨(f49 _).symm.trans c1, (f44 _).symm.trans c2⟩
            have e43 : S'.1 43 0 x.toNatClampNeg = S.1 12 x.toNatClampNeg 0 := (f43 _).trans (hb.P b1 th.1).2
            refine And.intro hx4 ?_
            refine And.intro (fun c => rest (fun g => ?_)) (fun c3 => ?_)
            · exact c (e43.trans g.2)
            · exact q1 (fun g => g.2.2 ⟨th, e43.symm.trans c3⟩)
      · (repeat' first | (refine And.intro (fun q => absurd q (by decide)) (fun _ => ?_)) | (refine And.intro (fun _ => ?_) (fun q => absurd q (by decide))) | fail)
        exact q1 (fun g => q g.2.1)
    · (repeat' first | (refine And.intro (fun q => absurd q (by decide)) (fun _ => ?_)) | (refine And.intro (fun _ => ?_) (fun q => absurd q (by decide))) | fail)
      exact q1 (fun g => q g.1)
  have keep : IB n np nd t S ∧ IC np t S := ⟨hB, hC⟩
  have rf : ∀ k i j, 36 ≤ k → k ≤ 74 → S.1 k i j = S.1 k i j := fun _ _ _ _ _ => rfl
  refine ct_of (xmok_all (by decide)) rfl (V_go (pc := 0) pk_87 [47] 40 ?_)
  refine cC_isDhow e3 (by omega) (fun hx => ?_) (fun q => ?_)
  · (repeat' first | (refine And.intro (fun q => absurd q (by decide)) (fun _ => ?_)) | (refine And.intro (fun _ => ?_) (fun q => absurd q (by decide))) | fail)
    refine cC_hasPort e1 (by omega) (fun hp => ?_) (fun q => ?_)
    · (repeat' first | (refine And.intro (fun q => absurd q (by decide)) (fun _ => ?_)) | (refine And.intro (fun _ => ?_) (fun q => absurd q (by decide))) | fail)
      have hb := hl _ hx.lt
      refine And.intro (hx.vp b2) ?_
      have rest : ¬ (cThere S x.toNatClampNeg ∧ S.1 12 x.toNatClampNeg 0 = p) → V (dp + 5) 0 0 m_C_sail 47 [some C0, some (.inl x), some (.inl p), some (.inr (.inr (12, x.toNatClampNeg))), none] [] S (fun a S1 => shI a (CT (dp + 5) 0 0 m_M_sail [M0, .inl x, .inl p] S1 (fun a' S2 => a' = a ∧ (IB n np nd t S2 ∧ IC np t S2) ∧ Fr (fl [9, 10, 13000, 13001, 51, 52, 43, 44]) S S2))) := by
        intro nn
        have ok : okSail np nd S x p := ⟨hx, hp, nn⟩
        refine V_go pk_87 [] 60 ?_
        refine ct_inPort (fun p1 p2 => ?_) (fun q => ?_)
        · (repeat' first | (refine And.intro (fun q => absurd q (by decide)) (fun _ => ?_)) | (refine And.intro (fun _ => ?_) (fun q => absurd q (by decide))) | fail)
          have th : cThere S x.toNatClampNeg := ⟨p1, p2⟩
          obtain ⟨hp12, ep⟩ := hb.P b1 p1
          obtain ⟨em, hm⟩ := mo_N (t := t) (by omega)
          obtain ⟨P, hP, eP, -⟩ := there_P hb p1
          refine ct_crossing hp12 (hp.mono b1) (by show vp_in (S.1 0 0 13 / 30 - S.1 0 0 13 / 30 / 12 * 12) 12; rw [e13]; exact hm) ?_
          have ex : cCross S (S.1 12 x.toNatClampNeg 0).toNatClampNeg p.toNatClampNeg (mo (S.1 0 0 13)) = cCross S (S.1 12 x.toNatClampNeg 0).toNatClampNeg p.toNatClampNeg (t / 30 % 12) := by rw [e13, em]
          have wq := way_eq hA hp12.lt (hp.mono b1).lt (m := t / 30 % 12) (by omega)
          refine And.intro (fun c => ?_) (fun c => ?_)
          · have c : ¬ cCross S (S.1 12 x.toNatClampNeg 0).toNatClampNeg p.toNatClampNeg (mo (S.1 0 0 13)) = -1 := c
            rw [ex] at c
            obtain ⟨w, w1, w2, w3, w4⟩ := wq.resolve_left (fun g => c g.1)
            have eN : (S.1 12 x.toNatClampNeg 0).toNatClampNeg = P := by rw [eP]; exact nI_clamp (by omega)
            rw [eN] at w3 w4
            refine ct_exch (P := P) (by omega) eP ?_
            have fC := exC_fr S P x.toNatClampNeg
            have hoff : ∀ k i j, ¬ ((k = 9 ∨ k = 10) ∧ (i = P ∨ i = x.toNatClampNeg + 6)) → (exC S P x.toNatClampNeg).1 k i j = S.1 k i j := fun k i j h => exC_off h
            generalize hE : exC S P x.toNatClampNeg = E at fC hoff ⊢
            have k13 : E.1 0 0 13 = nI t := (fC.1 0 0 13 rfl).trans e13
            have eS1 : xupd (xupd E 12 x.toNatClampNeg 0 p) 12 x.toNatClampNeg 1 (E.1 0 0 13 + cCross S (S.1 12 x.toNatClampNeg 0).toNatClampNeg p.toNatClampNeg (mo (S.1 0 0 13))) = xupd (xupd E 12 x.toNatClampNeg 0 p) 12 x.toNatClampNeg 1 (nI (t + w)) := by rw [k13, ex, eN, w3, nI_add]
            show CT (dp + 5) 0 0 m_M_sail [M0, .inl x, .inl p] (xupd (xupd E 12 x.toNatClampNeg 0 p) 12 x.toNatClampNeg 1 (E.1 0 0 13 + cCross S (S.1 12 x.toNatClampNeg 0).toNatClampNeg p.toNatClampNeg (mo (S.1 0 0 13)))) (fun a' S2 => a' = some (.inl ((xupd (xupd E 12 x.toNatClampNeg 0 p) 12 x.toNatClampNeg 1 (E.1 0 0 13 + cCross S (S.1 12 x.toNatClampNeg 0).toNatClampNeg p.toNatClampNeg (mo (S.1 0 0 13)))).1 12 x.toNatClampNeg 1)) ∧ (IB n np nd t S2 ∧ IC np t S2) ∧ Fr (fl [9, 10, 13000, 13001, 51, 52, 43, 44]) S S2)
            rw [eS1]
            have hS1 : ∀ k i j, 36 ≤ k → k ≤ 74 → (xupd (xupd E 12 x.toNatClampNeg 0 p) 12 x.toNatClampNeg 1 (nI (t + w))).1 k i j = S.1 k i j := by
              intro k i j h1 h2
              rw [xu, if_neg (fun g => by have := g.1; omega), xu, if_neg (fun g => by have := g.1; omega)]
              exact hoff _ _ _ (fun g => by rcases g.1 with e | e <;> omega)
            refine mm hS1 (fun g => absurd ok g) (fun _ g => absurd th g) (fun _ _ g => ?_) (fun _ _ _ => ?_)
            · rw [eN, w4] at g
              have := congrArg Int32.toInt g
              rw [nI_toInt (by omega), show (-1 : Int32).toInt = -1 from rfl] at this
              omega
            · rw [eN, w4, nI_add]
              generalize hS1e : xupd (xupd E 12 x.toNatClampNeg 0 p) 12 x.toNatClampNeg 1 (nI (t + w)) = S1 at hS1 ⊢
              have f1 : Fr (fl [9, 10, 13000, 13001]) S S1 := by rw [← hS1e]; exact ((fC.wk (by decide)).up rfl).up rfl
              have f2 := tkk_fr S1 P x.toNatClampNeg np
              have hX4 : x.toNatClampNeg < 4 := by have := hx.lt; omega
              refine ⟨?_, ⟨?_, ?_⟩, ?_⟩
              · rw [← hS1e]
                simp (decide := true) only [xu, true_and, false_and, and_true, and_false, if_true, if_false]
              · have hs := hB.sail hx.lt (hb.2.1.elim (fun g => g.1) (fun g => absurd g.2.1 p1)) (p := p.toNatClampNeg) (c := t + w) hp.lt (by omega)
                rw [← hp.eq] at hs
                have fr : Fr (fl [9, 10, 51, 52]) (xupd (xupd (xupd (xupd S 12 x.toNatClampNeg 0 p) 12 x.toNatClampNeg 1 (nI (t + w))) 43 0 x.toNatClampNeg p) 44 0 x.toNatClampNeg (nI (t + w))) (xupd (xupd (tkM (knM S1 P) P x.toNatClampNeg np) 43 0 x.toNatClampNeg p) 44 0 x.toNatClampNeg (nI (t + w))) := by
                  refine ⟨fun k i j hf => ?_, ?_⟩
                  · rw [xu, xu, xu, xu]
                    by_cases c1 : k = 44 ∧ j = x.toNatClampNeg ∧ i = 0
                    · rw [if_pos c1, if_pos c1]
                    · rw [if_neg c1, if_neg c1]
                      by_cases c2 : k = 43 ∧ j = x.toNatClampNeg ∧ i = 0
                      · rw [if_pos c2, if_pos c2]
                      · rw [if_neg c2, if_neg c2, f2.1 k i j (by
                          cases hb : fl [51, 52] k j with
                          | false => rfl
                          | true =>
                            have hm : fk k j = 51 ∨ fk k j = 52 := by simpa using hb
                            rcases hm with e | e <;> (rw [show fl [9, 10, 51, 52] k j = true by show List.elem (fk k j) [9, 10, 51, 52] = true; rw [e]; rfl] at hf; cases hf)), ← hS1e, xu, xu, xu, xu]
                        by_cases c3 : k = 12 ∧ j = 1 ∧ i = x.toNatClampNeg
                        · rw [if_pos c3, if_pos c3]
                        · rw [if_neg c3, if_neg c3]
                          by_cases c4 : k = 12 ∧ j = 0 ∧ i = x.toNatClampNeg
                          · rw [if_pos c4, if_pos c4]
                          · rw [if_neg c4, if_neg c4]
                            exact hoff _ _ _ (fun g => by
                              rcases g.1 with e | e <;> (rw [e] at hf; cases hf))
                  · show (tkM (knM S1 P) P x.toNatClampNeg np).2 = S.2
                    rw [f2.2, f1.2]
                exact hs.fr fr (by decide)
              · have hmx : mix S S1 = S := mix_eq hS1 f1.2
                have key := IC.exch (S := S) (T := S1) (n := n) (np := np) (t := t) (P := P) (D := x.toNatClampNeg) (by rw [hmx]; exact hA) hn (by rw [hmx]; exact hC) hP b1 hX4 b6 e13 ((hS1 36 0 0 (by decide) (by decide)).trans e14)
                rw [hE] at key
                refine key.cong (fun a q => ?_) (fun a q => ?_) (fun q => rfl) (fun q => rfl)
                · show (tkM (knM S1 P) P x.toNatClampNeg np).1 9 a q = _
                  rw [f2.1 9 a q rfl, ← hS1e]; rfl
                · show (tkM (knM S1 P) P x.toNatClampNeg np).1 10 a q = _
                  rw [f2.1 10 a q rfl, ← hS1e]; rfl
              · exact (((f1.wk (by decide)).tr (f2.wk (by decide))).up rfl).up rfl
          · have c : cCross S (S.1 12 x.toNatClampNeg 0).toNatClampNeg p.toNatClampNeg (mo (S.1 0 0 13)) = -1 := c
            rw [ex] at c
            have w2 := wq.elim (fun g => g.2) (fun ⟨w, w1, w2, w3, w4⟩ => by
              rw [w3] at c
              have := congrArg Int32.toInt c
              rw [nI_toInt (by omega), show (-1 : Int32).toInt = -1 from rfl] at this
              omega)
            exact mm rf (fun g => absurd ok g) (fun _ g => absurd th g) (fun _ _ _ => ⟨rfl, keep, Fr.rf⟩) (fun _ _ g => absurd w2 g)
        · (repeat' first | (refine And.intro (fun q => absurd q (by decide)) (fun _ => ?_)) | (refine And.intro (fun _ => ?_) (fun q => absurd q (by decide))) | fail)
          exact mm rf (fun g => absurd ok g) (fun _ _ => ⟨rfl, keep, Fr.rf⟩) (fun _ g => absurd g q) (fun _ g => absurd g q)
      refine ct_inPort (fun p1 p2 => ?_) (fun q => ?_)
      · (repeat' first | (refine And.intro (fun q => absurd q (by decide)) (fun _ => ?_)) | (refine And.intro (fun _ => ?_) (fun q => absurd q (by decide))) | fail)
        refine And.intro (fun c => rest (fun g => c g.2)) (fun c => ?_)
        exact mm rf (fun _ => ⟨rfl, keep, Fr.rf⟩) (fun g => absurd ⟨⟨p1, p2⟩, c⟩ g.2.2) (fun g => absurd ⟨⟨p1, p2⟩, c⟩ g.2.2) (fun g => absurd ⟨⟨p1, p2⟩, c⟩ g.2.2)
      · (repeat' first | (refine And.intro (fun q => absurd q (by decide)) (fun _ => ?_)) | (refine And.intro (fun _ => ?_) (fun q => absurd q (by decide))) | fail)
        exact rest (fun g => q g.1)
    · (repeat' first | (refine And.intro (fun q => absurd q (by decide)) (fun _ => ?_)) | (refine And.intro (fun _ => ?_) (fun q => absurd q (by decide))) | fail)
      exact mm rf (fun _ => ⟨rfl, keep, Fr.rf⟩) (fun g => absurd g.2.1 q) (fun g => absurd g.2.1 q) (fun g => absurd g.2.1 q)
  · (repeat' first | (refine And.intro (fun q => absurd q (by decide)) (fun _ => ?_)) | (refine And.intro (fun _ => ?_) (fun q => absurd q (by decide))) | fail)
    exact mm rf (fun _ => ⟨rfl, keep, Fr.rf⟩) (fun g => absurd g.1 q) (fun g => absurd g.1 q) (fun g => absurd g.1 q)

theorem cs_heard {dp n0 np nd nv nt r t : Nat} {S : xS} (hn0 : n0 ≤ 600) (hN : IN np nd nv nt r t S) (hA : IA n0 S) (hB : IB n0 np nd t S) (hC : IC np t S) {w n p a : Int32} : CT (dp + 5) 0 0 m_C_heard [C0, .inl w, .inl n, .inl p, .inl a] S (fun q S1 => shI q (CT (dp + 5) 0 0 m_M_heard [M0, .inl w, .inl n, .inl p, .inl a] S1 (fun q' S2 => q' = q ∧ IC np t S2 ∧ Fr (fl [9, 10]) S S2))) := by
  obtain ⟨⟨b1, b2, b3, b4, b5, b6⟩, ⟨e1, e2⟩, ⟨e3, e4⟩, e7, e9, e11, e13, e14⟩ := id hN
  have hl : ∀ D, D < nd → IBl n0 np t D S := fun D hD => (hB D (by omega)).1 hD
  -- a word, read on both sides
  have rd : ∀ (S' : xS) X W, X < 10 → p.toNatClampNeg < 6 → (-1 ≤ a ∧ a ≤ 3) → IC np t S' → S'.1 51 0 W = S'.1 9 X p.toNatClampNeg → (∀ g, g < 4 → S'.1 52 0 (4 * W + g) = S'.1 10 X (4 * p.toNatClampNeg + g)) → rdM S' W a = rdC S' X p.toNatClampNeg a := by
    intro S' X W hX hp ha hC' g1 g2
    unfold rdM rdC
    rw [g1]
    rcases (hC'.2.2 X p.toNatClampNeg hX hp).1 with q | ⟨-, c, hc, q⟩
    · rw [q, if_pos (by decide), if_pos (Or.inr rfl)]
    · rw [q, if_neg (nI_pos (by omega))]
      have qm : ¬ nI c = -1 := fun g => by
        have := congrArg Int32.toInt g
        rw [nI_toInt (by omega), show (-1 : Int32).toInt = -1 from rfl] at this
        omega
      by_cases c2 : a = -1
      · rw [if_pos c2, if_pos (Or.inl c2)]
      · rw [if_neg c2, if_neg (fun g => g.elim c2 qm)]
        exact g2 _ (good4 ha c2).lt
  have bad : V (dp + 5) 0 0 m_C_heard 61 [some C0, some (.inl w), some (.inl n), some (.inl p), some (.inl a), some (.inl 1), none] [] S (fun q S1 => shI q (CT (dp + 5) 0 0 m_M_heard [M0, .inl w, .inl n, .inl p, .inl a] S1 (fun q' S2 => q' = q ∧ IC np t S2 ∧ Fr (fl [9, 10]) S S2))) ∨ okH np nd w n p a := by
    by_cases ok : okH np nd w n p a
    · exact Or.inr ok
    · refine Or.inl ?_
      refine V_go pk_92 [] 40 ?_
      exact ct_M_heard e4 e2 b1 b2 (fun _ => ⟨rfl, hC, Fr.rf⟩) (fun g => absurd g ok) (fun g => absurd g ok) (fun g => absurd g ok) (fun g => absurd g ok)
  have bad0 : V (dp + 5) 0 0 m_C_heard 32 [some C0, some (.inl w), some (.inl n), some (.inl p), some (.inl a), none, none] [] S (fun q S1 => shI q (CT (dp + 5) 0 0 m_M_heard [M0, .inl w, .inl n, .inl p, .inl a] S1 (fun q' S2 => q' = q ∧ IC np t S2 ∧ Fr (fl [9, 10]) S S2))) ∨ okH np nd w n p a := by
    by_cases ok : okH np nd w n p a
    · exact Or.inr ok
    · refine Or.inl ?_
      refine V_go pk_92 [] 40 ?_
      (repeat' first | (refine And.intro (fun q => absurd q (by decide)) (fun _ => ?_)) | (refine And.intro (fun _ => ?_) (fun q => absurd q (by decide))) | fail)
      exact ct_M_heard e4 e2 b1 b2 (fun _ => ⟨rfl, hC, Fr.rf⟩) (fun g => absurd g ok) (fun g => absurd g ok) (fun g => absurd g ok) (fun g => absurd g ok)
  have main : okH np nd w n p a → V (dp + 5) 0 0 m_C_heard 64 [some C0, some (.inl w), some (.inl n), some (.inl p), some (.inl a), some (.inl 1), none] [] S (fun q S1 => shI q (CT (dp + 5) 0 0 m_M_heard [M0, .inl w, .inl n, .inl p, .inl a] S1 (fun q' S2 => q' = q ∧ IC np t S2 ∧ Fr (fl [9, 10]) S S2))) := by
    intro ok
    obtain ⟨hw, hp, ha⟩ := id ok
    have hp6 := hp.mono b1
    rcases hw with ⟨rfl, hn⟩ | ⟨rfl, hn⟩
    · have hn4 := hn.vp (N := 4) b2
      have hb := hl _ hn.lt
      refine V_go pk_92 [129] 40 ?_
      (repeat' first | (refine And.intro (fun q => absurd q (by decide)) (fun _ => ?_)) | (refine And.intro (fun _ => ?_) (fun q => absurd q (by decide))) | fail)
      refine And.intro hn4 ?_
      refine And.intro (fun c => ?_) (fun c => ?_)
      · (repeat' first | (refine And.intro (fun q => absurd q (by decide)) (fun _ => ?_)) | (refine And.intro (fun _ => ?_) (fun q => absurd q (by decide))) | fail)
        refine And.intro hn4 ?_
        refine rd_go (X := n.toNatClampNeg + 6) hp6 ha ?_
        refine ct_M_heard e4 e2 b1 b2 (fun g => absurd ok g) (fun _ _ g => absurd (hb.lost.trans c) g) (fun _ _ _ => ⟨?_, hC, Fr.rf⟩) (fun _ g => absurd g (by decide)) (fun _ g => absurd g (by decide))
        have := hC.2.1 n.toNatClampNeg p.toNatClampNeg (by have := hn.lt; omega) hp6.lt
        rw [rd S (n.toNatClampNeg + 6) (36 + 6 * n.toNatClampNeg + p.toNatClampNeg) (by have := hn.lt; omega) hp6.lt ha hC (by rw [Nat.add_comm n.toNatClampNeg 6]; exact this.1) (fun g hg => by rw [Nat.add_comm n.toNatClampNeg 6]; exact this.2 g hg)]
      · exact ct_M_heard e4 e2 b1 b2 (fun g => absurd ok g) (fun _ _ _ => ⟨rfl, hC, Fr.rf⟩) (fun _ _ g => absurd (hb.lost.symm.trans g) c) (fun _ g => absurd g (by decide)) (fun _ g => absurd g (by decide))
    · have hn6 := hn.vp (N := 6) b1
      have hP6 : n.toNatClampNeg < 6 := by have := hn.lt; omega
      refine V_go pk_92 [129] 40 ?_
      (repeat' first | (refine And.intro (fun q => absurd q (by decide)) (fun _ => ?_)) | (refine And.intro (fun _ => ?_) (fun q => absurd q (by decide))) | fail)
      show CT (dp + 4) 0 0 m_Sea_tellItself [.inr (.inr (1, 0)), .inl n, .inl (S.1 0 0 13)] S _
      rw [e13]
      refine cT_tell (hn.mono b1) ?_
      (repeat' first | (refine And.intro (fun q => absurd q (by decide)) (fun _ => ?_)) | (refine And.intro (fun _ => ?_) (fun q => absurd q (by decide))) | fail)
      refine And.intro hn6 ?_
      have hC1 : IC np t (ntC S n.toNatClampNeg (nI t)) := hC.note hA hn0 hn.lt b1
      have f1 := ntC_fr S n.toNatClampNeg (nI t)
      refine rd_go (X := n.toNatClampNeg) hp6 ha ?_
      refine ct_M_heard (by exact e4) (by exact e2) b1 b2 (fun g => absurd ok g) (fun _ g => absurd g (by decide)) (fun _ g => absurd g (by decide)) (fun _ _ g => ⟨?_, hC1, f1⟩) (fun _ _ g => ⟨?_, hC1, f1⟩)
      · subst g
        have w9 : (ntC S n.toNatClampNeg (nI t)).1 9 n.toNatClampNeg n.toNatClampNeg = nI t := by rw [ntC_9, if_pos rfl]; exact if_pos rfl
        have tm : ¬ nI t = -1 := fun g => by
          have := congrArg Int32.toInt g
          rw [nI_toInt (by omega), show (-1 : Int32).toInt = -1 from rfl] at this
          omega
        unfold rdC
        rw [w9]
        by_cases c : a = -1
        · rw [if_pos c, if_pos (Or.inl c)]
          show some (Sum.inl (S.1 36 0 0)) = _
          rw [e14]
        · rw [if_neg c, if_neg (fun g => g.elim c tm)]
          have hg := good4 ha c
          rw [ntC_10 _ _ _ _ _ _ hg.lt, if_pos rfl]
          show some (Sum.inl (mPrice S n a)) = some (Sum.inl (aP S n.toNatClampNeg n.toNatClampNeg a.toNatClampNeg))
          unfold aP
          rw [if_pos rfl]
          have := pm_N hA (P := n.toNatClampNeg) (G := a.toNatClampNeg) hP6 hg.lt
          rw [← hp.eq, ← hg.eq] at this
          rw [this, ← hg.eq]
      · have hne : n.toNatClampNeg ≠ p.toNatClampNeg := fun q => g (by rw [hn.eq, hp.eq, q])
        have := hC1.1 n.toNatClampNeg p.toNatClampNeg hP6 hp6.lt hne
        rw [rd (ntC S n.toNatClampNeg (nI t)) n.toNatClampNeg (6 * n.toNatClampNeg + p.toNatClampNeg) (by omega) hp6.lt ha hC1 this.1 this.2]
  have tail : ((w = 0 ∧ inC nd n) ∨ (w = 1 ∧ inC np n)) → V (dp + 5) 0 0 m_C_heard 28 [some C0, some (.inl w), some (.inl n), some (.inl p), some (.inl a), none, none] [] S (fun q S1 => shI q (CT (dp + 5) 0 0 m_M_heard [M0, .inl w, .inl n, .inl p, .inl a] S1 (fun q' S2 => q' = q ∧ IC np t S2 ∧ Fr (fl [9, 10]) S S2))) := by
    intro hw
    refine V_go pk_92 [61, 64] 40 ?_
    (repeat' first | (refine And.intro (fun q => absurd q (by decide)) (fun _ => ?_)) | (refine And.intro (fun _ => ?_) (fun q => absurd q (by decide))) | fail)
    refine cC_hasPort e1 (by omega) (fun hp => ?_) (fun q => ?_)
    · (repeat' first | (refine And.intro (fun q => absurd q (by decide)) (fun _ => ?_)) | (refine And.intro (fun _ => ?_) (fun q => absurd q (by decide))) | fail)
      refine ct_within (fun g1 g2 => ?_) (fun q => ?_)
      · (repeat' first | (refine And.intro (fun q => absurd q (by decide)) (fun _ => ?_)) | (refine And.intro (fun _ => ?_) (fun q => absurd q (by decide))) | fail)
        exact main ⟨hw, hp, g1, g2⟩
      · (repeat' first | (refine And.intro (fun q => absurd q (by decide)) (fun _ => ?_)) | (refine And.intro (fun _ => ?_) (fun q => absurd q (by decide))) | fail)
        exact bad.resolve_right (fun g => q g.2.2)
    · (repeat' first | (refine And.intro (fun q => absurd q (by decide)) (fun _ => ?_)) | (refine And.intro (fun _ => ?_) (fun q => absurd q (by decide))) | fail)
      exact bad.resolve_right (fun g => q g.2.1)
  refine ct_of (xmok_all (by decide)) rfl (V_go (pc := 0) pk_92 [28, 32] 40 ?_)
  refine And.intro (fun w0 => ?_) (fun w0 => ?_)
  · refine And.intro (fun w1 => ?_) (fun w1 => ?_)
    · exact bad0.resolve_right (fun g => g.1.elim (fun g => w0 g.1) (fun g => w1 g.1))
    · refine cC_hasPort e1 (by omega) (fun hn => ?_) (fun q => ?_)
      · (repeat' first | (refine And.intro (fun q => absurd q (by decide)) (fun _ => ?_)) | (refine And.intro (fun _ => ?_) (fun q => absurd q (by decide))) | fail)
        exact tail (Or.inr ⟨w1, hn⟩)
      · (repeat' first | (refine And.intro (fun q => absurd q (by decide)) (fun _ => ?_)) | (refine And.intro (fun _ => ?_) (fun q => absurd q (by decide))) | fail)
        exact bad0.resolve_right (fun g => g.1.elim (fun g => w0 g.1) (fun g => q g.2))
  · have w0 : w = 0 := w0
    subst w0
    refine cC_isDhow e3 (by omega) (fun hn => ?_) (fun q => ?_)
    · (repeat' first | (refine And.intro (fun q => absurd q (by decide)) (fun _ => ?_)) | (refine And.intro (fun _ => ?_) (fun q => absurd q (by decide))) | fail)
      exact tail (Or.inl ⟨rfl, hn⟩)
    · (repeat' first | (refine And.intro (fun q => absurd q (by decide)) (fun _ => ?_)) | (refine And.intro (fun _ => ?_) (fun q => absurd q (by decide))) | fail)
      exact bad0.resolve_right (fun g => g.1.elim (fun g => q g.2) (fun g => absurd g.1 (by decide)))

theorem cs_lose {dp n np nd nv nt r t : Nat} {S : xS} (hN : IN np nd nv nt r t S) (hB : IB n np nd t S) (hD : ID nd nv S) {x : Int32} : CT (dp + 3) 0 0 m_C_lose [C0, .inl x] S (fun a S1 => shI a (CT (dp + 3) 0 0 m_M_lose [M0, .inl x] S1 (fun a' S2 => a' = a ∧ (IB n np nd t S2 ∧ ID nd nv S2) ∧ Fr (fl [13000, 13001, 13002, 13004, 13006, 13, 16001, 16007, 49, 44, 46, 47, 50, 54, 58]) S S2))) := by
  obtain ⟨⟨b1, b2, b3, b4, b5, b6⟩, ⟨e1, e2⟩, ⟨e3, e4⟩, ⟨e7, e8⟩, e9, e11, e13, e14⟩ := id hN
  have hl : ∀ D, D < nd → IBl n np t D S := fun D hD => (hB D (by omega)).1 hD
  have ov : ∀ v, v < nv → S.1 58 0 v = 0 ∨ S.1 58 0 v = 1 := fun v hv => by
    have := ((hD v (by omega)).1 hv)
    rw [this.1.2.2.2.2.2.2]; exact this.2.2.2.2.2.2
  have keep : IB n np nd t S ∧ ID nd nv S := ⟨hB, hD⟩
  refine ct_C_lose e3 e7 b2 b3 (fun q => ?_) (fun hx q => ?_) (fun hx q => ?_)
  · exact ct_M_lose e4 e8 b2 b3 ov (fun _ => ⟨rfl, keep, Fr.rf⟩) (fun g => absurd g q) (fun g => absurd g q)
  · exact ct_M_lose e4 e8 b2 b3 ov (fun g => absurd hx g) (fun _ _ => ⟨rfl, keep, Fr.rf⟩) (fun _ g => absurd ((atSea_iff (hl _ hx.lt) b1).mp g) q)
  · have fD := dnC_fr S x.toNatClampNeg
    have fL := lsC_fr (dnC S x.toNatClampNeg) x.toNatClampNeg nv
    have f1 : Fr (fl [13000, 13001, 13002, 13004, 13006, 13, 16001, 16007]) S (lsC (dnC S x.toNatClampNeg) x.toNatClampNeg nv) := (fD.wk (by decide)).tr (fL.wk (by decide))
    generalize hE : lsC (dnC S x.toNatClampNeg) x.toNatClampNeg nv = E at f1 fL ⊢
    have h36 : ∀ k i j, 36 ≤ k → k ≤ 74 → E.1 k i j = S.1 k i j := fun k i j h1 h2 => f1.1 k i j (fl_36 (by decide) h1 h2)
    refine ct_M_lose ((h36 36 0 8 (by decide) (by decide)).trans e4) ((h36 36 0 19 (by decide) (by decide)).trans e8) b2 b3 (fun v hv => by rw [h36 58 0 v (by decide) (by decide)]; exact ov v hv) (fun g => absurd hx g) (fun _ g => absurd (by rw [h36 49 0 _ (by decide) (by decide), h36 44 0 _ (by decide) (by decide)]; exact (atSea_iff (hl _ hx.lt) b1).mpr q) g) (fun _ _ => ?_)
    have g1 := dnM_fr E x.toNatClampNeg
    have g2 := lsM_fr (dnM E x.toNatClampNeg) x.toNatClampNeg nv
    have f2 : Fr (fl [49, 44, 46, 47, 50, 54, 58]) E (lsM (dnM E x.toNatClampNeg) x.toNatClampNeg nv) := (g1.wk (by decide)).tr (g2.wk (by decide))
    refine ⟨rfl, ⟨?_, ?_⟩, (f1.wk (by decide)).tr (f2.wk (by decide))⟩
    · refine (hB.lose hx.lt b2).fr (l := [16001, 16007, 54, 58]) ⟨fun k i j hf => ?_, ?_⟩ (by decide)
      · have h1 : fl [54, 58] k j = false := by
          cases hb : fl [54, 58] k j with
          | false => rfl
          | true =>
            have hm : fk k j = 54 ∨ fk k j = 58 := by simpa using hb
            exfalso
            rcases hm with e | e <;> (rw [show fl [16001, 16007, 54, 58] k j = true by show List.elem (fk k j) [16001, 16007, 54, 58] = true; rw [e]; rfl] at hf; cases hf)
        have h2 : fl [16001, 16007] k j = false := by
          cases hb : fl [16001, 16007] k j with
          | false => rfl
          | true =>
            have hm : fk k j = 16001 ∨ fk k j = 16007 := by simpa using hb
            exfalso
            rcases hm with e | e <;> (rw [show fl [16001, 16007, 54, 58] k j = true by show List.elem (fk k j) [16001, 16007, 54, 58] = true; rw [e]; rfl] at hf; cases hf)
        rw [g2.1 k i j h1]
        exact dnM_cong (fL.1 k i j h2)
      · rw [g2.2, g1.2, f1.2, (dnM_fr _ _).2, fD.2]
    · have base : ID nd nv (mix (dnC S x.toNatClampNeg) (dnM E x.toNatClampNeg)) := by
        refine hD.fr (l := [13000, 13001, 13002, 13004, 13006, 13, 49, 44, 46, 47, 50]) (Fr.mix (l2 := [49, 44, 46, 47, 50]) fD (fun k i j h1 h2 hf => ?_) ?_ (by decide) (by decide)) (by decide)
        · rw [g1.1 k i j hf, h36 k i j h1 h2]
        · rw [g1.2, f1.2]
      have := base.loseN b3 hx.lt b2 nv (Nat.le_refl _)
      rw [hE, mix_eq2 (fun k i j h => f2.1 k i j (fl_no36 (by decide) h)) f2.2] at this
      exact this

theorem cs_days {dp n np nd nv nt r t : Nat} {S : xS} (hn : n ≤ 600) (hN : IN np nd nv nt r t S) (hA : IA n S) (hB : IB n np nd t S) (hC : IC np t S) {x : Int32} : CT (dp + 6) 0 0 m_C_days [C0, .inl x] S (fun a S1 => shI a (CT (dp + 6) 0 0 m_M_days [M0, .inl x] S1 (fun a' S2 => a' = a ∧ (∃ t', IN np nd nv nt r t' S2 ∧ IA n S2 ∧ IB n np nd t' S2 ∧ IC np t' S2) ∧ Fr (fl [9, 10, 13001, 1013, 51, 52, 44, 37000]) S S2))) := by
  obtain ⟨⟨b1, b2, b3, b4, b5, b6⟩, ⟨e1, e2⟩, ⟨e3, e4⟩, ⟨e7, e8⟩, e9, e11, e13, e14⟩ := id hN
  have keep : ∃ t', IN np nd nv nt r t' S ∧ IA n S ∧ IB n np nd t' S ∧ IC np t' S := ⟨t, hN, hA, hB, hC⟩
  have hpC : pC nd S := fun D hD => by
    obtain ⟨-, a7, -⟩ := (hB D (by omega)).1 hD
    exact a7.elim (fun ⟨_, p, g1, g2, _⟩ => Or.inr ⟨p, by omega, g2⟩) (fun g => Or.inl g.2.1)
  have hpM : pM nd S := fun D hD => by
    obtain ⟨⟨-, a2, -⟩, a7, -⟩ := (hB D (by omega)).1 hD
    exact a7.elim (fun ⟨_, p, g1, _, g3⟩ => Or.inr ⟨p, by omega, g3⟩) (fun g => Or.inl (a2.trans g.2.2))
  refine ct_C_days e3 b2 e13 b6 hpC (fun q => ?_) (fun q q2 => ?_) (fun q q2 => ?_)
  · exact ct_M_days e4 b2 e2 b1 e14 b6 hpM (fun _ => ⟨rfl, keep, Fr.rf⟩) (fun g => absurd g q) (fun g => absurd g q)
  · exact ct_M_days e4 b2 e2 b1 e14 b6 hpM (fun g => absurd q g) (fun _ _ => ⟨rfl, keep, Fr.rf⟩) (fun _ g => absurd g (by omega))
  · have f1 := dyC_fr S nd x.toNatClampNeg
    have h36 : ∀ k i j, 36 ≤ k → k ≤ 74 → (dyC S nd x.toNatClampNeg).1 k i j = S.1 k i j := fun k i j h1 h2 => f1.1 k i j (fl_36 (by decide) h1 h2)
    have hmx : mix S (dyC S nd x.toNatClampNeg) = S := mix_eq h36 f1.2
    have base : RD n np nd t S (dyC S nd x.toNatClampNeg) := ⟨by rw [hmx]; exact ⟨hA, hB, hC⟩, e13, (h36 36 0 0 (by decide) (by decide)).trans e14, (h36 36 0 1 (by decide) (by decide)).trans e2⟩
    have fin := base.days hn b1 b2 x.toNatClampNeg q2
    generalize dyC S nd x.toNatClampNeg = S1 at f1 h36 fin ⊢
    refine ct_M_days ((h36 36 0 8 (by decide) (by decide)).trans e4) b2 ((h36 36 0 1 (by decide) (by decide)).trans e2) b1 ((h36 36 0 0 (by decide) (by decide)).trans e14) b6 (fun D hD => by rw [h36 44 0 D (by decide) (by decide), h36 43 0 D (by decide) (by decide)]; exact hpM D hD) (fun g => absurd q g) (fun _ g => absurd g (by omega)) (fun _ _ => ⟨rfl, ⟨t + x.toNatClampNeg, ?_, ?_⟩, ?_⟩)
    · have f2 := dyM_fr S1 np nd x.toNatClampNeg
      have o : ∀ k j, fl [9, 10, 13001, 1013] k j = false → fl [51, 52, 44, 37000] k j = false → ∀ i, (dyM S1 np nd x.toNatClampNeg).1 k i j = S.1 k i j := fun k j g1 g2 i => (f2.1 k i j g2).trans (f1.1 k i j g1)
      exact ⟨⟨b1, b2, b3, b4, b5, q2⟩, ⟨(o 1 2 rfl rfl 0).trans e1, (o 36 1 rfl rfl 0).trans e2⟩, ⟨(o 0 9 rfl rfl 0).trans e3, (o 36 8 rfl rfl 0).trans e4⟩, ⟨(o 0 10 rfl rfl 0).trans e7, (o 36 19 rfl rfl 0).trans e8⟩, ⟨(o 0 11 rfl rfl 0).trans e9.1, (o 36 33 rfl rfl 0).trans e9.2⟩, ⟨(o 0 12 rfl rfl 0).trans e11.1, (o 36 34 rfl rfl 0).trans e11.2⟩, (f2.1 0 0 13 rfl).trans fin.2.1, fin.2.2.1⟩
    · have e : mix S1 (dyM S1 np nd x.toNatClampNeg) = dyM S1 np nd x.toNatClampNeg := mix_eq2 (fun k i j h => dyM_off S1 np nd _ k i j h) (dyM_fr S1 np nd _).2
      rw [← e]
      exact fin.1
    · exact (f1.wk (by decide)).tr ((dyM_fr S1 np nd x.toNatClampNeg).wk (by decide))

theorem cs_says {dp np nd nv nt r t : Nat} {S : xS} (hN : IN np nd nv nt r t S) (hG : IG nt S) {x p g b m s o : Int32} : CT (dp + 5) 0 0 m_C_says [C0, .inl x, .inl p, .inl g, .inl b, .inl m, .inl s, .inl o] S (fun a S1 => shJ a (CT (dp + 5) 0 0 m_M_says [M0, .inl x, .inl p, .inl g, .inl b, .inl m, .inl s, .inl o] S1 (fun a' S2 => a' = a ∧ Fr (fl [29, 30, 29002, 69]) S S2))) := by
  obtain ⟨⟨b1, b2, b3, b4, b5, b6⟩, ⟨e1, e2⟩, ⟨e3, e4⟩, ⟨e7, e8⟩, ⟨e9, e10⟩, ⟨e11, e12⟩, e13, e14⟩ := id hN
  have mm : ∀ {S' : xS} {Q : xQ}, S'.1 36 0 33 = nI nt → (¬ okY nt x p g b m s o → Q (some (.inr (.inl (-4611686018427387904)))) S') → (okY nt x p g b m s o → CT (dp + 4) 0 0 m_M_value [M0, .inl x, .inl p, .inl g, .inl b, .inl m, .inl s, .inl o] S' (fun a S2 => ∃ v, a = some (.inl v) ∧ Q (some (.inr (.inl v.toInt64))) S2)) → CT (dp + 5) 0 0 m_M_says [M0, .inl x, .inl p, .inl g, .inl b, .inl m, .inl s, .inl o] S' Q := by
    intro S' Q h33 q1 q2
    have bad : ¬ okY nt x p g b m s o → V (dp + 5) 0 0 m_M_says 94 [some M0, some (.inl x), some (.inl p), some (.inl g), some (.inl b), some (.inl m), some (.inl s), some (.inl o), none] [] S' Q := by
      intro nn
      refine V_go pk_175 [] 40 ?_
      (repeat' first | (refine And.intro (fun q => absurd q (by decide)) (fun _ => ?_)) | (refine And.intro (fun _ => ?_) (fun q => absurd q (by decide))) | fail)
      exact q1 nn
    refine ct_of (xmok_all (by decide)) rfl (V_go (pc := 0) pk_175 [94] 60 ?_)
    refine And.intro (fun c => bad (fun k => absurd ((inC_iff (by omega)).mpr k.1).1 (Int32.not_le.mpr c))) (fun c => ?_)
    refine And.intro (fun c2 => bad (fun k => ?_)) (fun c2 => ?_)
    · have c2 : S'.1 36 0 33 ≤ x := c2
      rw [h33] at c2
      exact absurd ((inC_iff (by omega)).mpr k.1).2 (Int32.not_lt.mpr c2)
    · have c2 : ¬ S'.1 36 0 33 ≤ x := c2
      rw [h33] at c2
      have hx := (inC_iff (c := nt) (x := x) (by omega)).mp ⟨Int32.not_lt.mp c, Int32.not_le.mp c2⟩
      refine cM_w 0 2 rfl rfl (by decide) (by decide) (fun hp => ?_) (fun q => ?_)
      · (repeat' first | (refine And.intro (fun q => absurd q (by decide)) (fun _ => ?_)) | (refine And.intro (fun _ => ?_) (fun q => absurd q (by decide))) | fail)
        refine ct_M_isIn32 (a := -100000) (b := 100000) rfl rfl (fun g1 g2 => ?_) (fun q => ?_)
        · (repeat' first | (refine And.intro (fun q => absurd q (by decide)) (fun _ => ?_)) | (refine And.intro (fun _ => ?_) (fun q => absurd q (by decide))) | fail)
          refine cM_w 0 9999 rfl rfl (by decide) (by decide) (fun hb => ?_) (fun q => ?_)
          · (repeat' first | (refine And.intro (fun q => absurd q (by decide)) (fun _ => ?_)) | (refine And.intro (fun _ => ?_) (fun q => absurd q (by decide))) | fail)
            refine cM_w 0 16 rfl rfl (by decide) (by decide) (fun hm => ?_) (fun q => ?_)
            · (repeat' first | (refine And.intro (fun q => absurd q (by decide)) (fun _ => ?_)) | (refine And.intro (fun _ => ?_) (fun q => absurd q (by decide))) | fail)
              refine cM_w 0 9 rfl rfl (by decide) (by decide) (fun hs => ?_) (fun q => ?_)
              · (repeat' first | (refine And.intro (fun q => absurd q (by decide)) (fun _ => ?_)) | (refine And.intro (fun _ => ?_) (fun q => absurd q (by decide))) | fail)
                refine cM_w 0 99999 rfl rfl (by decide) (by decide) (fun ho => ?_) (fun q => ?_)
                · (repeat' first | (refine And.intro (fun q => absurd q (by decide)) (fun _ => ?_)) | (refine And.intro (fun _ => ?_) (fun q => absurd q (by decide))) | fail)
                  refine (q2 ⟨hx, hp, ⟨g1, g2⟩, hb, hm, hs, ho⟩).mono (fun a S2 hq => ?_)
                  obtain ⟨v, rfl, hq⟩ := hq
                  exact hq
                · (repeat' first | (refine And.intro (fun q => absurd q (by decide)) (fun _ => ?_)) | (refine And.intro (fun _ => ?_) (fun q => absurd q (by decide))) | fail)
                  exact bad (fun k => q k.2.2.2.2.2.2)
              · (repeat' first | (refine And.intro (fun q => absurd q (by decide)) (fun _ => ?_)) | (refine And.intro (fun _ => ?_) (fun q => absurd q (by decide))) | fail)
                exact bad (fun k => q k.2.2.2.2.2.1)
            · (repeat' first | (refine And.intro (fun q => absurd q (by decide)) (fun _ => ?_)) | (refine And.intro (fun _ => ?_) (fun q => absurd q (by decide))) | fail)
              exact bad (fun k => q k.2.2.2.2.1)
          · (repeat' first | (refine And.intro (fun q => absurd q (by decide)) (fun _ => ?_)) | (refine And.intro (fun _ => ?_) (fun q => absurd q (by decide))) | fail)
            exact bad (fun k => q k.2.2.2.1)
        · (repeat' first | (refine And.intro (fun q => absurd q (by decide)) (fun _ => ?_)) | (refine And.intro (fun _ => ?_) (fun q => absurd q (by decide))) | fail)
          exact bad (fun k => q k.2.2.1)
      · (repeat' first | (refine And.intro (fun q => absurd q (by decide)) (fun _ => ?_)) | (refine And.intro (fun _ => ?_) (fun q => absurd q (by decide))) | fail)
        exact bad (fun k => q k.2.1)
  have cb : ¬ okY nt x p g b m s o → CT (dp + 5) 0 0 m_M_says [M0, .inl x, .inl p, .inl g, .inl b, .inl m, .inl s, .inl o] S (fun a' S2 => a' = some (.inr (.inl (-4611686018427387904))) ∧ Fr (fl [29, 30, 29002, 69]) S S2) := fun nn => mm e10 (fun _ => ⟨rfl, Fr.rf⟩) (fun k => absurd k nn)
  refine ct_of (xmok_all (by decide)) rfl (V_go (pc := 0) pk_107 [] 60 ?_)
  refine cC_isText e9 (by omega) (fun hx => ?_) (fun q => ?_)
  · (repeat' first | (refine And.intro (fun q => absurd q (by decide)) (fun _ => ?_)) | (refine And.intro (fun _ => ?_) (fun q => absurd q (by decide))) | fail)
    refine cC_w 0 2 rfl rfl (by decide) (by decide) (fun hp => ?_) (fun q => ?_)
    · (repeat' first | (refine And.intro (fun q => absurd q (by decide)) (fun _ => ?_)) | (refine And.intro (fun _ => ?_) (fun q => absurd q (by decide))) | fail)
      refine ct_within (fun g1 g2 => ?_) (fun q => ?_)
      · (repeat' first | (refine And.intro (fun q => absurd q (by decide)) (fun _ => ?_)) | (refine And.intro (fun _ => ?_) (fun q => absurd q (by decide))) | fail)
        refine cC_w 0 9999 rfl rfl (by decide) (by decide) (fun hb => ?_) (fun q => ?_)
        · (repeat' first | (refine And.intro (fun q => absurd q (by decide)) (fun _ => ?_)) | (refine And.intro (fun _ => ?_) (fun q => absurd q (by decide))) | fail)
          refine cC_w 0 16 rfl rfl (by decide) (by decide) (fun hm => ?_) (fun q => ?_)
          · (repeat' first | (refine And.intro (fun q => absurd q (by decide)) (fun _ => ?_)) | (refine And.intro (fun _ => ?_) (fun q => absurd q (by decide))) | fail)
            refine cC_w 0 9 rfl rfl (by decide) (by decide) (fun hs => ?_) (fun q => ?_)
            · (repeat' first | (refine And.intro (fun q => absurd q (by decide)) (fun _ => ?_)) | (refine And.intro (fun _ => ?_) (fun q => absurd q (by decide))) | fail)
              refine cC_w 0 99999 rfl rfl (by decide) (by decide) (fun ho => ?_) (fun q => ?_)
              · (repeat' first | (refine And.intro (fun q => absurd q (by decide)) (fun _ => ?_)) | (refine And.intro (fun _ => ?_) (fun q => absurd q (by decide))) | fail)
                have ok : okY nt x p g b m s o := ⟨hx, hp, ⟨g1, g2⟩, hb, hm, hs, ho⟩
                refine ct_C_monthOf ?_
                refine ct_setVoyage ?_
                refine ct_setOwn ?_
                refine And.intro (hx.vp b4.2) ?_
                obtain ⟨P, -, p2, rfl⟩ := hp
                obtain ⟨a, e, c, h1, h2, h3, h4, h5, h6, h7⟩ := hG x.toNatClampNeg P hx.lt (by omega)
                have emo : S.1 0 0 13 / 30 - S.1 0 0 13 / 30 / 12 * 12 = nI (t / 30 % 12) := by rw [e13]; exact mon_N (by omega)
                refine ct_reckon (T := x.toNatClampNeg) (P := P) (a := a) (e := e) (c := c) (vals := fun i => (xupd (xupd (xupd (xupd (xupd (xupd S 29 0 0 g) 29 0 1 b) 29 0 2 m) 29 0 5 (S.1 0 0 13 / 30 - S.1 0 0 13 / 30 / 12 * 12)) 29 0 3 s) 29 0 4 o).1 29 0 i) (by omega) h1 h2 h3 h4 h6 (fun i hi => (h7 i hi).2.1) (fun i hi => rfl) (fun S1 f1 => ?_)
                have f0 : Fr (fl [29]) S (xupd (xupd (xupd (xupd (xupd (xupd S 29 0 0 g) 29 0 1 b) 29 0 2 m) 29 0 5 (S.1 0 0 13 / 30 - S.1 0 0 13 / 30 / 12 * 12)) 29 0 3 s) 29 0 4 o) := (((((Fr.rf.up rfl).up rfl).up rfl).up rfl).up rfl).up rfl
                have f2 : Fr (fl [29, 30, 29002]) S S1 := (f0.wk (by decide)).tr (f1.wk (by decide))
                refine mm ((f2.1 36 0 33 rfl).trans e10) (fun k => absurd ok k) (fun _ => ?_)
                rw [hx.eq]
                have hrow : 3 * x.toNatClampNeg + P < 18 := by have := hx.lt; omega
                refine ct_M_value (d := dp + 3) (T := x.toNatClampNeg) (P := P) (e := e) (c := c) (dy := t) (vals := fun i => (xupd (xupd (xupd (xupd (xupd (xupd S 29 0 0 g) 29 0 1 b) 29 0 2 m) 29 0 5 (S.1 0 0 13 / 30 - S.1 0 0 13 / 30 / 12 * 12)) 29 0 3 s) 29 0 4 o).1 29 0 i) hrow ((f2.1 62 0 _ rfl).trans h5) h6 (fun i hi => (h7 i hi).1) (fun i hi => ⟨(f2.1 63 0 _ rfl).trans (h7 i hi).2.2.1, fun k => (f2.1 64 0 _ rfl).trans ((h7 i hi).2.2.2 k)⟩) ((f2.1 36 0 0 rfl).trans e14) b6 ⟨rfl, rfl, rfl, rfl, rfl, emo⟩ (fun S2 f3 => ⟨_, rfl, rfl, ?_⟩)
                exact (f2.wk (by decide)).tr (f3.wk (by decide))
              · (repeat' first | (refine And.intro (fun q => absurd q (by decide)) (fun _ => ?_)) | (refine And.intro (fun _ => ?_) (fun q => absurd q (by decide))) | fail)
                exact cb (fun k => q k.2.2.2.2.2.2)
            · (repeat' first | (refine And.intro (fun q => absurd q (by decide)) (fun _ => ?_)) | (refine And.intro (fun _ => ?_) (fun q => absurd q (by decide))) | fail)
              exact cb (fun k => q k.2.2.2.2.2.1)
          · (repeat' first | (refine And.intro (fun q => absurd q (by decide)) (fun _ => ?_)) | (refine And.intro (fun _ => ?_) (fun q => absurd q (by decide))) | fail)
            exact cb (fun k => q k.2.2.2.2.1)
        · (repeat' first | (refine And.intro (fun q => absurd q (by decide)) (fun _ => ?_)) | (refine And.intro (fun _ => ?_) (fun q => absurd q (by decide))) | fail)
          exact cb (fun k => q k.2.2.2.1)
      · (repeat' first | (refine And.intro (fun q => absurd q (by decide)) (fun _ => ?_)) | (refine And.intro (fun _ => ?_) (fun q => absurd q (by decide))) | fail)
        exact cb (fun k => q k.2.2.1)
    · (repeat' first | (refine And.intro (fun q => absurd q (by decide)) (fun _ => ?_)) | (refine And.intro (fun _ => ?_) (fun q => absurd q (by decide))) | fail)
      exact cb (fun k => q k.2.1)
  · (repeat' first | (refine And.intro (fun q => absurd q (by decide)) (fun _ => ?_)) | (refine And.intro (fun _ => ?_) (fun q => absurd q (by decide))) | fail)
    exact cb (fun k => q k.1)

theorem cs_end {dp n np nd nv nt r t : Nat} {S : xS} (hn : n ≤ 600) (hN : IN np nd nv nt r t S) (hB : IB n np nd t S) (hI : ID nd nv S) (hG : IG nt S) {x : Int32} : CT (dp + 5) 0 0 m_C_end [C0, .inl x] S (fun a S1 => shI a (CT (dp + 5) 0 0 m_M_end [M0, .inl x] S1 (fun a' S2 => a' = a ∧ (IB n np nd t S2 ∧ ID nd nv S2) ∧ Fr (fl [29, 30, 29002, 69, 37027, 37028, 37029, 13004, 13006, 16004, 16005, 16006, 16007, 46, 47, 57, 58, 59]) S (S2.1, S.2)))) := by
  obtain ⟨⟨b1, b2, b3, b4, b5, b6⟩, ⟨e1, e2⟩, ⟨e3, e4⟩, ⟨e7, e8⟩, ⟨e9, e10⟩, ⟨e11, e12⟩, e13, e14⟩ := id hN
  have hl : ∀ D, D < nd → IBl n np t D S := fun D hD => (hB D (by omega)).1 hD
  obtain ⟨a0, g0, c0, hC0, hM0⟩ := (hG r 0 b5 (by decide)).two
  obtain ⟨a1, g1, c1, hC1, hM1⟩ := (hG r 1 b5 (by decide)).two
  obtain ⟨a2, g2, c2, hC2, hM2⟩ := (hG r 2 b5 (by decide)).two
  have emo : S.1 0 0 13 / 30 - S.1 0 0 13 / 30 / 12 * 12 = nI (t / 30 % 12) := by rw [e13]; exact mon_N (by omega)
  have keep : IB n np nd t S ∧ ID nd nv S := ⟨hB, hI⟩
  have r6 : r < 6 := by omega
  refine ct_C_end (d := dp) (x := x) (g := _) (b := _) (m := _) (s := _) e3 e7 b2 b3 e11 r6 hC0 hC1 hC2 rfl rfl rfl rfl (fun q => ?_) (fun hx q => ?_) (fun hx th st S' f1 => ?_)
  · exact ct_M_end e4 e8 b2 b3 e12 r6 e14 b6 rfl hM0 hM1 hM2 rfl rfl rfl (fun _ => ⟨rfl, keep, Fr.rf⟩) (fun g => absurd g q) (fun g => absurd g q)
  · have hb := hl _ hx.lt
    exact ct_M_end e4 e8 b2 b3 e12 r6 e14 b6 rfl hM0 hM1 hM2 rfl rfl rfl (fun g => absurd hx g) (fun _ _ => ⟨rfl, keep, Fr.rf⟩) (fun _ g1 g2 => absurd ⟨(there_eq hb b1).mp g1, fun g => g2 (hb.1.2.2.2.2.1.trans g)⟩ q)
  · obtain ⟨D, hD, rfl⟩ := id hx
    have eD : (nI D).toNatClampNeg = D := nI_clamp (by omega)
    rw [eD] at th st f1 ⊢
    have hb := hl D hD
    rw [emo] at f1
    generalize hg : S.1 12 D 4 - S.1 12 D 6 = g at f1
    generalize hbg : S.1 0 0 13 - S.1 12 D 7 = b at f1
    generalize hm : mnC S (nI D) nv = m at f1
    have fC0 : Fr (fl [29, 30, 29002, 13004, 13006, 16004, 16005, 16006, 16007]) S S' := ((enA_fr S D nv (rvP c1 g1 g b m (nI (t / 30 % 12)) 0 0)).wk (by decide)).tr (((enB_fr _ D nv (rvP c0 g0 g b m (nI (t / 30 % 12))) (rvP c2 g2 g b m (nI (t / 30 % 12)))).wk (by decide)).tr ((Fr.up Fr.rf rfl).tr (f1.wk (by decide))))
    have h36 : ∀ k i j, 36 ≤ k → k ≤ 74 → S'.1 k i j = S.1 k i j := fun k i j h1 h2 => fC0.1 k i j (fl_36 (by decide) h1 h2)
    have q36 : ∀ i j, S'.1 36 i j = S.1 36 i j := fun i j => h36 36 i j (by decide) (by decide)
    have x47 : S'.1 47 0 D = S.1 12 D 6 := (h36 47 0 D (by decide) (by decide)).trans hb.1.2.2.2.2.1
    have x46 : S'.1 46 0 D = S.1 12 D 4 := (h36 46 0 D (by decide) (by decide)).trans hb.1.2.2.2.1
    have x48 : S'.1 48 0 D = S.1 12 D 7 := (h36 48 0 D (by decide) (by decide)).trans hb.1.2.2.2.2.2
    have xm : mnM S' D nv = m := by
      rw [← hm, ← mn_eq hI b3 nv (Nat.le_refl _)]
      have : ∀ k, mnM S' D k = mnM S D k := by
        intro k
        induction k with
        | zero => rfl
        | succ k ih =>
          show (if (S'.1 54 0 k = nI D ∧ S'.1 58 0 k = 0) ∧ (S'.1 53 0 k = 1 ∨ S'.1 53 0 k = 2) then mnM S' D k + 1 else mnM S' D k) = _
          rw [ih, h36 54 0 k (by decide) (by decide), h36 58 0 k (by decide) (by decide), h36 53 0 k (by decide) (by decide)]
          rfl
      exact this nv
    have hs47 : ¬ S'.1 47 0 D = -1 := by rw [x47]; exact st
    have hth : mThere S' D := ⟨(h36 49 0 D (by decide) (by decide)).trans ((there_eq hb b1).mpr th).1, (h36 44 0 D (by decide) (by decide)).trans ((there_eq hb b1).mpr th).2⟩
    refine ct_M_end (d := dp) (x := nI D) (g := g) (b := b) (m := m) ((q36 0 8).trans e4) ((q36 0 19).trans e8) b2 b3 ((q36 0 34).trans e12) r6 ((q36 0 0).trans e14) b6 rfl (hM0.fr fC0 (by decide)) (hM1.fr fC0 (by decide)) (hM2.fr fC0 (by decide)) (by rw [eD, x46, x47, hg]) (by rw [eD, x48, ← e13, hbg]) (by rw [eD]; exact xm) (fun g => absurd hx g) (fun _ g => absurd ⟨by rw [eD]; exact hth, by rw [eD]; exact hs47⟩ g) (fun _ _ _ T3 T4 h3 hw3 h4 => ?_)
    rw [eD] at h3 hw3 h4 ⊢
    have hmx : mix S S' = S := mix_eq h36 fC0.2
    have fg : Fr (fl [37027, 37028, 37029]) (mix S S') (mix S (fgM S' g b m)) := frMix2 (l1 := []) Fr.rf (fgM_fr S' g b m) (by decide) (by decide)
    rw [hmx] at fg
    obtain ⟨rB, rI⟩ := en_rel (T := fgM S' g b m) (T3 := T3) (F := rvP c1 g1 g b m (nI (t / 30 % 12)) 0 0) (f0 := rvP c0 g0 g b m (nI (t / 30 % 12))) (f2 := rvP c2 g2 g b m (nI (t / 30 % 12))) (hB.fr fg (by decide)) (hI.fr fg (by decide)) b3 hD b2 (by omega) st h3 hw3
    generalize enB (enA S D nv (rvP c1 g1 g b m (nI (t / 30 % 12)) 0 0)) D nv (rvP c0 g0 g b m (nI (t / 30 % 12))) (rvP c2 g2 g b m (nI (t / 30 % 12))) = Y at rB rI f1
    have fZ := enM_fr (fgM S' g b m) D nv (rvP c1 g1 g b m (nI (t / 30 % 12)) 0 0)
    generalize enM (fgM S' g b m) D nv (rvP c1 g1 g b m (nI (t / 30 % 12)) 0 0) = Z at rB rI h3 h4 fZ
    have fP := ptM_fr T3 D (enS Z D) (sgP (tkB Z D) (wtM Z (rvP c0 g0 g b m (nI (t / 30 % 12)))) nv) (rvP c2 g2 g b m (nI (t / 30 % 12))) nv
    generalize ptM T3 D (enS Z D) (sgP (tkB Z D) (wtM Z (rvP c0 g0 g b m (nI (t / 30 % 12)))) nv) (rvP c2 g2 g b m (nI (t / 30 % 12))) nv = P at rB rI h4 fP
    -- the end of both
    have fT3 : Fr (fl [37027, 37028, 37029, 46, 59, 58, 69]) S' (T3.1, S'.2) := ((fgM_fr S' g b m).wk (by decide)).tr ((fZ.wk (by decide)).tr ⟨fun k i j q => (h3.wk (l' := [37027, 37028, 37029, 46, 59, 58, 69]) (by decide)).1 k i j q, by rw [fZ.2, (fgM_fr S' g b m).2]⟩)
    have fT4 : Fr (fl [37027, 37028, 37029, 46, 59, 58, 69, 57]) S' (T4.1, S'.2) := (fT3.wk (by decide)).tr ⟨fun k i j q => ((fP.wk (by decide)).tr (h4.wk (l' := [37027, 37028, 37029, 46, 59, 58, 69, 57]) (by decide))).1 k i j q, rfl⟩
    have fE : Fr (fl [37027, 37028, 37029, 46, 59, 58, 69, 57, 47]) S' ((xupd T4 47 0 D (-1)).1, S'.2) := (fT4.wk (by decide)).tr (Fr.up (S := (T4.1, S'.2)) Fr.rf rfl)
    have hcl : ∀ k i j, ¬ (36 ≤ k ∧ k ≤ 74) → (xupd T4 47 0 D (-1)).1 k i j = S'.1 k i j := fun k i j h => by
      have w1 : (xupd T4 47 0 D (-1)).1 k i j = T4.1 k i j := if_neg (fun q => h ⟨by omega, by omega⟩)
      have w2 : (fgM S' g b m).1 k i j = S'.1 k i j := (if_neg (fun q => h ⟨by omega, by omega⟩)).trans ((if_neg (fun q => h ⟨by omega, by omega⟩)).trans (if_neg (fun q => h ⟨by omega, by omega⟩)))
      rw [w1, h4.1 k i j (fl_no36 (by decide) h), fP.1 k i j (fl_no36 (by decide) h)]
      exact (h3.1 k i j (fl_no36 (by decide) h)).trans ((fZ.1 k i j (fl_no36 (by decide) h)).trans w2)
    have eM : (mix S' (xupd T4 47 0 D (-1))).1 = (xupd T4 47 0 D (-1)).1 := by
      funext k i j
      show cond (Nat.ble 36 k && Nat.ble k 74) _ _ = _
      cases hb : (Nat.ble 36 k && Nat.ble k 74) with
      | true => rfl
      | false =>
        refine (hcl k i j (fun q => ?_)).symm
        rw [Nat.ble_eq_true_of_le q.1, Nat.ble_eq_true_of_le q.2] at hb
        cases hb
    have fin : Fr (fl [29, 30, 29002, 69]) (mix (xupd Y 12 D 6 (-1)) (xupd P 47 0 D (-1))) (mix S' (xupd T4 47 0 D (-1))) := frMix2 f1 h4.cong (by decide) (by decide)
    have rB2 : IB n np nd t (xupd T4 47 0 D (-1)) := by
      refine IB.of1 eM (IB.fr fin (by decide) ?_)
      rw [mix_up2 rfl, mix_up1 rfl]
      exact rB.rest hD
    have rI2 : ID nd nv (xupd T4 47 0 D (-1)) := by
      refine ID.of1 eM (ID.fr fin (by decide) ?_)
      rw [mix_up2 rfl, mix_up1 rfl]
      exact rI.fr (l := [13006, 47]) ((Fr.rf.up rfl).up rfl) (by decide)
    refine ⟨?_, ⟨rB2, rI2⟩, (fC0.wk (by decide)).tr ⟨fun k i j q => (fE.wk (by decide)).1 k i j q, fC0.2.symm⟩⟩
    have := ((rB2 D (by omega)).1 hD).1.2.2.2.1
    rw [hcl 12 D 4 (by decide)] at this
    rw [← this]
    rfl

theorem cs_order {dp n0 np nd nv nt r t : Nat} {S : xS} (hn0 : n0 ≤ 600) (hN : IN np nd nv nt r t S) (hA : IA n0 S) (hB : IB n0 np nd t S) (hC : IC np t S) {x n la w : Int32} : CT (dp + 10) 0 0 m_C_order [C0, .inl x, .inl n, .inl la, .inl w] S (fun a S1 => shJ a (CT (dp + 10) 0 0 m_M_order [M0, .inl x, .inl n, .inl la, .inl w] S1 (fun a' S2 => a' = a ∧ IC np t S2 ∧ Fr (fl fPl) S S2))) := by
  obtain ⟨⟨b1, b2, b3, b4, b5, b6⟩, ⟨e1, e2⟩, ⟨e3, e4⟩, -⟩ := id hN
  have keep : IC np t S ∧ Fr (fl fPl) S S := ⟨hC, Fr.rf⟩
  -- the model, step by step
  have mm : ∀ {S' : xS} {Q : xQ}, S'.1 36 0 8 = nI nd → (¬ (okP nd x n la ∧ inR 0 2 w) → Q (some (.inr (.inl (-4611686018427387904)))) S') → (okP nd x n la → inR 0 2 w → CT (dp + 9) 0 0 m_M_finds [M0, .inl x, .inl n, .inl la] S' (fun a S2 => (a = some (.inl 0) ∧ Q (some (.inr (.inl (-4611686018427387904)))) S2) ∨ (a = some (.inl 1) ∧ Q (some (.inr (.inl (if w = 0 then S2.1 36 0 50 else if w = 1 then S2.1 36 0 51 else S2.1 36 0 52).toInt64))) S2))) → CT (dp + 10) 0 0 m_M_order [M0, .inl x, .inl n, .inl la, .inl w] S' Q := by
    intro S' Q h8 q1 q2
    refine ct_of (xmok_all (by decide)) rfl (V_go (pc := 0) pk_176 [] 60 ?_)
    refine ct_mayOrder (d := dp + 7) h8 b2 (fun ok => ?_) (fun q => ?_)
    · (repeat' first | (refine And.intro (fun q => absurd q (by decide)) (fun _ => ?_)) | (refine And.intro (fun _ => ?_) (fun q => absurd q (by decide))) | fail)
      refine cM_w 0 2 rfl rfl (by decide) (by decide) (fun hw => ?_) (fun q => ?_)
      · (repeat' first | (refine And.intro (fun q => absurd q (by decide)) (fun _ => ?_)) | (refine And.intro (fun _ => ?_) (fun q => absurd q (by decide))) | fail)
        refine (q2 ok hw).mono (fun a S2 hq => ?_)
        rcases hq with ⟨rfl, hq⟩ | ⟨rfl, hq⟩
        · (repeat' first | (refine And.intro (fun q => absurd q (by decide)) (fun _ => ?_)) | (refine And.intro (fun _ => ?_) (fun q => absurd q (by decide))) | fail)
          exact hq
        · (repeat' first | (refine And.intro (fun q => absurd q (by decide)) (fun _ => ?_)) | (refine And.intro (fun _ => ?_) (fun q => absurd q (by decide))) | fail)
          rcases sw3 hw with rfl | rfl | rfl
          · (repeat' first | (refine And.intro (fun q => absurd q (by decide)) (fun _ => ?_)) | (refine And.intro (fun _ => ?_) (fun q => absurd q (by decide))) | fail)
            exact hq
          · (repeat' first | (refine And.intro (fun q => absurd q (by decide)) (fun _ => ?_)) | (refine And.intro (fun _ => ?_) (fun q => absurd q (by decide))) | fail)
            exact hq
          · (repeat' first | (refine And.intro (fun q => absurd q (by decide)) (fun _ => ?_)) | (refine And.intro (fun _ => ?_) (fun q => absurd q (by decide))) | fail)
            exact hq
      · (repeat' first | (refine And.intro (fun q => absurd q (by decide)) (fun _ => ?_)) | (refine And.intro (fun _ => ?_) (fun q => absurd q (by decide))) | fail)
        exact q1 (fun g => q g.2)
    · (repeat' first | (refine And.intro (fun q => absurd q (by decide)) (fun _ => ?_)) | (refine And.intro (fun _ => ?_) (fun q => absurd q (by decide))) | fail)
      exact q1 (fun g => q g.1)
  have bad : ¬ (okP nd x n la ∧ inR 0 2 w) → CT (dp + 10) 0 0 m_M_order [M0, .inl x, .inl n, .inl la, .inl w] S (fun a' S2 => a' = some (.inr (.inl (-4611686018427387904))) ∧ IC np t S2 ∧ Fr (fl fPl) S S2) := fun nn => mm e4 (fun _ => ⟨rfl, keep⟩) (fun h1 h2 => absurd ⟨h1, h2⟩ nn)
  refine ct_of (xmok_all (by decide)) rfl (V_go (pc := 0) pk_108 [] 60 ?_)
  refine ct_isPlan (d := dp + 7) e3 b2 (fun ok => ?_) (fun q => ?_)
  · (repeat' first | (refine And.intro (fun q => absurd q (by decide)) (fun _ => ?_)) | (refine And.intro (fun _ => ?_) (fun q => absurd q (by decide))) | fail)
    refine cC_w 0 2 rfl rfl (by decide) (by decide) (fun hw => ?_) (fun q => ?_)
    · (repeat' first | (refine And.intro (fun q => absurd q (by decide)) (fun _ => ?_)) | (refine And.intro (fun _ => ?_) (fun q => absurd q (by decide))) | fail)
      obtain ⟨⟨D, hD, rfl⟩, ⟨N, n1, n3, rfl⟩, ⟨la, _, l9, rfl⟩⟩ := id ok
      have hb := (hB D (by omega)).1 hD
      refine ct_C_plan (d := dp) hn0 hN hA hB hC hD n3 l9 (fun th => ?_) (fun P hP th eP S1 S' c L W t9 C hl f1 hc hc9 best q10 q9 q11 hdg => ?_)
      · (repeat' first | (refine And.intro (fun q => absurd q (by decide)) (fun _ => ?_)) | (refine And.intro (fun _ => ?_) (fun q => absurd q (by decide))) | fail)
        refine mm e4 (fun g => absurd ⟨ok, hw⟩ g) (fun _ _ => ?_)
        exact ct_finds_no (d := dp + 6) (by omega) (fun g => th ((there_eq hb b1).mp g)) (Or.inl ⟨rfl, rfl, keep⟩)
      · have fS' : Fr (fl [9, 10, 32004, 32005, 32006, 32007, 32008, 32009, 32010, 32011, 32, 33]) S S' := ((ntC_fr S P (nI t)).wk (by decide)).tr ((hl.fr.wk (by decide)).tr (f1.wk (by decide)))
        have q8 : S'.1 36 0 8 = nI nd := (fS'.1 36 0 8 rfl).trans e4
        by_cases hL : 1 ≤ L
        · rw [if_pos hL]
          have fin : ∀ v : Int32, v = (if w = 0 then nI W else if w = 1 then nI L else nI t9) → CT (dp + 10) 0 0 m_M_order [M0, .inl (nI D), .inl (nI N), .inl (nI la), .inl w] S' (fun a' S2 => a' = some (.inr (.inl v.toInt64)) ∧ IC np t S2 ∧ Fr (fl fPl) S S2) := by
            intro v hv
            refine mm q8 (fun g => absurd ⟨ok, hw⟩ g) (fun _ _ => ?_)
            refine ct_finds_after (d := dp + 6) hn0 hN hA hB hC hD n3 hP l9 th eP hl f1 hc hc9 best (fun S2 k1 k2 k3 k4 => ?_)
            rw [if_pos hL]
            refine Or.inr ⟨rfl, ?_, k1, k2⟩
            rw [(k4 hL).1, k3, (k4 hL).2.1, hv]
          (repeat' first | (refine And.intro (fun q => absurd q (by decide)) (fun _ => ?_)) | (refine And.intro (fun _ => ?_) (fun q => absurd q (by decide))) | fail)
          rcases sw3 hw with rfl | rfl | rfl
          · (repeat' first | (refine And.intro (fun q => absurd q (by decide)) (fun _ => ?_)) | (refine And.intro (fun _ => ?_) (fun q => absurd q (by decide))) | fail)
            exact fin (S'.1 31 0 9) (q9 hL)
          · (repeat' first | (refine And.intro (fun q => absurd q (by decide)) (fun _ => ?_)) | (refine And.intro (fun _ => ?_) (fun q => absurd q (by decide))) | fail)
            exact fin (S'.1 31 0 10) q10
          · (repeat' first | (refine And.intro (fun q => absurd q (by decide)) (fun _ => ?_)) | (refine And.intro (fun _ => ?_) (fun q => absurd q (by decide))) | fail)
            exact fin (S'.1 31 0 11) q11
        · rw [if_neg hL]
          (repeat' first | (refine And.intro (fun q => absurd q (by decide)) (fun _ => ?_)) | (refine And.intro (fun _ => ?_) (fun q => absurd q (by decide))) | fail)
          refine mm q8 (fun g => absurd ⟨ok, hw⟩ g) (fun _ _ => ?_)
          refine ct_finds_after (d := dp + 6) hn0 hN hA hB hC hD n3 hP l9 th eP hl f1 hc hc9 best (fun S2 k1 k2 k3 k4 => ?_)
          rw [if_neg hL]
          exact Or.inl ⟨rfl, rfl, k1, k2⟩
    · (repeat' first | (refine And.intro (fun q => absurd q (by decide)) (fun _ => ?_)) | (refine And.intro (fun _ => ?_) (fun q => absurd q (by decide))) | fail)
      exact bad (fun g => q g.2)
  · (repeat' first | (refine And.intro (fun q => absurd q (by decide)) (fun _ => ?_)) | (refine And.intro (fun _ => ?_) (fun q => absurd q (by decide))) | fail)
    exact bad (fun g => q g.1)

theorem cs_leg {dp n0 np nd nv nt r t : Nat} {S : xS} (hn0 : n0 ≤ 600) (hN : IN np nd nv nt r t S) (hA : IA n0 S) (hB : IB n0 np nd t S) (hC : IC np t S) {x n la w : Int32} : CT (dp + 10) 0 0 m_C_leg [C0, .inl x, .inl n, .inl la, .inl w] S (fun a S1 => shI a (CT (dp + 10) 0 0 m_M_leg [M0, .inl x, .inl n, .inl la, .inl w] S1 (fun a' S2 => a' = a ∧ IC np t S2 ∧ Fr (fl fPl) S S2))) := by
  obtain ⟨⟨b1, b2, b3, b4, b5, b6⟩, ⟨e1, e2⟩, ⟨e3, e4⟩, -⟩ := id hN
  have keep : IC np t S ∧ Fr (fl fPl) S S := ⟨hC, Fr.rf⟩
  have mm : ∀ {S' : xS} {Q : xQ}, S'.1 36 0 8 = nI nd → (¬ okP nd x n la → Q (some (.inl (-2))) S') → (okP nd x n la → w < 0 → Q (some (.inl (-1))) S') → (okP nd x n la → ¬ w < 0 → CT (dp + 9) 0 0 m_M_finds [M0, .inl x, .inl n, .inl la] S' (fun a S2 => (a = some (.inl 0) ∧ Q (some (.inl (-1))) S2) ∨ (a = some (.inl 1) ∧ ∃ L C : Nat, S2.1 36 0 51 = nI L ∧ L ≤ 3 ∧ (nI L ≤ w → Q (some (.inl (-1))) S2) ∧ ∀ I, w = nI I → I < L → S2.1 36 0 53 = nI C ∧ C < 27000 ∧ Q (some (.inl (lgA L C I))) S2))) → CT (dp + 10) 0 0 m_M_leg [M0, .inl x, .inl n, .inl la, .inl w] S' Q := by
    intro S' Q h8 q1 q2 q3
    refine ct_of (xmok_all (by decide)) rfl (V_go (pc := 0) pk_181 [45] 60 ?_)
    refine ct_mayOrder (d := dp + 7) h8 b2 (fun ok => ?_) (fun q => ?_)
    · (repeat' first | (refine And.intro (fun q => absurd q (by decide)) (fun _ => ?_)) | (refine And.intro (fun _ => ?_) (fun q => absurd q (by decide))) | fail)
      refine And.intro (fun z => q2 ok z) (fun z => ?_)
      refine (q3 ok z).mono (fun a S2 hq => ?_)
      rcases hq with ⟨rfl, hq⟩ | ⟨rfl, L, C, h51, hL, hn, hk⟩
      · (repeat' first | (refine And.intro (fun q => absurd q (by decide)) (fun _ => ?_)) | (refine And.intro (fun _ => ?_) (fun q => absurd q (by decide))) | fail)
        exact hq
      · (repeat' first | (refine And.intro (fun q => absurd q (by decide)) (fun _ => ?_)) | (refine And.intro (fun _ => ?_) (fun q => absurd q (by decide))) | fail)
        refine And.intro (fun y => ?_) (fun y => ?_)
        · have y : w < S2.1 36 0 51 := y
          rw [h51] at y
          obtain ⟨I, hI, e⟩ := nI_of2 (M := nI L) (n := L) (nI_toInt (by omega)) z (Int32.le_of_lt y)
          subst e
          have IL : I < L := (nI_ltI (by omega) (by omega)).mp y
          obtain ⟨h53, hC9, hq⟩ := hk I rfl IL
          show V (dp + 10) 0 0 m_M_leg 45 [some M0, some (.inl x), some (.inl n), some (.inl la), some (.inl (nI I)), some (.inl (S2.1 36 0 53)), none] [] S2 Q
          rw [h53]
          have loop : ∀ m j, I + 1 + j + m = L → V (dp + 10) 0 0 m_M_leg 51 [some M0, some (.inl x), some (.inl n), some (.inl la), some (.inl (nI I)), some (.inl (nI (C / 30 ^ j))), some (.inl (nI (I + 1 + j)))] [] S2 Q := by
            intro m
            induction m with
            | zero =>
              intro j hj
              have ej : L - 1 - I = j := by omega
              unfold lgA at hq
              rw [ej] at hq
              have hcz : C / 30 ^ j < 2 ^ 31 := Nat.lt_of_le_of_lt (Nat.div_le_self _ _) (by omega)
              generalize C / 30 ^ j = z at hq hcz ⊢
              have g1 : (nI z - nI z / 30 * 30) / 6 = nI (z % 30 / 6) := by rw [show (30 : Int32) = nI 30 from rfl, rem_N hcz (by decide) (by decide), show (6 : Int32) = nI 6 from rfl, nI_div (by omega) (by decide) (by decide)]
              have g2 : nI z - nI z / 6 * 6 = nI (z % 30 % 6) := by
                rw [show (6 : Int32) = nI 6 from rfl, rem_N hcz (by decide) (by decide)]
                congr 1; omega
              refine V_go pk_181 [51] 60 ?_
              refine And.intro (fun _ => ?_) (fun k => absurd ?_ k)
              · refine And.intro (by decide) ?_
                refine And.intro (by decide) ?_
                refine And.intro (by decide) ?_
                refine qi hq ?_ rfl
                show 10 * ((nI z - nI z / 30 * 30) / 6) + (nI z - nI z / 6 * 6) = _
                rw [g1, g2]
              · show S2.1 36 0 51 ≤ nI (I + 1 + j)
                rw [h51]; exact nI_le (by omega) (by omega)
            | succ m ih =>
              intro j hj
              have ih := ih (j + 1) (by omega)
              have hcz : C / 30 ^ j < 2 ^ 31 := Nat.lt_of_le_of_lt (Nat.div_le_self _ _) (by omega)
              have ez : nI (C / 30 ^ j) / 30 = nI (C / 30 ^ (j + 1)) := by
                rw [show (30 : Int32) = nI 30 from rfl, nI_div hcz (by decide) (by decide), Nat.div_div_eq_div_mul, Nat.pow_succ]
              rw [← ez, show nI (I + 1 + (j + 1)) = nI (I + 1 + j) + 1 from (nI_1 _).symm] at ih
              generalize nI (C / 30 ^ j) = z at ih ⊢
              refine V_go pk_181 [51] 60 ?_
              refine And.intro (fun k => ?_) (fun _ => ?_)
              · have k : S2.1 36 0 51 ≤ nI (I + 1 + j) := k
                rw [h51] at k
                exact absurd ((nI_leI (by omega) (by omega)).mp k) (by omega)
              · refine And.intro (by decide) ?_
                exact ih
          have g := loop (L - 1 - I) 0 (by omega)
          rw [show C / 30 ^ 0 = C by rw [Nat.pow_zero, Nat.div_one], show nI (I + 1 + 0) = nI I + 1 from (nI_1 _).symm] at g
          refine V_go pk_181 [51] 60 ?_
          exact g
        · have y : ¬ w < S2.1 36 0 51 := y
          rw [h51] at y
          exact hn (Int32.not_lt.mp y)
    · (repeat' first | (refine And.intro (fun q => absurd q (by decide)) (fun _ => ?_)) | (refine And.intro (fun _ => ?_) (fun q => absurd q (by decide))) | fail)
      exact q1 q
  have bad : ¬ okP nd x n la → CT (dp + 10) 0 0 m_M_leg [M0, .inl x, .inl n, .inl la, .inl w] S (fun a' S2 => a' = some (.inl (-2)) ∧ IC np t S2 ∧ Fr (fl fPl) S S2) := fun nn => mm e4 (fun _ => ⟨rfl, keep⟩) (fun h1 h2 => absurd h1 nn) (fun h1 h2 => absurd h1 nn)
  refine ct_of (xmok_all (by decide)) rfl (V_go (pc := 0) pk_111 [] 60 ?_)
  refine ct_isPlan (d := dp + 7) e3 b2 (fun ok => ?_) (fun q => ?_)
  · (repeat' first | (refine And.intro (fun q => absurd q (by decide)) (fun _ => ?_)) | (refine And.intro (fun _ => ?_) (fun q => absurd q (by decide))) | fail)
    obtain ⟨⟨D, hD, rfl⟩, ⟨N, n1, n3, rfl⟩, ⟨la, _, l9, rfl⟩⟩ := id ok
    have hb := (hB D (by omega)).1 hD
    refine cC_w 0 2 rfl rfl (by decide) (by decide) (fun hw => ?_) (fun q => ?_)
    · (repeat' first | (refine And.intro (fun q => absurd q (by decide)) (fun _ => ?_)) | (refine And.intro (fun _ => ?_) (fun q => absurd q (by decide))) | fail)
      obtain ⟨I, _, hI, rfl⟩ := hw
      have eI : (nI I).toNatClampNeg = I := nI_clamp (by omega)
      have wn : ¬ nI I < 0 := nI_pos (by omega)
      refine ct_C_plan (d := dp) hn0 hN hA hB hC hD n3 l9 (fun th => ?_) (fun P hP th eP S1 S' c L W t9 C hl f1 hc hc9 best q10 q9 q11 hdg => ?_)
      · (repeat' first | (refine And.intro (fun q => absurd q (by decide)) (fun _ => ?_)) | (refine And.intro (fun _ => ?_) (fun q => absurd q (by decide))) | fail)
        refine mm e4 (fun g => absurd ok g) (fun _ z => absurd z wn) (fun _ _ => ?_)
        exact ct_finds_no (d := dp + 6) (by omega) (fun g => th ((there_eq hb b1).mp g)) (Or.inl ⟨rfl, rfl, keep⟩)
      · have fS' : Fr (fl [9, 10, 32004, 32005, 32006, 32007, 32008, 32009, 32010, 32011, 32, 33]) S S' := ((ntC_fr S P (nI t)).wk (by decide)).tr ((hl.fr.wk (by decide)).tr (f1.wk (by decide)))
        have q8 : S'.1 36 0 8 = nI nd := (fS'.1 36 0 8 rfl).trans e4
        have fin : ∀ v : Int32, v = (if I < L then lgA L C I else -1) → CT (dp + 10) 0 0 m_M_leg [M0, .inl (nI D), .inl (nI N), .inl (nI la), .inl (nI I)] S' (fun a' S2 => a' = some (.inl v) ∧ IC np t S2 ∧ Fr (fl fPl) S S2) := by
          intro v hv
          refine mm q8 (fun g => absurd ok g) (fun _ z => absurd z wn) (fun _ _ => ?_)
          refine ct_finds_after (d := dp + 6) hn0 hN hA hB hC hD n3 hP l9 th eP hl f1 hc hc9 best (fun S2 k1 k2 k3 k4 => ?_)
          by_cases y : 1 ≤ L
          · rw [if_pos y]
            have hL3 : L ≤ 3 ∧ C < 27000 := by
              rcases best with ⟨z, _⟩ | ⟨_, z, z2, _⟩
              · omega
              · have p1 : 30 ^ L ≤ 27000 := Nat.pow_le_pow_right (show 0 < 30 by decide) (show L ≤ 3 by omega)
                exact ⟨by omega, Nat.lt_of_lt_of_le z2 p1⟩
            refine Or.inr ⟨rfl, L, C, k3, hL3.1, fun z => ⟨?_, k1, k2⟩, fun I2 e h2 => ?_⟩
            · have z := (nI_leI (by omega) (by omega)).mp z
              rw [hv, if_neg (by omega)]
            · have e := (nI_eq (by omega) (by omega)).mp e
              subst e
              refine ⟨(k4 y).2.2, hL3.2, ?_, k1, k2⟩
              rw [hv, if_pos h2]
          · rw [if_neg y]
            exact Or.inl ⟨rfl, by rw [hv, if_neg (by omega)], k1, k2⟩
        by_cases hL : 1 ≤ L
        · rw [if_pos hL]
          (repeat' first | (refine And.intro (fun q => absurd q (by decide)) (fun _ => ?_)) | (refine And.intro (fun _ => ?_) (fun q => absurd q (by decide))) | fail)
          refine And.intro (fun z => ?_) (fun z => ?_)
          · have z : nI I < S'.1 31 0 10 := z
            rw [q10] at z
            have hL3 : L ≤ 3 := by rcases best with ⟨z, _⟩ | ⟨_, z, _⟩ <;> omega
            have z := (nI_ltI (by omega) (by omega)).mp z
            have g := hdg I z
            refine And.intro (vi (N := 3) (by omega)) ?_
            refine And.intro (vi (N := 3) (by omega)) ?_
            rw [eI]
            refine fin _ ?_
            rw [if_pos z, g.1, g.2]
            rfl
          · have z : ¬ nI I < S'.1 31 0 10 := z
            rw [q10] at z
            have hL3 : L ≤ 3 := by rcases best with ⟨z, _⟩ | ⟨_, z, _⟩ <;> omega
            exact fin (-1) (if_neg (fun y => z (nI_lt y (by omega)))).symm
        · rw [if_neg hL]
          (repeat' first | (refine And.intro (fun q => absurd q (by decide)) (fun _ => ?_)) | (refine And.intro (fun _ => ?_) (fun q => absurd q (by decide))) | fail)
          exact fin (-1) (if_neg (by omega)).symm
    · (repeat' first | (refine And.intro (fun q => absurd q (by decide)) (fun _ => ?_)) | (refine And.intro (fun _ => ?_) (fun q => absurd q (by decide))) | fail)
      refine mm e4 (fun g => absurd ok g) (fun _ _ => ⟨rfl, keep⟩) (fun _ z => ?_)
      refine ct_finds_alone (d := dp + 6) hn0 hN hA hB hC hD n3 l9 (fun _ => Or.inl ⟨rfl, rfl, keep⟩) (fun S2 L hL k1 k2 k3 => ?_)
      by_cases y : 1 ≤ L
      · rw [if_pos y]
        refine Or.inr ⟨rfl, L, 0, k3, hL, fun _ => ⟨rfl, k1, k2⟩, fun I hI h2 => ?_⟩
        exact absurd ⟨I, Nat.zero_le _, by omega, hI⟩ q
      · rw [if_neg y]
        exact Or.inl ⟨rfl, rfl, k1, k2⟩
  · (repeat' first | (refine And.intro (fun q => absurd q (by decide)) (fun _ => ?_)) | (refine And.intro (fun _ => ?_) (fun q => absurd q (by decide))) | fail)
    exact bad q

theorem cs_text (hX : CIX) (hK : KPX) {dp np nd nv nt nb r t : Nat} {S : xS} (hN : IN np nd nv nt r t S) (hF : IF nb S) (hG : IG nt S) (hS : gStr S) (hW : gMw S) : CT (dp + 60) 1 160 m_C_text [C0] S (fun a S1 => shI a (CT (dp + 60) 0 0 m_M_text [M0] S1 (fun a' S2 => a' = a ∧ ∃ nt' nb', IN np nd nv nt' r t S2 ∧ IF nb' S2 ∧ IG nt' S2 ∧ Fr (fl fTx) S S2))) := by
  obtain ⟨⟨b1, b2, b3, ⟨b4, b4'⟩, b5, b6⟩, ⟨e1, e2⟩, ⟨e3, e4⟩, ⟨e7, e8⟩, ⟨e9, e10⟩, ⟨e11, e12⟩, e13, e14⟩ := id hN
  obtain ⟨n160, f1, f2, f3⟩ := id hF
  have hB : gBy (S.1 24 0) nb S := ⟨f1, n160, fun j _ => rfl⟩
  have hr : ∀ j, j < nb → -128 ≤ S.1 24 0 j ∧ S.1 24 0 j ≤ 127 := fun j hj => (f3 j hj).2
  have hM : gMb (S.1 24 0) nb S := ⟨f2, n160, fun j hj => (f3 j hj).1, hr⟩
  refine ct_C_text hX hK (D := dp) b4' e9 hS hB hr (fun h6 => ?_) (fun h6 e1' e2' e3' S' t1 w1 w2 w3 c3 c5 s1 s11 sF s2 => ?_) (fun h6 j S' t1 s1 sF => ?_)
  · exact ct_M_text (D := dp + 55) b4' e10 hM hW (fun _ => ⟨rfl, nt, nb, hN, hF, hG, Fr.rf⟩) (fun z => by omega) (fun z => by omega)
  · have fS : Fr (fl (18 :: 19 :: 1011 :: 24001 :: 27 :: fRd)) S S' := by
      refine ⟨fun k i j hf => sF k i j ?_ (fun q => ?_), s2⟩
      · cases hb : fl (1011 :: 24001 :: 27 :: fRd) k j with
        | false => rfl
        | true =>
          have hm : fk k j ∈ (1011 :: 24001 :: 27 :: fRd) := List.elem_iff.mp hb
          rw [show fl (18 :: 19 :: 1011 :: 24001 :: 27 :: fRd) k j = true from List.elem_iff.mpr (List.mem_cons_of_mem _ (List.mem_cons_of_mem _ hm))] at hf
          cases hf
      · rcases q.1 with e | e
        · subst e; rw [show fl (18 :: 19 :: 1011 :: 24001 :: 27 :: fRd) 18 j = true from rfl] at hf; cases hf
        · subst e; rw [show fl (18 :: 19 :: 1011 :: 24001 :: 27 :: fRd) 19 j = true from rfl] at hf; cases hf
    refine ct_M_text (D := dp + 55) b4' ((fS.1 36 0 33 rfl).trans e10) (hM.fr fS (by decide)) (hW.fr fS (by decide)) (fun z => by omega) (fun _ x1 x2 x3 T u1 u2 u3 u4 u5 => ?_) (fun _ j T u1 u2 => (t1.x u1).elim)
    obtain ⟨rfl, rfl, rfl⟩ := t1.u u1
    have fT := u5.fr
    have fE : Fr (fl fTx) S (xupd (xupd T 36 0 32 0) 36 0 33 (nI (nt + 1))) := (fS.wk (by decide)).tr ((fT.wk (by decide)).tr ((Fr.rf.up rfl).up rfl))
    have hE : Fr (fl [62, 63, 64, 68, 37041, 37042, 37043, 37044, 37046, 37032, 37033]) S' (xupd (xupd T 36 0 32 0) 36 0 33 (nI (nt + 1))) := (fT.wk (by decide)).tr ((Fr.rf.up rfl).up rfl)
    refine ⟨rfl, nt + 1, 0, ?_, ⟨Nat.zero_le _, (hE.1 23 0 1 rfl).trans s1, rfl, fun i h => absurd h (Nat.not_lt_zero _)⟩, ?_, fE⟩
    · exact ⟨⟨b1, b2, b3, ⟨by omega, by omega⟩, by omega, b6⟩, ⟨(fE.1 1 0 2 rfl).trans e1, (fE.1 36 0 1 rfl).trans e2⟩, ⟨(fE.1 0 0 9 rfl).trans e3, (fE.1 36 0 8 rfl).trans e4⟩, ⟨(fE.1 0 0 10 rfl).trans e7, (fE.1 36 0 19 rfl).trans e8⟩, ⟨(hE.1 0 0 11 rfl).trans s11, rfl⟩, ⟨(fE.1 0 0 12 rfl).trans e11, (fE.1 36 0 34 rfl).trans e12⟩, (fE.1 0 0 13 rfl).trans e13, (fE.1 36 0 0 rfl).trans e14⟩
    · have hold : IG nt (xupd (xupd T 36 0 32 0) 36 0 33 (nI (nt + 1))) := by
        refine hG.kp (fun T2 j hT2 => ?_) (fun T2 j hT2 => ?_) (fun j hj => ?_) (fun j hj => ?_) (fun j hj => ?_)
        · exact (hE.1 18 T2 j rfl).trans (sF 18 T2 j rfl (fun q => by omega))
        · exact (hE.1 19 T2 j rfl).trans (sF 19 T2 j rfl (fun q => by omega))
        · exact (u5.1 62 0 j rfl (by omega) (by omega) (by decide)).trans (fS.1 62 0 j rfl)
        · exact (u5.1 63 0 j rfl (by omega) (by omega) (by decide)).trans (fS.1 63 0 j rfl)
        · exact (u5.1 64 0 j rfl (by omega) (by omega) (by decide)).trans (fS.1 64 0 j rfl)
      obtain ⟨⟨a1, a2, a3⟩, a4, a5, a6, a7⟩ := c3
      have k18 : ∀ j, (xupd (xupd T 36 0 32 0) 36 0 33 (nI (nt + 1))).1 18 nt j = S'.1 18 nt j := fun j => hE.1 18 nt j rfl
      have k19 : ∀ j, (xupd (xupd T 36 0 32 0) 36 0 33 (nI (nt + 1))).1 19 nt j = S'.1 19 nt j := fun j => hE.1 19 nt j rfl
      intro T2 P hT2 hP
      by_cases c0 : T2 < nt
      · exact hold T2 P c0 hP
      · have : T2 = nt := by omega
        subst this
        have hP3 : P = 0 ∨ P = 1 ∨ P = 2 := by omega
        rcases hP3 with e | e | e <;> subst e
        · exact IGp.new (a := 0) (tot := e1'.length + e2'.length + e3'.length) (e := e1') w1 rfl (by rw [k19, a1, Nat.zero_add]) (by omega) (by omega) ((k18 _).trans c5) u2 (fun j hj => (k18 _).trans (a5 j hj))
        · exact IGp.new (a := e1'.length) (tot := e1'.length + e2'.length + e3'.length) (e := e2') w2 ((k19 0).trans a1) ((k19 1).trans a2) (by omega) (by omega) ((k18 _).trans c5) u3 (fun j hj => (k18 _).trans (a6 j hj))
        · exact IGp.new (a := e1'.length + e2'.length) (tot := e1'.length + e2'.length + e3'.length) (e := e3') w3 ((k19 1).trans a2) ((k19 2).trans a3) (by omega) (by omega) ((k18 _).trans c5) u4 (fun j hj => (k18 _).trans (a7 j hj))
  · refine ct_M_text (D := dp + 55) b4' ((sF.1 36 0 33 rfl).trans e10) (hM.fr sF (by decide)) (hW.fr sF (by decide)) (fun z => by omega) (fun _ x1 x2 x3 T u1 _ _ _ _ => (u1.x t1).elim) (fun _ j2 T u1 u2 => ?_)
    have ej := t1.u u1
    subst ej
    have fT := u2.fr
    have hE : Fr (fl [62, 63, 64, 68, 37041, 37042, 37043, 37044, 37046, 37032]) S' (xupd T 36 0 32 0) := (fT.wk (by decide)).tr (Fr.rf.up rfl)
    have fE : Fr (fl fTx) S (xupd T 36 0 32 0) := (sF.wk (by decide)).tr (hE.wk (by decide))
    have fN : Fr (fl [24001, 27, 24002, 24003, 24004, 24005, 26003, 26004, 26005, 26, 62, 63, 64, 68, 37041, 37042, 37043, 37044, 37046, 37032]) S (xupd T 36 0 32 0) := (sF.wk (by decide)).tr (hE.wk (by decide))
    refine ⟨rfl, nt, 0, hN.fr fN (by decide), ⟨Nat.zero_le _, (hE.1 23 0 1 rfl).trans s1, rfl, fun i h => absurd h (Nat.not_lt_zero _)⟩, ?_, fE⟩
    refine hG.kp (fun T2 j hT2 => ?_) (fun T2 j hT2 => ?_) (fun j hj => ?_) (fun j hj => ?_) (fun j hj => ?_)
    · exact fN.1 18 T2 j rfl
    · exact fN.1 19 T2 j rfl
    · exact (u2.1 62 0 j rfl (by omega) (by omega) (by decide)).trans (sF.1 62 0 j rfl)
    · exact (u2.1 63 0 j rfl (by omega) (by omega) (by decide)).trans (sF.1 63 0 j rfl)
    · exact (u2.1 64 0 j rfl (by omega) (by omega) (by decide)).trans (sF.1 64 0 j rfl)

