/-! dhows: small methods of both sides -/
theorem ct_inPort {d i : Nat} {S : xS} {Q : xQ} (h1 : ¬ S.1 12 i 0 = -1 → S.1 12 i 1 = -1 → Q (some (.inl 1)) S) (h0 : ¬ (¬ S.1 12 i 0 = -1 ∧ S.1 12 i 1 = -1) → Q (some (.inl 0)) S) : CT d 0 0 m_Dhow_inPort [.inr (.inr (12, i))] S Q := by
  refine ct_of (xmok_all (by decide)) rfl (V_go (pc := 0) pk_1 [] 50 ?_)
  refine And.intro (fun c1 => And.intro (Or.inl rfl) (h0 (fun g => g.1 c1))) (fun c1 => And.intro (fun c2 => And.intro (Or.inl rfl) (h0 (fun g => c2 g.2))) (fun c2 => And.intro (Or.inr rfl) (h1 c1 c2)))
theorem ct_atSea {d i : Nat} {S : xS} {Q : xQ} (h1 : ¬ S.1 12 i 0 = -1 → ¬ S.1 12 i 1 = -1 → Q (some (.inl 1)) S) (h0 : ¬ (¬ S.1 12 i 0 = -1 ∧ ¬ S.1 12 i 1 = -1) → Q (some (.inl 0)) S) : CT d 0 0 m_Dhow_atSea [.inr (.inr (12, i))] S Q := by
  refine ct_of (xmok_all (by decide)) rfl (V_go (pc := 0) pk_2 [] 50 ?_)
  refine And.intro (fun c1 => And.intro (Or.inl rfl) (h0 (fun g => g.1 c1))) (fun c1 => And.intro (fun c2 => And.intro (Or.inl rfl) (h0 (fun g => g.2 c2))) (fun c2 => And.intro (Or.inr rfl) (h1 c1 c2)))
theorem ct_onVoyage {d i : Nat} {S : xS} {Q : xQ} (h1 : ¬ S.1 12 i 6 = -1 → Q (some (.inl 1)) S) (h0 : S.1 12 i 6 = -1 → Q (some (.inl 0)) S) : CT d 0 0 m_Dhow_onVoyage [.inr (.inr (12, i))] S Q := by
  refine ct_of (xmok_all (by decide)) rfl (V_go (pc := 0) pk_4 [] 50 ?_)
  refine And.intro (fun c1 => And.intro (Or.inl rfl) (h0 c1)) (fun c1 => And.intro (Or.inr rfl) (h1 c1))
theorem qq {Q : xQ} {r r' : Option xV} {S S' : xS} (h : Q r S) (e1 : r' = r) (e2 : S' = S) : Q r' S' := by
  subst e1; subst e2; exact h
theorem qi {Q : xQ} {x y : Int32} {S S' : xS} (h : Q (some (.inl x)) S) (e1 : y = x) (e2 : S' = S) : Q (some (.inl y)) S' := by
  subst e1; subst e2; exact h
theorem vi {n N : Nat} (h : n < N) (hN : N < 2 ^ 31 := by decide) : vp_in (nI n) N := vp_in_nI h hN
theorem ct_aboard {d i : Nat} {S : xS} {Q : xQ} (h : Q (some (.inl (0 + S.1 13 i 0 + S.1 13 i 1 + S.1 13 i 2 + S.1 13 i 3))) S) : CT d 0 0 m_Dhow_aboard [.inr (.inr (12, i))] S Q := by
  refine ct_of (xmok_all (by decide)) rfl (V_go (pc := 0) pk_0 [] 120 ?_)
  refine And.intro (fun q => absurd (show (4 : Int32) ≤ 0 from q) (by decide)) (fun _ => ?_)
  refine And.intro (vi (n := 0) (N := 4) (by decide)) ?_
  refine And.intro (fun q => absurd (show (4 : Int32) ≤ 1 from q) (by decide)) (fun _ => ?_)
  refine And.intro (vi (n := 1) (N := 4) (by decide)) ?_
  refine And.intro (fun q => absurd (show (4 : Int32) ≤ 2 from q) (by decide)) (fun _ => ?_)
  refine And.intro (vi (n := 2) (N := 4) (by decide)) ?_
  refine And.intro (fun q => absurd (show (4 : Int32) ≤ 3 from q) (by decide)) (fun _ => ?_)
  refine And.intro (vi (n := 3) (N := 4) (by decide)) ?_
  refine And.intro (fun _ => ?_) (fun q => absurd (show (4 : Int32) ≤ 4 by decide) q)
  exact h
theorem ix4 {a g N : Nat} (h : 4 * a + g < N) (hN : N < 2 ^ 31 := by decide) : (4 : Int32) * nI a + nI g = nI (4 * a + g) ∧ vp_in (4 * nI a + nI g) N ∧ ((4 : Int32) * nI a + nI g).toNatClampNeg = 4 * a + g := by
  have e : (4 : Int32) * nI a + nI g = nI (4 * a + g) := by rw [show (4 : Int32) = nI 4 from rfl, nI_mul, nI_add]
  rw [e]
  exact ⟨rfl, vi h hN, nI_clamp (by omega)⟩
theorem ix0 {a N : Nat} (h : 4 * a < N) (hN : N < 2 ^ 31 := by decide) : (4 : Int32) * nI a = nI (4 * a) ∧ vp_in (4 * nI a) N ∧ ((4 : Int32) * nI a).toNatClampNeg = 4 * a := by
  have e : (4 : Int32) * nI a = nI (4 * a) := by rw [show (4 : Int32) = nI 4 from rfl, nI_mul]
  rw [e]
  exact ⟨rfl, vi h hN, nI_clamp (by omega)⟩
theorem ct_M_all {d a : Nat} (ha : a < 4) {S : xS} {Q : xQ} (h : Q (some (.inl (S.1 50 0 (4 * a) + S.1 50 0 (4 * a + 1) + S.1 50 0 (4 * a + 2) + S.1 50 0 (4 * a + 3)))) S) : CT d 0 0 m_M_all [.inr (.inr (36, 0)), .inl (nI a)] S Q := by
  have i0 := ix0 (a := a) (N := 16) (by omega)
  have i1 := ix4 (a := a) (g := 1) (N := 16) (by omega)
  have i2 := ix4 (a := a) (g := 2) (N := 16) (by omega)
  have i3 := ix4 (a := a) (g := 3) (N := 16) (by omega)
  refine ct_of (xmok_all (by decide)) rfl (V_go (pc := 0) pk_132 [] 120 ?_)
  refine And.intro i0.2.1 ?_
  refine And.intro i1.2.1 ?_
  refine And.intro i2.2.1 ?_
  refine And.intro i3.2.1 ?_
  refine qi h ?_ rfl
  show S.1 50 0 (4 * nI a).toNatClampNeg + S.1 50 0 (4 * nI a + nI 1).toNatClampNeg + S.1 50 0 (4 * nI a + nI 2).toNatClampNeg + S.1 50 0 (4 * nI a + nI 3).toNatClampNeg = _
  rw [i0.2.2, i1.2.2, i2.2.2, i3.2.2]
theorem ct_isThere {d a : Nat} (ha : a < 4) {S : xS} {Q : xQ} (h1 : S.1 49 0 a = 0 → S.1 44 0 a = -1 → Q (some (.inl 1)) S) (h0 : ¬ (S.1 49 0 a = 0 ∧ S.1 44 0 a = -1) → Q (some (.inl 0)) S) : CT d 0 0 m_M_isThere [.inr (.inr (36, 0)), .inl (nI a)] S Q := by
  have e := nI_clamp (n := a) (by omega)
  rw [← e] at h1 h0
  refine ct_of (xmok_all (by decide)) rfl (V_go (pc := 0) pk_135 [] 50 ?_)
  refine And.intro (vi (N := 4) ha) ?_
  refine And.intro (fun c1 => And.intro (Or.inl rfl) (h0 (fun g => c1 g.1))) (fun c1 => ?_)
  refine And.intro (vi (N := 4) ha) ?_
  refine And.intro (fun c2 => And.intro (Or.inl rfl) (h0 (fun g => c2 g.2))) (fun c2 => And.intro (Or.inr rfl) (h1 c1 c2))
/-! dhow -/
def okDhow (np : Nat) (p h c : Int32) : Prop := inC np p ∧ inR 1 99 h ∧ inR 0 99999 c
theorem ct_C_dhow {d np nd : Nat} {p h c : Int32} {S : xS} {Q : xQ} (e1 : S.1 1 0 2 = nI np) (e2 : S.1 0 0 9 = nI nd) (b1 : np ≤ 6) (b2 : nd ≤ 4) (hb : ¬ okDhow np p h c → Q (some (.inl (-2))) S) (hf : okDhow np p h c → nd = 4 → Q (some (.inl (-4))) S)
    (hk : okDhow np p h c → nd < 4 → Q (some (.inl (nI nd))) (xupd (xupd (xupd (xupd S 12 nd 0 p) 12 nd 3 h) 12 nd 4 c) 0 0 9 (nI (nd + 1)))) : CT (d + 3) 0 0 m_C_dhow [C0, .inl p, .inl h, .inl c] S Q := by
  refine ct_of (xmok_all (by decide)) rfl (V_go (pc := 0) pk_81 [] 80 ?_)
  refine ct_C_hasPort e1 (by omega) (fun P hP q1 => ?_) (fun q => ?_)
  · (repeat' first | (refine And.intro (fun q => absurd q (by decide)) (fun _ => ?_)) | (refine And.intro (fun _ => ?_) (fun q => absurd q (by decide))) | fail)
    refine ct_w 1 99 rfl rfl (by decide) (by decide) (fun H hH1 hH2 q2 => ?_) (fun q => ?_)
    · (repeat' first | (refine And.intro (fun q => absurd q (by decide)) (fun _ => ?_)) | (refine And.intro (fun _ => ?_) (fun q => absurd q (by decide))) | fail)
      refine ct_w 0 99999 rfl rfl (by decide) (by decide) (fun C hC1 hC2 q3 => ?_) (fun q => ?_)
      · (repeat' first | (refine And.intro (fun q => absurd q (by decide)) (fun _ => ?_)) | (refine And.intro (fun _ => ?_) (fun q => absurd q (by decide))) | fail)
        have ok : okDhow np p h c := ⟨⟨P, hP, q1⟩, ⟨H, hH1, hH2, q2⟩, ⟨C, hC1, hC2, q3⟩⟩
        refine And.intro (fun q4 => ?_) (fun q4 => ?_)
        · have q4 : S.1 0 0 9 < 4 := q4
          rw [e2] at q4
          have q4 := (nI_ltI (a := nd) (b := 4) (by omega) (by decide)).mp q4
          have e3 : (S.1 0 0 9).toNatClampNeg = nd := by rw [e2]; exact nI_clamp (by omega)
          refine And.intro (by rw [e2]; exact vi (N := 4) q4) ?_
          refine qi (hk ok q4) ?_ ?_
          · show S.1 0 0 9 + 1 - 1 = nI nd
            rw [e2, nI_1, nI_pred]
          · show xupd (xupd (xupd (xupd S 12 (S.1 0 0 9).toNatClampNeg 0 p) 12 (S.1 0 0 9).toNatClampNeg 3 h) 12 (S.1 0 0 9).toNatClampNeg 4 c) 0 0 9 (S.1 0 0 9 + 1) = _
            rw [e3, e2, nI_1]
        · have q4 : ¬ S.1 0 0 9 < 4 := q4
          rw [e2] at q4
          exact hf ok (by rcases Nat.lt_or_ge nd 4 with g | g; exact absurd (nI_lt (a := nd) (b := 4) g (by decide)) q4; omega)
      · (repeat' first | (refine And.intro (fun q => absurd q (by decide)) (fun _ => ?_)) | (refine And.intro (fun _ => ?_) (fun q => absurd q (by decide))) | fail)
        exact hb (fun g => q g.2.2)
    · (repeat' first | (refine And.intro (fun q => absurd q (by decide)) (fun _ => ?_)) | (refine And.intro (fun _ => ?_) (fun q => absurd q (by decide))) | fail)
      exact hb (fun g => q g.2.1)
  · (repeat' first | (refine And.intro (fun q => absurd q (by decide)) (fun _ => ?_)) | (refine And.intro (fun _ => ?_) (fun q => absurd q (by decide))) | fail)
    exact hb (fun g => q g.1)
theorem ct_M_dhow {d np nd : Nat} {p h c : Int32} {S : xS} {Q : xQ} (e1 : S.1 36 0 1 = nI np) (e2 : S.1 36 0 8 = nI nd) (b1 : np ≤ 6) (b2 : nd ≤ 4) (hb : ¬ okDhow np p h c → Q (some (.inl (-2))) S) (hf : okDhow np p h c → nd = 4 → Q (some (.inl (-4))) S)
    (hk : okDhow np p h c → nd < 4 → Q (some (.inl (nI nd))) (xupd (xupd (xupd (xupd (xupd (xupd S 43 0 nd p) 44 0 nd (-1)) 45 0 nd h) 46 0 nd c) 47 0 nd (-1)) 36 0 8 (nI (nd + 1)))) : CT (d + 3) 0 0 m_M_dhow [M0, .inl p, .inl h, .inl c] S Q := by
  refine ct_of (xmok_all (by decide)) rfl (V_go (pc := 0) pk_129 [] 80 ?_)
  refine ct_M_port_is e1 (by omega) (fun P hP q1 => ?_) (fun q => ?_)
  · (repeat' first | (refine And.intro (fun q => absurd q (by decide)) (fun _ => ?_)) | (refine And.intro (fun _ => ?_) (fun q => absurd q (by decide))) | fail)
    refine ct_mw 1 99 rfl rfl (by decide) (by decide) (fun H hH1 hH2 q2 => ?_) (fun q => ?_)
    · (repeat' first | (refine And.intro (fun q => absurd q (by decide)) (fun _ => ?_)) | (refine And.intro (fun _ => ?_) (fun q => absurd q (by decide))) | fail)
      refine ct_mw 0 99999 rfl rfl (by decide) (by decide) (fun C hC1 hC2 q3 => ?_) (fun q => ?_)
      · (repeat' first | (refine And.intro (fun q => absurd q (by decide)) (fun _ => ?_)) | (refine And.intro (fun _ => ?_) (fun q => absurd q (by decide))) | fail)
        have ok : okDhow np p h c := ⟨⟨P, hP, q1⟩, ⟨H, hH1, hH2, q2⟩, ⟨C, hC1, hC2, q3⟩⟩
        refine And.intro (fun q4 => ?_) (fun q4 => ?_)
        · have q4 : ¬ S.1 36 0 8 = 4 := q4
          rw [e2] at q4
          have q5 : nd < 4 := by
            rcases Nat.lt_or_ge nd 4 with g | g
            · exact g
            · obtain rfl : nd = 4 := by omega
              exact absurd rfl q4
          have hv : vp_in (S.1 36 0 8) 4 := by rw [e2]; exact vi (N := 4) q5
          refine And.intro hv ?_
          refine And.intro hv ?_
          refine And.intro hv ?_
          refine And.intro hv ?_
          refine And.intro hv ?_
          have e3 : (S.1 36 0 8).toNatClampNeg = nd := by rw [e2]; exact nI_clamp (by omega)
          refine qi (hk ok q5) ?_ ?_
          · show S.1 36 0 8 + 1 - 1 = nI nd
            rw [e2, nI_1, nI_pred]
          · show xupd (xupd (xupd (xupd (xupd (xupd S 43 0 (S.1 36 0 8).toNatClampNeg p) 44 0 (S.1 36 0 8).toNatClampNeg (-1)) 45 0 (S.1 36 0 8).toNatClampNeg h) 46 0 (S.1 36 0 8).toNatClampNeg c) 47 0 (S.1 36 0 8).toNatClampNeg (-1)) 36 0 8 (S.1 36 0 8 + 1) = _
            rw [e3, e2, nI_1]
        · have q4 : S.1 36 0 8 = 4 := q4
          rw [e2] at q4
          exact hf ok ((nI_eq (a := nd) (b := 4) (by omega) (by decide)).mp q4)
      · (repeat' first | (refine And.intro (fun q => absurd q (by decide)) (fun _ => ?_)) | (refine And.intro (fun _ => ?_) (fun q => absurd q (by decide))) | fail)
        exact hb (fun g => q g.2.2)
    · (repeat' first | (refine And.intro (fun q => absurd q (by decide)) (fun _ => ?_)) | (refine And.intro (fun _ => ?_) (fun q => absurd q (by decide))) | fail)
      exact hb (fun g => q g.2.1)
  · (repeat' first | (refine And.intro (fun q => absurd q (by decide)) (fun _ => ?_)) | (refine And.intro (fun _ => ?_) (fun q => absurd q (by decide))) | fail)
    exact hb (fun g => q g.1)
