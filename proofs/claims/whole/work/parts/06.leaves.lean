/-! small methods of both sides, by cases -/
theorem ct_within {d : Nat} {x a b : Int32} {S : xS} {Q : xQ} (h1 : a ≤ x → x ≤ b → Q (some (.inl 1)) S) (h0 : ¬ (a ≤ x ∧ x ≤ b) → Q (some (.inl 0)) S) : CT d 0 0 m_C_within [.inl x, .inl a, .inl b] S Q := by
  refine ct_of (xmok_all (by decide)) rfl ?_
  refine V_go pk_70 [] 50 ?_
  refine And.intro (fun c1 => ?_) (fun c1 => ?_)
  · exact And.intro (Or.inl rfl) (h0 (fun q => absurd q.1 (Int32.not_le.mpr c1)))
  · refine And.intro (fun c2 => ?_) (fun c2 => ?_)
    · exact And.intro (Or.inl rfl) (h0 (fun q => absurd q.2 (Int32.not_le.mpr c2)))
    · exact And.intro (Or.inr rfl) (h1 (Int32.not_lt.mp c1) (Int32.not_lt.mp c2))
theorem lg_lt {x y : Int64} : lg_cmp x y < 0 ↔ x < y := by
  unfold lg_cmp
  by_cases h : x > y
  · rw [if_pos h]
    exact ⟨fun q => absurd q (by decide), fun q => absurd (show x < x from Int64.lt_trans q h) Int64.lt_irrefl⟩
  · rw [if_neg h]
    by_cases e : x = y
    · rw [if_pos e]
      exact ⟨fun q => absurd q (by decide), fun q => absurd (show y < y from e ▸ q) Int64.lt_irrefl⟩
    · rw [if_neg e]
      exact ⟨fun _ => Int64.lt_of_le_of_ne (Int64.not_lt.mp h) e, fun _ => by decide⟩
theorem lg_gt {x y : Int64} : 0 < lg_cmp x y ↔ y < x := by
  unfold lg_cmp
  by_cases h : x > y
  · rw [if_pos h]
    exact ⟨fun _ => h, fun _ => by decide⟩
  · rw [if_neg h]
    by_cases e : x = y
    · rw [if_pos e]
      exact ⟨fun q => absurd q (by decide), fun q => absurd q h⟩
    · rw [if_neg e]
      exact ⟨fun q => absurd q (by decide), fun q => absurd q h⟩
theorem ct_M_isIn {d : Nat} {x a b : Int64} {S : xS} {Q : xQ} (h1 : a ≤ x → x ≤ b → Q (some (.inl 1)) S) (h0 : ¬ (a ≤ x ∧ x ≤ b) → Q (some (.inl 0)) S) : CT d 0 0 m_M_isIn [.inr (.inl x), .inr (.inl a), .inr (.inl b)] S Q := by
  refine ct_of (xmok_all (by decide)) rfl ?_
  refine V_go pk_119 [] 50 ?_
  refine And.intro (fun c1 => ?_) (fun c1 => ?_)
  · exact And.intro (Or.inl rfl) (h0 (fun q => absurd q.1 (Int64.not_le.mpr (lg_lt.mp c1))))
  · refine And.intro (fun c2 => ?_) (fun c2 => ?_)
    · exact And.intro (Or.inl rfl) (h0 (fun q => absurd q.2 (Int64.not_le.mpr (lg_gt.mp c2))))
    · exact And.intro (Or.inr rfl) (h1 (Int64.not_lt.mp (fun q => c1 (lg_lt.mpr q))) (Int64.not_lt.mp (fun q => c2 (lg_gt.mpr q))))
theorem ct_C_isGood {d : Nat} {x : Int32} {S : xS} {Q : xQ} (h1 : 0 ≤ x → x ≤ 3 → Q (some (.inl 1)) S) (h0 : ¬ (0 ≤ x ∧ x ≤ 3) → Q (some (.inl 0)) S) : CT (d + 1) 0 0 m_C_isGood [.inl x] S Q := by
  refine ct_of (xmok_all (by decide)) rfl ?_
  refine V_go pk_73 [] 50 ?_
  refine ct_within (fun c1 c2 => ?_) (fun c => ?_)
  · exact And.intro (Or.inr rfl) (h1 c1 c2)
  · exact And.intro (Or.inl rfl) (h0 c)
theorem ct_M_isIn32 {d : Nat} {x a b : Int32} {a' b' : Int64} {S : xS} {Q : xQ} (ha : a.toInt64 = a') (hb : b.toInt64 = b') (h1 : a ≤ x → x ≤ b → Q (some (.inl 1)) S) (h0 : ¬ (a ≤ x ∧ x ≤ b) → Q (some (.inl 0)) S) : CT d 0 0 m_M_isIn [.inr (.inl x.toInt64), .inr (.inl a'), .inr (.inl b')] S Q := by
  have e : ∀ u w : Int32, u.toInt64 ≤ w.toInt64 ↔ u ≤ w := fun u w => by rw [Int64.le_iff_toInt_le, Int32.le_iff_toInt_le, Int32.toInt_toInt64, Int32.toInt_toInt64]
  subst ha; subst hb
  exact ct_M_isIn (fun c1 c2 => h1 ((e _ _).mp c1) ((e _ _).mp c2)) (fun c => h0 (fun q => c ⟨(e _ _).mpr q.1, (e _ _).mpr q.2⟩))
theorem ct_C_isSheet {d : Nat} {x : Int32} {S : xS} {Q : xQ} (h1 : 0 ≤ x → x ≤ 3 → Q (some (.inl 1)) S) (h0 : ¬ (0 ≤ x ∧ x ≤ 3) → Q (some (.inl 0)) S) : CT (d + 1) 0 0 m_C_isSheet [.inl x] S Q := by
  refine ct_of (xmok_all (by decide)) rfl ?_
  refine V_go pk_77 [] 50 ?_
  refine ct_within (fun c1 c2 => ?_) (fun c => ?_)
  · exact And.intro (Or.inr rfl) (h1 c1 c2)
  · exact And.intro (Or.inl rfl) (h0 c)
theorem ct_Sea_has {d : Nat} {x : Int32} {S : xS} {Q : xQ} (h1 : 0 ≤ x → x ≤ S.1 1 0 2 - 1 → Q (some (.inl 1)) S) (h0 : ¬ (0 ≤ x ∧ x ≤ S.1 1 0 2 - 1) → Q (some (.inl 0)) S) : CT (d + 1) 0 0 m_Sea_has [.inr (.inr (1, 0)), .inl x] S Q := by
  refine ct_of (xmok_all (by decide)) rfl ?_
  refine V_go pk_43 [] 50 ?_
  refine ct_within (fun c1 c2 => ?_) (fun c => ?_)
  · exact And.intro (Or.inr rfl) (h1 c1 c2)
  · exact And.intro (Or.inl rfl) (h0 c)
theorem ct_Sheet_holds {d i : Nat} {x : Int32} {S : xS} {Q : xQ} (h1 : 0 ≤ x → x ≤ S.1 21 i 2 - 1 → Q (some (.inl 1)) S) (h0 : ¬ (0 ≤ x ∧ x ≤ S.1 21 i 2 - 1) → Q (some (.inl 0)) S) : CT (d + 1) 0 0 m_Sheet_holds [.inr (.inr (21, i)), .inl x] S Q := by
  refine ct_of (xmok_all (by decide)) rfl ?_
  refine V_go pk_47 [] 50 ?_
  refine ct_within (fun c1 c2 => ?_) (fun c => ?_)
  · exact And.intro (Or.inr rfl) (h1 c1 c2)
  · exact And.intro (Or.inl rfl) (h0 c)
theorem ct_Sheet_missing {d i : Nat} {S : xS} {Q : xQ} (h1 : S.1 21 i 1 = -1 → Q (some (.inl 1)) S) (h0 : ¬ S.1 21 i 1 = -1 → Q (some (.inl 0)) S) : CT d 0 0 m_Sheet_missing [.inr (.inr (21, i))] S Q := by
  refine ct_of (xmok_all (by decide)) rfl ?_
  refine V_go pk_46 [] 50 ?_
  refine And.intro (fun c => ?_) (fun c => ?_)
  · exact And.intro (Or.inl rfl) (h0 c)
  · exact And.intro (Or.inr rfl) (h1 c)
theorem ct_C_clamp {d : Nat} {x a b : Int32} {S : xS} {Q : xQ} (h : Q (some (.inl (if a < (if b < x then b else x) then (if b < x then b else x) else a))) S) : CT (d + 1) 0 0 m_C_clamp [.inl x, .inl a, .inl b] S Q := by
  refine ct_of (xmok_all (by decide)) rfl ?_
  exact V_go pk_78 [] 50 h
theorem ct_C_monthOf {d : Nat} {x : Int32} {S : xS} {Q : xQ} (h : Q (some (.inl (x / 30 - x / 30 / 12 * 12))) S) : CT d 0 0 m_C_monthOf [.inl x] S Q := by
  refine ct_of (xmok_all (by decide)) rfl ?_
  refine V_go pk_80 [] 50 ?_
  refine And.intro (by decide) ?_
  refine And.intro (by decide) ?_
  exact h
theorem vin {x : Int32} {n : Nat} {m : Int32} (hm : m.toInt = (n : Int) - 1) (h0 : 0 ≤ x) (h1 : x ≤ m) : vp_in x n := by
  have e0 := Int32.le_iff_toInt_le.mp h0
  have e1 := Int32.le_iff_toInt_le.mp h1
  rw [show (0 : Int32).toInt = 0 from rfl] at e0
  intro q
  rcases q with q | q
  · have := Int32.lt_iff_toInt_lt.mp q
    rw [show (0 : Int32).toInt = 0 from rfl] at this
    omega
  · have : x.toNatClampNeg = x.toInt.toNat := rfl
    omega
def pPrice (S : xS) (i : Nat) (g : Int32) : Int32 := if 1 < S.1 5 i g.toNatClampNeg - S.1 6 i g.toNatClampNeg * S.1 7 i g.toNatClampNeg / 10 then S.1 5 i g.toNatClampNeg - S.1 6 i g.toNatClampNeg * S.1 7 i g.toNatClampNeg / 10 else 1
theorem ct_Port_priceOf {d i : Nat} {g : Int32} {S : xS} {Q : xQ} (hg : vp_in g 4) (h : Q (some (.inl (pPrice S i g))) S) : CT (d + 1) 0 0 m_Port_priceOf [.inr (.inr (4, i)), .inl g] S Q := by
  refine ct_of (xmok_all (by decide)) rfl ?_
  refine V_go pk_19 [] 50 ?_
  refine And.intro hg ?_
  refine And.intro hg ?_
  refine And.intro hg ?_
  refine And.intro (by decide) ?_
  exact h
/-! the model's small methods -/
theorem ct_M_isPort {d : Nat} {x : Int32} {S : xS} {Q : xQ} (h1 : 0 ≤ x → x < S.1 36 0 1 → Q (some (.inl 1)) S) (h0 : ¬ (0 ≤ x ∧ x < S.1 36 0 1) → Q (some (.inl 0)) S) : CT d 0 0 m_M_isPort [.inr (.inr (36, 0)), .inl x] S Q := by
  refine ct_of (xmok_all (by decide)) rfl ?_
  refine V_go pk_121 [] 50 ?_
  refine And.intro (fun c1 => ?_) (fun c1 => ?_)
  · exact And.intro (Or.inl rfl) (h0 (fun q => absurd q.1 (Int32.not_le.mpr c1)))
  · refine And.intro (fun c2 => ?_) (fun c2 => ?_)
    · exact And.intro (Or.inl rfl) (h0 (fun q => absurd q.2 (Int32.not_lt.mpr c2)))
    · exact And.intro (Or.inr rfl) (h1 (Int32.not_lt.mp c1) (Int32.not_le.mp c2))
theorem ct_M_isGood {d : Nat} {x : Int32} {S : xS} {Q : xQ} (h1 : 0 ≤ x → x ≤ 3 → Q (some (.inl 1)) S) (h0 : ¬ (0 ≤ x ∧ x ≤ 3) → Q (some (.inl 0)) S) : CT (d + 1) 0 0 m_M_isGood [.inl x] S Q := by
  refine ct_of (xmok_all (by decide)) rfl ?_
  refine V_go pk_122 [] 50 ?_
  refine ct_M_isIn32 (a := 0) (b := 3) rfl rfl (fun c1 c2 => ?_) (fun c => ?_)
  · exact And.intro (Or.inr rfl) (h1 c1 c2)
  · exact And.intro (Or.inl rfl) (h0 c)
def mPrice (S : xS) (p g : Int32) : Int32 := if S.1 39 0 (4 * p + g).toNatClampNeg - S.1 40 0 (4 * p + g).toNatClampNeg * S.1 41 0 (4 * p + g).toNatClampNeg / 10 < 1 then 1 else S.1 39 0 (4 * p + g).toNatClampNeg - S.1 40 0 (4 * p + g).toNatClampNeg * S.1 41 0 (4 * p + g).toNatClampNeg / 10
theorem ct_M_priceOf {d : Nat} {p g : Int32} {S : xS} {Q : xQ} (hg : vp_in (4 * p + g) 24) (h : Q (some (.inl (mPrice S p g))) S) : CT d 0 0 m_M_priceOf [.inr (.inr (36, 0)), .inl p, .inl g] S Q := by
  refine ct_of (xmok_all (by decide)) rfl ?_
  refine V_go pk_123 [] 60 ?_
  refine And.intro hg ?_
  refine And.intro hg ?_
  refine And.intro hg ?_
  refine And.intro (by decide) ?_
  refine And.intro (fun c => ?_) (fun c => ?_)
  · unfold mPrice at h
    rw [if_neg (Int32.not_lt.mpr c)] at h
    exact h
  · unfold mPrice at h
    rw [if_pos (Int32.not_le.mp c)] at h
    exact h
