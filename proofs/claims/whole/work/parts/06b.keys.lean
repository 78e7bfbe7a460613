/-! keys of places: a field of an object, or a kind of arrays; frames as lists of keys -/
def fo (k : Nat) : Bool := Nat.beq k 0 || (Nat.beq k 1 || (Nat.beq k 4 || (Nat.beq k 8 || (Nat.beq k 12 || (Nat.beq k 15 || (Nat.beq k 17 || (Nat.beq k 21 || (Nat.beq k 23 || (Nat.beq k 25 || (Nat.beq k 28 || (Nat.beq k 31 || (Nat.beq k 36 || Nat.beq k 75))))))))))))
def fk (k j : Nat) : Nat := cond (fo k) (1000 * (k + 1) + j) k
abbrev fl (l : List Nat) (k j : Nat) : Bool := l.elem (fk k j)
/-- a number between lo and hi; a number below c -/
def inR (lo hi : Nat) (x : Int32) : Prop := ∃ k : Nat, lo ≤ k ∧ k ≤ hi ∧ x = nI k
def inC (c : Nat) (x : Int32) : Prop := ∃ k : Nat, k < c ∧ x = nI k
theorem inR_iff {lo hi : Nat} {x a b : Int32} (ha : a = nI lo) (hb : b = nI hi) (h : hi < 2 ^ 31) (hl : lo ≤ hi) : (a ≤ x ∧ x ≤ b) ↔ inR lo hi x := by
  subst ha; subst hb
  constructor
  · intro ⟨h1, h2⟩
    have h0 : ¬ x < 0 := Int32.not_lt.mpr (Int32.le_trans (nI_pos' (by omega)) h1)
    obtain ⟨j, hj, rfl⟩ := nI_of2 (M := nI hi) (n := hi) (nI_toInt h) h0 h2
    exact ⟨j, (nI_leI (by omega) (by omega)).mp h1, hj, rfl⟩
  · intro ⟨k, h1, h2, e⟩
    subst e
    exact ⟨nI_le h1 (by omega), nI_le h2 h⟩
theorem inC_iff {c : Nat} {x : Int32} (h : c < 2 ^ 31) : (0 ≤ x ∧ x < nI c) ↔ inC c x := by
  constructor
  · intro ⟨h1, h2⟩
    obtain ⟨j, hj, rfl⟩ := nI_of2 (M := nI c) (n := c) (nI_toInt h) (Int32.not_lt.mpr h1) (Int32.le_of_lt h2)
    exact ⟨j, (nI_ltI (by omega) h).mp h2, rfl⟩
  · intro ⟨k, h1, e⟩
    subst e
    exact ⟨nI_pos' (by omega), nI_lt h1 h⟩
theorem nI_m1 {c : Nat} (h : c < 2 ^ 31) : (nI c - 1).toInt = (c : Int) - 1 := by
  have e := nI_toInt h
  rw [Int32.toInt_sub, e, show (1 : Int32).toInt = 1 from rfl]
  exact Int.bmod_eq_of_le (by omega) (by omega)
theorem inC_iff' {c : Nat} {x : Int32} (h : c < 2 ^ 31) : (0 ≤ x ∧ x ≤ nI c - 1) ↔ inC c x := by
  rw [← inC_iff h]
  have e := nI_toInt h
  have e1 := nI_m1 h
  constructor
  · intro ⟨h1, h2⟩
    refine ⟨h1, Int32.lt_iff_toInt_lt.mpr ?_⟩
    have := Int32.le_iff_toInt_le.mp h2
    omega
  · intro ⟨h1, h2⟩
    refine ⟨h1, Int32.le_iff_toInt_le.mpr ?_⟩
    have := Int32.lt_iff_toInt_lt.mp h2
    omega
theorem ct_w {d : Nat} {x a b : Int32} {S : xS} {Q : xQ} (lo hi : Nat) (ha : a = nI lo) (hb : b = nI hi) (hh : hi < 2 ^ 31) (hl : lo ≤ hi) (h1 : ∀ k, lo ≤ k → k ≤ hi → x = nI k → Q (some (.inl 1)) S) (h0 : ¬ inR lo hi x → Q (some (.inl 0)) S) : CT d 0 0 m_C_within [.inl x, .inl a, .inl b] S Q :=
  ct_within (fun q1 q2 => by
    obtain ⟨k, g1, g2, g3⟩ := (inR_iff ha hb hh hl).mp ⟨q1, q2⟩
    exact h1 k g1 g2 g3) (fun q => h0 (fun g => q ((inR_iff ha hb hh hl).mpr g)))
theorem ct_mw {d : Nat} {x : Int32} {a b : Int64} {S : xS} {Q : xQ} (lo hi : Nat) (ha : (nI lo).toInt64 = a) (hb : (nI hi).toInt64 = b) (hh : hi < 2 ^ 31) (hl : lo ≤ hi) (h1 : ∀ k, lo ≤ k → k ≤ hi → x = nI k → Q (some (.inl 1)) S) (h0 : ¬ inR lo hi x → Q (some (.inl 0)) S) : CT d 0 0 m_M_isIn [.inr (.inl x.toInt64), .inr (.inl a), .inr (.inl b)] S Q :=
  ct_M_isIn32 (a := nI lo) (b := nI hi) ha hb (fun q1 q2 => by
    obtain ⟨k, g1, g2, g3⟩ := (inR_iff rfl rfl hh hl).mp ⟨q1, q2⟩
    exact h1 k g1 g2 g3) (fun q => h0 (fun g => q ((inR_iff rfl rfl hh hl).mpr g)))
theorem ct_C_isDhow {d c : Nat} {x : Int32} {S : xS} {Q : xQ} (hc : S.1 0 0 9 = nI c) (hh : c < 2 ^ 31) (h1 : ∀ k, k < c → x = nI k → Q (some (.inl 1)) S) (h0 : ¬ inC c x → Q (some (.inl 0)) S) : CT (d + 1) 0 0 m_C_isDhow [.inr (.inr (0, 0)), .inl x] S Q := by
  refine ct_of (xmok_all (by decide)) rfl (V_go (pc := 0) pk_83 [] 50 ?_)
  refine ct_within (fun q1 q2 => And.intro (Or.inr rfl) ?_) (fun q => And.intro (Or.inl rfl) ?_)
  · obtain ⟨k, g1, g2⟩ := (inC_iff' hh).mp ⟨q1, by rw [← hc]; exact q2⟩
    exact h1 k g1 g2
  · exact h0 (fun g => q (by rw [hc]; exact (inC_iff' hh).mpr g))
theorem ct_C_isVenture {d c : Nat} {x : Int32} {S : xS} {Q : xQ} (hc : S.1 0 0 10 = nI c) (hh : c < 2 ^ 31) (h1 : ∀ k, k < c → x = nI k → Q (some (.inl 1)) S) (h0 : ¬ inC c x → Q (some (.inl 0)) S) : CT (d + 1) 0 0 m_C_isVenture [.inr (.inr (0, 0)), .inl x] S Q := by
  refine ct_of (xmok_all (by decide)) rfl (V_go (pc := 0) pk_95 [] 50 ?_)
  refine ct_within (fun q1 q2 => And.intro (Or.inr rfl) ?_) (fun q => And.intro (Or.inl rfl) ?_)
  · obtain ⟨k, g1, g2⟩ := (inC_iff' hh).mp ⟨q1, by rw [← hc]; exact q2⟩
    exact h1 k g1 g2
  · exact h0 (fun g => q (by rw [hc]; exact (inC_iff' hh).mpr g))
theorem ct_C_isText {d c : Nat} {x : Int32} {S : xS} {Q : xQ} (hc : S.1 0 0 11 = nI c) (hh : c < 2 ^ 31) (h1 : ∀ k, k < c → x = nI k → Q (some (.inl 1)) S) (h0 : ¬ inC c x → Q (some (.inl 0)) S) : CT (d + 1) 0 0 m_C_isText [.inr (.inr (0, 0)), .inl x] S Q := by
  refine ct_of (xmok_all (by decide)) rfl (V_go (pc := 0) pk_106 [] 50 ?_)
  refine ct_within (fun q1 q2 => And.intro (Or.inr rfl) ?_) (fun q => And.intro (Or.inl rfl) ?_)
  · obtain ⟨k, g1, g2⟩ := (inC_iff' hh).mp ⟨q1, by rw [← hc]; exact q2⟩
    exact h1 k g1 g2
  · exact h0 (fun g => q (by rw [hc]; exact (inC_iff' hh).mpr g))
theorem ct_C_hasPort {d c : Nat} {x : Int32} {S : xS} {Q : xQ} (hc : S.1 1 0 2 = nI c) (hh : c < 2 ^ 31) (h1 : ∀ k, k < c → x = nI k → Q (some (.inl 1)) S) (h0 : ¬ inC c x → Q (some (.inl 0)) S) : CT (d + 1) 0 0 m_Sea_has [.inr (.inr (1, 0)), .inl x] S Q := by
  refine ct_Sea_has (fun q1 q2 => ?_) (fun q => ?_)
  · obtain ⟨k, g1, g2⟩ := (inC_iff' hh).mp ⟨q1, by rw [← hc]; exact q2⟩
    exact h1 k g1 g2
  · exact h0 (fun g => q (by rw [hc]; exact (inC_iff' hh).mpr g))
theorem ct_M_port_is {d c : Nat} {x : Int32} {S : xS} {Q : xQ} (hc : S.1 36 0 1 = nI c) (hh : c < 2 ^ 31) (h1 : ∀ k, k < c → x = nI k → Q (some (.inl 1)) S) (h0 : ¬ inC c x → Q (some (.inl 0)) S) : CT d 0 0 m_M_isPort [.inr (.inr (36, 0)), .inl x] S Q := by
  refine ct_M_isPort (fun q1 q2 => ?_) (fun q => ?_)
  · obtain ⟨k, g1, g2⟩ := (inC_iff hh).mp ⟨q1, by rw [← hc]; exact q2⟩
    exact h1 k g1 g2
  · exact h0 (fun g => q (by rw [hc]; exact (inC_iff hh).mpr g))
theorem ct_M_isDhow {d c : Nat} {x : Int32} {S : xS} {Q : xQ} (hc : S.1 36 0 8 = nI c) (hh : c < 2 ^ 31) (h1 : ∀ k, k < c → x = nI k → Q (some (.inl 1)) S) (h0 : ¬ inC c x → Q (some (.inl 0)) S) : CT d 0 0 m_M_isDhow [.inr (.inr (36, 0)), .inl x] S Q := by
  refine ct_of (xmok_all (by decide)) rfl (V_go (pc := 0) pk_131 [] 50 ?_)
  refine And.intro (fun c1 => And.intro (Or.inl rfl) (h0 (fun g => ?_))) (fun c1 => And.intro (fun c2 => And.intro (Or.inl rfl) (h0 (fun g => ?_))) (fun c2 => And.intro (Or.inr rfl) ?_))
  · exact absurd ((inC_iff hh).mpr g).1 (Int32.not_le.mpr c1)
  · rw [hc] at c2; exact absurd ((inC_iff hh).mpr g).2 (Int32.not_lt.mpr c2)
  · rw [hc] at c2
    obtain ⟨k, g1, g2⟩ := (inC_iff hh).mp ⟨Int32.not_lt.mp c1, Int32.not_le.mp c2⟩
    exact h1 k g1 g2
theorem ct_M_isVenture {d c : Nat} {x : Int32} {S : xS} {Q : xQ} (hc : S.1 36 0 19 = nI c) (hh : c < 2 ^ 31) (h1 : ∀ k, k < c → x = nI k → Q (some (.inl 1)) S) (h0 : ¬ inC c x → Q (some (.inl 0)) S) : CT d 0 0 m_M_isVenture [.inr (.inr (36, 0)), .inl x] S Q := by
  refine ct_of (xmok_all (by decide)) rfl (V_go (pc := 0) pk_146 [] 50 ?_)
  refine And.intro (fun c1 => And.intro (Or.inl rfl) (h0 (fun g => ?_))) (fun c1 => And.intro (fun c2 => And.intro (Or.inl rfl) (h0 (fun g => ?_))) (fun c2 => And.intro (Or.inr rfl) ?_))
  · exact absurd ((inC_iff hh).mpr g).1 (Int32.not_le.mpr c1)
  · rw [hc] at c2; exact absurd ((inC_iff hh).mpr g).2 (Int32.not_lt.mpr c2)
  · rw [hc] at c2
    obtain ⟨k, g1, g2⟩ := (inC_iff hh).mp ⟨Int32.not_lt.mp c1, Int32.not_le.mp c2⟩
    exact h1 k g1 g2
theorem ct_C_good {d : Nat} {x : Int32} {S : xS} {Q : xQ} (h1 : ∀ k, k < 4 → x = nI k → Q (some (.inl 1)) S) (h0 : ¬ inC 4 x → Q (some (.inl 0)) S) : CT (d + 1) 0 0 m_C_isGood [.inl x] S Q := by
  refine ct_C_isGood (fun q1 q2 => ?_) (fun q => ?_)
  · obtain ⟨k, g1, g2⟩ := (inC_iff' (c := 4) (by decide)).mp ⟨q1, q2⟩
    exact h1 k g1 g2
  · exact h0 (fun g => q ((inC_iff' (c := 4) (by decide)).mpr g))
theorem ct_M_good {d : Nat} {x : Int32} {S : xS} {Q : xQ} (h1 : ∀ k, k < 4 → x = nI k → Q (some (.inl 1)) S) (h0 : ¬ inC 4 x → Q (some (.inl 0)) S) : CT (d + 1) 0 0 m_M_isGood [.inl x] S Q := by
  refine ct_M_isGood (fun q1 q2 => ?_) (fun q => ?_)
  · obtain ⟨k, g1, g2⟩ := (inC_iff' (c := 4) (by decide)).mp ⟨q1, q2⟩
    exact h1 k g1 g2
  · exact h0 (fun g => q ((inC_iff' (c := 4) (by decide)).mpr g))
theorem ct_C_sheet {d : Nat} {x : Int32} {S : xS} {Q : xQ} (h1 : ∀ k, k < 4 → x = nI k → Q (some (.inl 1)) S) (h0 : ¬ inC 4 x → Q (some (.inl 0)) S) : CT (d + 1) 0 0 m_C_isSheet [.inl x] S Q := by
  refine ct_C_isSheet (fun q1 q2 => ?_) (fun q => ?_)
  · obtain ⟨k, g1, g2⟩ := (inC_iff' (c := 4) (by decide)).mp ⟨q1, q2⟩
    exact h1 k g1 g2
  · exact h0 (fun g => q ((inC_iff' (c := 4) (by decide)).mpr g))
