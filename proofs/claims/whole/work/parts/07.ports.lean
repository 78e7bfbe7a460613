/-! ports and winds: what ties the two sides, and the calls port, wants, price, wind -/
abbrev C0 : xV := .inr (.inr (0, 0))
abbrev M0 : xV := .inr (.inr (36, 0))
def IA (n : Nat) (S : xS) : Prop :=
  (0 ≤ S.1 1 0 2 ∧ S.1 1 0 2 ≤ 6) ∧ S.1 36 0 1 = S.1 1 0 2 ∧
  (∀ p : Nat, p < 6 → S.1 37 0 p = S.1 4 p 0 ∧ S.1 38 0 p = S.1 4 p 1 ∧ (0 ≤ S.1 4 p 0 ∧ S.1 4 p 0 ≤ 99) ∧ 0 ≤ S.1 4 p 1 ∧ S.1 4 p 1 ≤ 99) ∧
  (∀ p g : Nat, p < 6 → g < 4 → (S.1 39 0 (4 * p + g) = S.1 5 p g ∧ S.1 40 0 (4 * p + g) = S.1 6 p g ∧ S.1 41 0 (4 * p + g) = S.1 7 p g) ∧ (0 ≤ S.1 5 p g ∧ S.1 5 p g ≤ 99) ∧ (0 ≤ S.1 6 p g ∧ S.1 6 p g ≤ 9) ∧ 0 ≤ S.1 7 p g ∧ (S.1 7 p g).toInt ≤ 99 * (n : Int)) ∧
  (∀ m : Nat, m < 12 → S.1 42 0 m = S.1 3 0 m ∧ -2 ≤ S.1 3 0 m ∧ S.1 3 0 m ≤ 2)
theorem IA.succ {n : Nat} {S : xS} (h : IA n S) : IA (n + 1) S := by
  obtain ⟨h1, h2, h3, h4, h5⟩ := h
  refine ⟨h1, h2, h3, fun p g hp hg => ?_, h5⟩
  obtain ⟨q1, q2, q3, q4, q5⟩ := h4 p g hp hg
  exact ⟨q1, q2, q3, q4, by omega⟩
/-! small numbers: an int between 0 and m is a natural number -/
theorem toN {x : Int32} (h0 : 0 ≤ x) : (x.toNatClampNeg : Int) = x.toInt := by
  have e0 := Int32.le_iff_toInt_le.mp h0
  rw [show (0 : Int32).toInt = 0 from rfl] at e0
  have : x.toNatClampNeg = x.toInt.toNat := rfl
  omega
theorem leI {x y : Int32} (h : x ≤ y) : x.toInt ≤ y.toInt := Int32.le_iff_toInt_le.mp h
theorem ltI {x y : Int32} (h : x < y) : x.toInt < y.toInt := Int32.lt_iff_toInt_lt.mp h
theorem adI {x y : Int32} (h0 : -2147483648 ≤ x.toInt + y.toInt) (h1 : x.toInt + y.toInt < 2147483648) : (x + y).toInt = x.toInt + y.toInt := by
  rw [Int32.toInt_add]; exact Int.bmod_eq_of_le (by omega) (by omega)
theorem sbI {x y : Int32} (h0 : -2147483648 ≤ x.toInt - y.toInt) (h1 : x.toInt - y.toInt < 2147483648) : (x - y).toInt = x.toInt - y.toInt := by
  rw [Int32.toInt_sub]; exact Int.bmod_eq_of_le (by omega) (by omega)
theorem mlI {x y : Int32} (h0 : -2147483648 ≤ x.toInt * y.toInt) (h1 : x.toInt * y.toInt < 2147483648) : (x * y).toInt = x.toInt * y.toInt := by
  rw [Int32.toInt_mul]; exact Int.bmod_eq_of_le (by omega) (by omega)
/-- the place of a good of a port in the model's rows -/
theorem at4 {p g : Int32} (hp : 0 ≤ p) (hp5 : p ≤ 5) (hg : 0 ≤ g) (hg3 : g ≤ 3) : (4 * p + g).toNatClampNeg = 4 * p.toNatClampNeg + g.toNatClampNeg ∧ vp_in (4 * p + g) 24 ∧ p.toNatClampNeg < 6 ∧ g.toNatClampNeg < 4 := by
  have a1 := leI hp; have a2 := leI hp5; have a3 := leI hg; have a4 := leI hg3
  rw [show (0 : Int32).toInt = 0 from rfl] at a1 a3
  rw [show (5 : Int32).toInt = 5 from rfl] at a2
  rw [show (3 : Int32).toInt = 3 from rfl] at a4
  have e1 : (4 * p).toInt = 4 * p.toInt := by
    have := mlI (x := 4) (y := p) (by rw [show (4 : Int32).toInt = 4 from rfl]; omega) (by rw [show (4 : Int32).toInt = 4 from rfl]; omega)
    rw [this]; rfl
  have e2 : (4 * p + g).toInt = 4 * p.toInt + g.toInt := by rw [adI (by omega) (by omega), e1]
  have b1 := toN hp
  have b2 := toN hg
  have h0 : (0 : Int32) ≤ 4 * p + g := Int32.le_iff_toInt_le.mpr (by rw [e2, show (0 : Int32).toInt = 0 from rfl]; omega)
  have b3 := toN h0
  refine ⟨by omega, vin (m := 23) rfl h0 (Int32.le_iff_toInt_le.mpr (by rw [e2, show (23 : Int32).toInt = 23 from rfl]; omega)), by omega, by omega⟩
/-- a port's number: both sides agree which they are -/
theorem isP {S : xS} {n : Nat} (h : IA n S) {p : Int32} : (p ≤ S.1 1 0 2 - 1 ↔ p < S.1 36 0 1) ∧ (p ≤ S.1 1 0 2 - 1 → p ≤ 5) := by
  obtain ⟨⟨h1, h2⟩, h3, -⟩ := h
  have a1 := leI h1; have a2 := leI h2
  rw [show (0 : Int32).toInt = 0 from rfl] at a1
  rw [show (6 : Int32).toInt = 6 from rfl] at a2
  have e : (S.1 1 0 2 - 1).toInt = (S.1 1 0 2).toInt - 1 := by rw [sbI (by rw [show (1 : Int32).toInt = 1 from rfl]; omega) (by rw [show (1 : Int32).toInt = 1 from rfl]; omega)]; rfl
  rw [h3]
  refine ⟨⟨fun q => Int32.lt_iff_toInt_lt.mpr ?_, fun q => Int32.le_iff_toInt_le.mpr ?_⟩, fun q => Int32.le_iff_toInt_le.mpr ?_⟩
  · have := leI q; omega
  · have := ltI q; omega
  · have := leI q; rw [show (5 : Int32).toInt = 5 from rfl]; omega
theorem pm_price {S : xS} {n : Nat} (h : IA n S) {p g : Int32} (hp : 0 ≤ p) (hp5 : p ≤ 5) (hg : 0 ≤ g) (hg3 : g ≤ 3) : mPrice S p g = pPrice S p.toNatClampNeg g := by
  obtain ⟨e, -, e1, e2⟩ := at4 hp hp5 hg hg3
  obtain ⟨-, -, -, h4, -⟩ := h
  obtain ⟨⟨q1, q2, q3⟩, -⟩ := h4 _ _ e1 e2
  unfold mPrice pPrice
  rw [e, q1, q2, q3]
  generalize S.1 5 p.toNatClampNeg g.toNatClampNeg - S.1 6 p.toNatClampNeg g.toNatClampNeg * S.1 7 p.toNatClampNeg g.toNatClampNeg / 10 = v
  by_cases q : v < 1
  · rw [if_pos q, if_neg (fun q2 => Int32.lt_irrefl (Int32.lt_trans q q2))]
  · rw [if_neg q]
    by_cases q2 : 1 < v
    · rw [if_pos q2]
    · rw [if_neg q2]
      exact Int32.le_antisymm (Int32.not_lt.mp q2) (Int32.not_lt.mp q)
/-- what a call may change: by kind and place -/
def Fr (f : Nat → Nat → Bool) (S S2 : xS) : Prop := (∀ k i j, f k j = false → S2.1 k i j = S.1 k i j) ∧ S2.2 = S.2
theorem Fr.rf {f : Nat → Nat → Bool} {S : xS} : Fr f S S := ⟨fun _ _ _ _ => rfl, rfl⟩
theorem Fr.up {f : Nat → Nat → Bool} {S S2 : xS} (h : Fr f S S2) {k i j : Nat} {x : Int32} (hk : f k j = true) : Fr f S (xupd S2 k i j x) := by
  refine ⟨fun k' i' j' hf => ?_, h.2⟩
  show (if k' = k ∧ j' = j ∧ i' = i then x else S2.1 k' i' j') = _
  rw [if_neg (fun q => by rw [q.1, q.2.1, hk] at hf; cases hf)]
  exact h.1 k' i' j' hf
theorem xu_k {S : xS} {k i j k' i' j' : Nat} {x : Int32} (h : Nat.beq k' k = false) : (xupd S k i j x).1 k' i' j' = S.1 k' i' j' := if_neg (fun q => by rw [q.1, Nat.beq_refl] at h; cases h)
theorem xu_j {S : xS} {k i j k' i' j' : Nat} {x : Int32} (h : Nat.beq j' j = false) : (xupd S k i j x).1 k' i' j' = S.1 k' i' j' := if_neg (fun q => by rw [q.2.1, Nat.beq_refl] at h; cases h)
theorem xu_e {S : xS} {k i j j' : Nat} {x : Int32} : (xupd S k i j x).1 k i j' = if j' = j then x else S.1 k i j' := by
  show (if k = k ∧ j' = j ∧ i = i then x else S.1 k i j') = _
  simp only [true_and, and_true]
theorem xu_i {S : xS} {k i j i' j' : Nat} {x : Int32} : (xupd S k i j x).1 k i' j' = if j' = j ∧ i' = i then x else S.1 k i' j' := by
  show (if k = k ∧ j' = j ∧ i' = i then x else S.1 k i' j') = _
  simp only [true_and]
theorem mm_price_bad {d : Nat} {S : xS} {n : Nat} (h : IA n S) {p g : Int32} (hb : ¬ (0 ≤ p ∧ p ≤ S.1 1 0 2 - 1) ∨ ¬ (0 ≤ g ∧ g ≤ 3)) {Q : xQ} (hq : Q (some (.inl (-2))) S) : CT (d + 3) 0 0 m_M_price [M0, .inl p, .inl g] S Q := by
  refine ct_of (xmok_all (by decide)) rfl ?_
  refine V_go (pc := 0) pk_124 [] 60 ?_
  refine ct_M_isPort (fun c1 c2 => ?_) (fun c => ?_)
  · (repeat' first | (refine And.intro (fun q => absurd q (by decide)) (fun _ => ?_)) | (refine And.intro (fun _ => ?_) (fun q => absurd q (by decide))) | fail)
    refine ct_M_isGood (fun c3 c4 => ?_) (fun c => ?_)
    · exact absurd ⟨c3, c4⟩ (hb.resolve_left (fun q => q ⟨c1, (isP h).1.mpr c2⟩))
    · (repeat' first | (refine And.intro (fun q => absurd q (by decide)) (fun _ => ?_)) | (refine And.intro (fun _ => ?_) (fun q => absurd q (by decide))) | fail)
      exact hq
  · (repeat' first | (refine And.intro (fun q => absurd q (by decide)) (fun _ => ?_)) | (refine And.intro (fun _ => ?_) (fun q => absurd q (by decide))) | fail)
    exact hq
theorem cm_price {d : Nat} {S : xS} {n : Nat} (h : IA n S) {p g : Int32} : CT (d + 3) 0 0 m_C_price [C0, .inl p, .inl g] S (fun r S1 => CT (d + 3) 0 0 m_M_price [M0, .inl p, .inl g] S1 (fun r' S2 => r' = r ∧ S2 = S)) := by
  refine ct_of (xmok_all (by decide)) rfl ?_
  refine V_go (pc := 0) pk_74 [] 60 ?_
  refine ct_Sea_has (fun c1 c2 => ?_) (fun c => ?_)
  · (repeat' first | (refine And.intro (fun q => absurd q (by decide)) (fun _ => ?_)) | (refine And.intro (fun _ => ?_) (fun q => absurd q (by decide))) | fail)
    refine ct_C_isGood (fun c3 c4 => ?_) (fun c => ?_)
    · (repeat' first | (refine And.intro (fun q => absurd q (by decide)) (fun _ => ?_)) | (refine And.intro (fun _ => ?_) (fun q => absurd q (by decide))) | fail)
      have hp5 := (isP h).2 c2
      obtain ⟨e, e24, e1, e2⟩ := at4 c1 hp5 c3 c4
      refine And.intro (vin (m := 5) rfl c1 hp5) ?_
      refine ct_Port_priceOf (vin (m := 3) rfl c3 c4) ?_
      refine ct_of (xmok_all (by decide)) rfl ?_
      refine V_go (pc := 0) pk_124 [] 60 ?_
      refine ct_M_isPort (fun _ _ => ?_) (fun c => absurd ⟨c1, (isP h).1.mp c2⟩ c)
      (repeat' first | (refine And.intro (fun q => absurd q (by decide)) (fun _ => ?_)) | (refine And.intro (fun _ => ?_) (fun q => absurd q (by decide))) | fail)
      refine ct_M_isGood (fun _ _ => ?_) (fun c => absurd ⟨c3, c4⟩ c)
      (repeat' first | (refine And.intro (fun q => absurd q (by decide)) (fun _ => ?_)) | (refine And.intro (fun _ => ?_) (fun q => absurd q (by decide))) | fail)
      refine ct_M_priceOf e24 ?_
      exact ⟨by rw [pm_price h c1 hp5 c3 c4], rfl⟩
    · (repeat' first | (refine And.intro (fun q => absurd q (by decide)) (fun _ => ?_)) | (refine And.intro (fun _ => ?_) (fun q => absurd q (by decide))) | fail)
      exact mm_price_bad h (Or.inr c) ⟨rfl, rfl⟩
  · (repeat' first | (refine And.intro (fun q => absurd q (by decide)) (fun _ => ?_)) | (refine And.intro (fun _ => ?_) (fun q => absurd q (by decide))) | fail)
    exact mm_price_bad h (Or.inl c) ⟨rfl, rfl⟩
abbrev fWind : Nat → Nat → Bool := fl [3, 42]
theorem IA.wind {S : xS} {n : Nat} (h : IA n S) {m : Nat} {w : Int32} (hw : -2 ≤ w ∧ w ≤ 2) : IA n (xupd (xupd S 3 0 m w) 42 0 m w) := by
  obtain ⟨h1, h2, h3, h4, h5⟩ := h
  refine ⟨h1, h2, h3, h4, fun m' hm => ?_⟩
  rw [xu_e, xu_k (k' := 3) rfl, xu_k (k' := 42) rfl, xu_e]
  by_cases e : m' = m
  · rw [if_pos e, if_pos e]; exact ⟨rfl, hw⟩
  · rw [if_neg e, if_neg e]; exact h5 m' hm
theorem mm_wind_bad {d : Nat} {S : xS} {m w : Int32} (hb : ¬ (0 ≤ m ∧ m ≤ 11) ∨ ¬ (-2 ≤ w ∧ w ≤ 2)) {Q : xQ} (hq : Q (some (.inl (-2))) S) : CT (d + 3) 0 0 m_M_wind [M0, .inl m, .inl w] S Q := by
  refine ct_of (xmok_all (by decide)) rfl ?_
  refine V_go (pc := 0) pk_125 [] 60 ?_
  refine ct_M_isIn32 (a := 0) (b := 11) rfl rfl (fun c1 c2 => ?_) (fun c => ?_)
  · (repeat' first | (refine And.intro (fun q => absurd q (by decide)) (fun _ => ?_)) | (refine And.intro (fun _ => ?_) (fun q => absurd q (by decide))) | fail)
    refine ct_M_isIn32 (a := -2) (b := 2) rfl rfl (fun c3 c4 => ?_) (fun c => ?_)
    · exact absurd ⟨c3, c4⟩ (hb.resolve_left (fun q => q ⟨c1, c2⟩))
    · (repeat' first | (refine And.intro (fun q => absurd q (by decide)) (fun _ => ?_)) | (refine And.intro (fun _ => ?_) (fun q => absurd q (by decide))) | fail)
      exact hq
  · (repeat' first | (refine And.intro (fun q => absurd q (by decide)) (fun _ => ?_)) | (refine And.intro (fun _ => ?_) (fun q => absurd q (by decide))) | fail)
    exact hq
theorem cm_wind {d : Nat} {S : xS} {n : Nat} (h : IA n S) {m w : Int32} : CT (d + 3) 0 0 m_C_wind [C0, .inl m, .inl w] S (fun r S1 => CT (d + 3) 0 0 m_M_wind [M0, .inl m, .inl w] S1 (fun r' S2 => r' = r ∧ IA n S2 ∧ Fr fWind S S2)) := by
  refine ct_of (xmok_all (by decide)) rfl ?_
  refine V_go (pc := 0) pk_75 [] 60 ?_
  refine ct_within (fun c1 c2 => ?_) (fun c => ?_)
  · (repeat' first | (refine And.intro (fun q => absurd q (by decide)) (fun _ => ?_)) | (refine And.intro (fun _ => ?_) (fun q => absurd q (by decide))) | fail)
    refine ct_within (fun c3 c4 => ?_) (fun c => ?_)
    · (repeat' first | (refine And.intro (fun q => absurd q (by decide)) (fun _ => ?_)) | (refine And.intro (fun _ => ?_) (fun q => absurd q (by decide))) | fail)
      refine And.intro (vin (m := 11) rfl c1 c2) ?_
      refine ct_of (xmok_all (by decide)) rfl ?_
      refine V_go (pc := 0) pk_125 [] 60 ?_
      refine ct_M_isIn32 (a := 0) (b := 11) rfl rfl (fun _ _ => ?_) (fun c => absurd ⟨c1, c2⟩ c)
      (repeat' first | (refine And.intro (fun q => absurd q (by decide)) (fun _ => ?_)) | (refine And.intro (fun _ => ?_) (fun q => absurd q (by decide))) | fail)
      refine ct_M_isIn32 (a := -2) (b := 2) rfl rfl (fun _ _ => ?_) (fun c => absurd ⟨c3, c4⟩ c)
      (repeat' first | (refine And.intro (fun q => absurd q (by decide)) (fun _ => ?_)) | (refine And.intro (fun _ => ?_) (fun q => absurd q (by decide))) | fail)
      refine And.intro (vin (m := 11) rfl c1 c2) ?_
      exact ⟨rfl, h.wind ⟨c3, c4⟩, (Fr.rf.up rfl).up rfl⟩
    · (repeat' first | (refine And.intro (fun q => absurd q (by decide)) (fun _ => ?_)) | (refine And.intro (fun _ => ?_) (fun q => absurd q (by decide))) | fail)
      exact mm_wind_bad (Or.inr c) ⟨rfl, h, Fr.rf⟩
  · (repeat' first | (refine And.intro (fun q => absurd q (by decide)) (fun _ => ?_)) | (refine And.intro (fun _ => ?_) (fun q => absurd q (by decide))) | fail)
    exact mm_wind_bad (Or.inl c) ⟨rfl, h, Fr.rf⟩
