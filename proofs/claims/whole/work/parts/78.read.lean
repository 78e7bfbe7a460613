/-! text: the class's reader, its small methods -/
abbrev R0v : xV := .inr (.inr (25, 0))
abbrev K0v : xV := .inr (.inr (23, 0))
abbrev fRd : List Nat := [24002, 24003, 24004, 24005, 26003, 26004, 26005, 26]
/-- the tokens: where each begins to be looked for, where it starts -/
abbrev GP : Type := (Nat → Nat) × (Nat → Nat)
def gTk (K : GT) (P : GP) (i : Nat) (S : xS) : Prop := S.1 23 0 2 = nI (P.1 (i + 1)) ∧ S.1 23 0 3 = nI (K.1 i) ∧ S.1 23 0 4 = nI (P.2 i) ∧ (K.1 i = 2 → S.1 23 0 5 = nI (K.2 i))
/-- the reader stands alive at token i -/
def gAl (K : GT) (P : GP) (i u op : Nat) (S : xS) : Prop := gTk K P i S ∧ S.1 25 0 3 = nI u ∧ S.1 25 0 4 = nI op ∧ S.1 25 0 5 = -1 ∧ i ≤ P.1 i
/-- the reader has failed at token j -/
def gDd (P : GP) (j : Nat) (S : xS) : Prop := S.1 23 0 3 = 1 ∧ S.1 25 0 5 = nI (P.2 j) ∧ ∃ u, u ≤ 160 ∧ S.1 25 0 3 = nI u
/-- what is known of the tokens -/
def gTs (K : GT) (P : GP) : Prop := (∀ i, P.1 i ≤ 160 ∧ P.2 i ≤ 160 ∧ K.1 i < 200 ∧ K.2 i ≤ 9999) ∧ (∀ i, ¬ K.1 i = 0 → P.1 i < P.1 (i + 1)) ∧ ∀ i, ¬ K.1 i = 3
/-- the contract of next, from a store like S0 -/
def gNx (K : GT) (P : GP) (c : Nat) (S0 : xS) : Prop := ∀ D i (S : xS) (Q : xQ), c ≤ D → Fr (fl fRd) S0 S → S.1 23 0 2 = nI (P.1 i) → (∀ S', Fr (fl [24002, 24003, 24004, 24005]) S S' → gTk K P i S' → Q none S') → CT D 0 0 m_Tokens_next [K0v] S Q
theorem ct_fail {D j u : Nat} {P : GP} {S : xS} {Q : xQ} (hP : P.2 j ≤ 160) (hu : u ≤ 160) (h3 : S.1 25 0 3 = nI u) (h : (S.1 25 0 5 = -1 ∧ S.1 23 0 4 = nI (P.2 j)) ∨ S.1 25 0 5 = nI (P.2 j)) (hq : ∀ S', Fr (fl [26005, 24003]) S S' → gDd P j S' → Q none S') : CT D 0 0 m_Reader_fail [R0v] S Q := by
  refine ct_of (xmok_all (by decide)) rfl (V_go (pc := 0) pk_23 [] 40 ?_)
  refine And.intro (fun q => ?_) (fun q => ?_)
  · have q : ¬ S.1 25 0 5 = -1 := q
    rcases h with h | h
    · exact absurd h.1 q
    · exact hq _ (Fr.rf.up rfl) ⟨rfl, h, u, hu, h3⟩
  · have q : S.1 25 0 5 = -1 := q
    rcases h with h | h
    · exact hq _ ((Fr.rf.up rfl).up rfl) ⟨rfl, h.2, u, hu, h3⟩
    · rw [h] at q; exact absurd q (nI_m (by omega))
theorem ct_emit {D u : Nat} {x : Int32} {S : xS} {Q : xQ} (hu : u < 160) (h3 : S.1 25 0 3 = nI u) (hq : Q none (xupd (xupd S 26 0 u x) 25 0 3 (nI (u + 1)))) : CT D 0 0 m_Reader_emit [R0v, .inl x] S Q := by
  refine ct_of (xmok_all (by decide)) rfl (V_go (pc := 0) pk_31 [] 40 ?_)
  refine And.intro (fun q => ?_) (fun _ => ?_)
  · have q : nI 160 ≤ S.1 25 0 3 := q
    rw [h3] at q
    exact absurd ((nI_leI (by decide) (by omega)).mp q) (by omega)
  · refine And.intro (by rw [h3]; exact vi (N := 160) hu) ?_
    refine qq hq rfl ?_
    show xupd (xupd S 26 0 (S.1 25 0 3).toNatClampNeg x) 25 0 3 (S.1 25 0 3 + 1) = _
    rw [h3, nI_1, nI_clamp (by omega)]
/-- emit, when all is lost -/
theorem ct_emit_d {D j : Nat} {P : GP} {x : Int32} {S : xS} {Q : xQ} (h : gDd P j S) (hq : ∀ S', Fr (fl [26, 26003]) S S' → gDd P j S' → Q none S') : CT D 0 0 m_Reader_emit [R0v, .inl x] S Q := by
  obtain ⟨h1, h2, u, hu, h3⟩ := h
  by_cases c : u < 160
  · exact ct_emit c h3 (hq _ ((Fr.rf.up rfl).up rfl) ⟨h1, h2, u + 1, by omega, rfl⟩)
  · refine ct_of (xmok_all (by decide)) rfl (V_go (pc := 0) pk_31 [] 40 ?_)
    refine And.intro (fun _ => hq S Fr.rf ⟨h1, h2, u, hu, h3⟩) (fun q => absurd ?_ q)
    show nI 160 ≤ S.1 25 0 3
    rw [h3]; exact nI_le (by omega) (by omega)
theorem gAl.step {K : GT} {P : GP} {i u op : Nat} {S S' : xS} (hT : gTs K P) (h : gAl K P i u op S) (hk : ¬ K.1 i = 0) (f : Fr (fl [24002, 24003, 24004, 24005]) S S') (ht : gTk K P (i + 1) S') : gAl K P (i + 1) u op S' := ⟨ht, (f.1 25 0 3 rfl).trans h.2.1, (f.1 25 0 4 rfl).trans h.2.2.1, (f.1 25 0 5 rfl).trans h.2.2.2.1, by have := hT.2.1 i hk; have := h.2.2.2.2; omega⟩
theorem gAl.dead {K : GT} {P : GP} {i u op : Nat} {S : xS} (h : gAl K P i u op S) : S.1 25 0 5 = -1 ∧ S.1 23 0 4 = nI (P.2 i) := ⟨h.2.2.2.1, h.1.2.2.1⟩
/-- require: the token is k, or a fault -/
theorem ct_require {D c i u op k : Nat} {K : GT} {P : GP} {S0 S : xS} {Q : xQ} (hT : gTs K P) (hN : gNx K P c S0) (hD : c + 1 ≤ D) (f0 : Fr (fl fRd) S0 S) (h : gAl K P i u op S) (hu : u ≤ 160) (hk : 0 < k) (hk2 : k < 200) (h1 : K.1 i = k → ∀ S', Fr (fl fRd) S S' → (∀ j, S'.1 26 0 j = S.1 26 0 j) → gAl K P (i + 1) u op S' → Q none S') (h0 : ¬ K.1 i = k → ∀ S', Fr (fl fRd) S S' → gDd P i S' → Q none S') : CT D 0 0 m_Reader_require [R0v, .inl (nI k)] S Q := by
  obtain ⟨D, rfl⟩ : ∃ E, D = E + 1 := ⟨D - 1, by omega⟩
  have kk := (hT.1 i).2.2.1
  refine ct_of (xmok_all (by decide)) rfl (V_go (pc := 0) pk_22 [] 40 ?_)
  refine And.intro (fun q => ?_) (fun q => ?_)
  · have q : ¬ S.1 23 0 3 = nI k := q
    rw [h.1.2.1] at q
    refine ct_fail (P := P) (j := i) (hT.1 i).2.1 hu h.2.1 (Or.inl h.dead) (fun S' f g => ?_)
    exact h0 (fun e => q (by rw [e])) S' (f.wk (by decide)) g
  · have q : S.1 23 0 3 = nI k := q
    rw [h.1.2.1] at q
    have e := (nI_eq (by omega) (by omega)).mp q
    refine hN D (i + 1) S _ (by omega) f0 h.1.1 (fun S' f g => ?_)
    exact h1 e S' (f.wk (by decide)) (fun j => f.1 26 0 j rfl) (h.step hT (by omega) f g)
theorem ct_require_d {D j k : Nat} {P : GP} {S : xS} {Q : xQ} (hP : P.2 j ≤ 160) (h : gDd P j S) (hk : ¬ k = 1) (hk2 : k < 200) (hq : ∀ S', Fr (fl fRd) S S' → gDd P j S' → Q none S') : CT (D + 1) 0 0 m_Reader_require [R0v, .inl (nI k)] S Q := by
  obtain ⟨h1, h2, u, hu, h3⟩ := h
  refine ct_of (xmok_all (by decide)) rfl (V_go (pc := 0) pk_22 [] 40 ?_)
  refine And.intro (fun _ => ?_) (fun q => ?_)
  · exact ct_fail (P := P) (j := j) hP hu h3 (Or.inr h2) (fun S' f g => hq S' (f.wk (by decide)) g)
  · have q : S.1 23 0 3 = nI k := q
    rw [h1] at q
    exact absurd ((nI_eq (a := 1) (by omega) (by omega)).mp q) (fun e => hk e.symm)
theorem ct_enter {D c i u op : Nat} {K : GT} {P : GP} {S0 S : xS} {Q : xQ} (hT : gTs K P) (hN : gNx K P c S0) (hD : c + 1 ≤ D) (f0 : Fr (fl fRd) S0 S) (h : gAl K P i u op S) (hu : u ≤ 160) (hk : ¬ K.1 i = 0) (ho : op ≤ 5) (h1 : op < 5 → ∀ S', Fr (fl fRd) S S' → (∀ j, S'.1 26 0 j = S.1 26 0 j) → gAl K P (i + 1) u (op + 1) S' → Q (some (.inl 1)) S') (h0 : ¬ op < 5 → ∀ S', Fr (fl fRd) S S' → gDd P i S' → Q (some (.inl 0)) S') : CT D 0 0 m_Reader_enter [R0v] S Q := by
  obtain ⟨D, rfl⟩ : ∃ E, D = E + 1 := ⟨D - 1, by omega⟩
  refine ct_of (xmok_all (by decide)) rfl (V_go (pc := 0) pk_33 [] 40 ?_)
  refine And.intro (fun q => ?_) (fun q => ?_)
  · have q : S.1 25 0 4 < nI 5 := q
    rw [h.2.2.1] at q
    have ho := (nI_ltI (by omega) (by omega)).mp q
    have e1 : S.1 25 0 4 + 1 = nI (op + 1) := by rw [h.2.2.1, nI_1]
    refine hN D (i + 1) _ _ (by omega) (f0.tr (Fr.up Fr.rf rfl)) h.1.1 (fun S' f g => ?_)
    refine And.intro (Or.inr rfl) ?_
    refine h1 ho S' ((Fr.up Fr.rf rfl).tr (f.wk (by decide))) (fun j => f.1 26 0 j rfl) ?_
    refine ⟨g, (f.1 25 0 3 rfl).trans h.2.1, (f.1 25 0 4 rfl).trans e1, (f.1 25 0 5 rfl).trans h.2.2.2.1, ?_⟩
    have := hT.2.1 i hk
    have := h.2.2.2.2
    omega
  · have q : ¬ S.1 25 0 4 < nI 5 := q
    rw [h.2.2.1] at q
    refine ct_fail (P := P) (j := i) (hT.1 i).2.1 hu h.2.1 (Or.inl h.dead) (fun S' f g => ?_)
    exact And.intro (Or.inl rfl) (h0 (fun z => q (nI_lt z (by omega))) S' (f.wk (by decide)) g)
