/-! running a part's code -/
def hS (c : Int32) (n : Nat) : Nat := if 0 ≤ c then n + 1 else if 134 ≤ -c ∧ -c ≤ 139 then n + 1 else if -c = 133 then n else if -c = 3 then n else n - 1
def htP (c : Nat → Int32) : Nat → Nat
  | 0 => 0
  | m + 1 => hS (c m) (htP c m)
def rnP (vals c : Nat → Int32) : Nat → (Nat → Int32) × Nat
  | 0 => (fun _ => 0, 0)
  | m + 1 => stP vals (c m) (rnP vals c m)
theorem stP_2 (vals : Nat → Int32) (c : Int32) (w : (Nat → Int32) × Nat) : (stP vals c w).2 = hS c w.2 := by
  unfold stP hS
  by_cases h1 : 0 ≤ c
  · rw [if_pos h1, if_pos h1]
  · rw [if_neg h1, if_neg h1]
    by_cases h2 : 134 ≤ -c ∧ -c ≤ 139
    · rw [if_pos h2, if_pos h2]
    · rw [if_neg h2, if_neg h2]
      by_cases h3 : -c = 133
      · rw [if_pos h3, if_pos h3]
      · rw [if_neg h3, if_neg h3]
        by_cases h4 : -c = 3
        · rw [if_pos h4, if_pos h4]
        · rw [if_neg h4, if_neg h4]
theorem rnP_2 (vals c : Nat → Int32) : ∀ m, (rnP vals c m).2 = htP c m
  | 0 => rfl
  | m + 1 => by
    show (stP vals (c m) (rnP vals c m)).2 = hS (c m) (htP c m)
    rw [stP_2, rnP_2 vals c m]
theorem hS_le (c : Int32) (n : Nat) : hS c n ≤ n + 1 := by
  unfold hS
  by_cases h1 : 0 ≤ c
  · rw [if_pos h1]; omega
  · rw [if_neg h1]
    by_cases h2 : 134 ≤ -c ∧ -c ≤ 139
    · rw [if_pos h2]; omega
    · rw [if_neg h2]
      by_cases h3 : -c = 133
      · rw [if_pos h3]; omega
      · rw [if_neg h3]
        by_cases h4 : -c = 3
        · rw [if_pos h4]; omega
        · rw [if_neg h4]; omega
theorem htP_le (c : Nat → Int32) : ∀ m, htP c m ≤ m
  | 0 => Nat.le_refl _
  | m + 1 => by
    show hS (c m) (htP c m) ≤ m + 1
    have := hS_le (c m) (htP c m)
    have := htP_le c m
    omega
/-- a part's code is well formed: each step finds what it needs, one number is left -/
def wfP (c : Nat → Int32) (e : Nat) : Prop := e ≤ 160 ∧ (∀ m, m < e → ndP (c m) ≤ htP c m) ∧ htP c e = 1
theorem ct_firstOf {d T P : Nat} {S : xS} {Q : xQ} (hP : P < 3) (h : Q (some (.inl (if P = 0 then 0 else S.1 19 T (P - 1)))) S) : CT d 0 0 m_Text_firstOf [.inr (.inr (17, T)), .inl (nI P)] S Q := by
  refine ct_of (xmok_all (by decide)) rfl (V_go (pc := 0) pk_51 [] 40 ?_)
  refine And.intro (fun q => ?_) (fun q => ?_)
  · have q : ¬ P = 0 := fun g => by subst g; exact q rfl
    rw [if_neg q] at h
    have e : nI P - 1 = nI (P - 1) := by
      rw [show P = (P - 1) + 1 by omega, nI_pred]
      congr 1
    refine And.intro (by rw [e]; exact vi (N := 3) (by omega)) ?_
    refine qi h ?_ rfl
    show S.1 19 T (nI P - 1).toNatClampNeg = _
    rw [e, nI_clamp (by omega)]
  · have q : nI P = nI 0 := q
    have q : P = 0 := (nI_eq (by omega) (by decide)).mp q
    rw [if_pos q] at h
    exact h
theorem ct_reckon {d T P a e : Nat} {vals c : Nat → Int32} {S : xS} {Q : xQ} (hP : P < 3) (ha : (if P = 0 then 0 else S.1 19 T (P - 1)) = nI a) (hb : S.1 19 T P = nI (a + e)) (hlen : a + e ≤ 160) (hcl : a + e ≤ (S.1 18 T 65536).toNatClampNeg) (hw : wfP c e) (hc : ∀ m, m < e → S.1 18 T (a + m) = c m) (hv : ∀ i, i < 6 → S.1 29 0 i = vals i) (h : ∀ S', Fr (fl [30, 29002]) S S' → Q (some (.inl ((rnP vals c e).1 0))) S') : CT (d + 2) 0 0 m_Reckoner_reckon [.inr (.inr (28, 0)), .inr (.inr (17, T)), .inl (nI P)] S Q := by
  obtain ⟨w1, w2, w3⟩ := hw
  have eP : (nI P).toNatClampNeg = P := nI_clamp (by omega)
  have hv3 : vp_in (nI P) 3 := vi hP
  have loop : ∀ m j, j + m = e → ∀ S', Fr (fl [30, 29002]) S S' → rpC S' (rnP vals c j) → V (d + 2) 0 0 m_Reckoner_reckon 11 [some (.inr (.inr (28, 0))), some (.inr (.inr (17, T))), some (.inl (nI P)), some (.inl (nI (a + j)))] [] S' Q := by
    intro m
    induction m with
    | zero =>
      intro j hj S' hf hr
      obtain rfl : j = e := by omega
      have eb : S'.1 19 T P = nI (a + j) := (hf.1 19 T P rfl).trans hb
      refine V_go pk_37 [11] 40 ?_
      refine And.intro hv3 ?_
      refine And.intro (fun _ => ?_) (fun q => absurd ?_ q)
      · have h1 := rnP_2 vals c j
        rw [w3] at h1
        refine ct_pop (n := 0) (by rw [hr.1, h1]) (by omega) ?_
        have := h (xupd S' 28 0 2 (nI 0)) (hf.up rfl)
        rw [← hr.2 0 (by omega)] at this
        exact this
      · show S'.1 19 T (nI P).toNatClampNeg ≤ nI (a + j)
        rw [eP, eb]; exact Int32.le_refl _
    | succ m ih =>
      intro j hj S' hf hr
      have eb : S'.1 19 T P = nI (a + e) := (hf.1 19 T P rfl).trans hb
      have e18 : S'.1 18 T (nI (a + j)).toNatClampNeg = c j := by
        rw [nI_clamp (by omega), hf.1 18 T (a + j) rfl]
        exact hc j (by omega)
      have l18 : S'.1 18 T 65536 = S.1 18 T 65536 := hf.1 18 T 65536 rfl
      refine V_go pk_37 [11] 40 ?_
      refine And.intro hv3 ?_
      refine And.intro (fun q => ?_) (fun _ => ?_)
      · have q : S'.1 19 T (nI P).toNatClampNeg ≤ nI (a + j) := q
        rw [eP, eb] at q
        exact absurd ((nI_leI (by omega) (by omega)).mp q) (by omega)
      · refine And.intro ?_ ?_
        · show vp_in (nI (a + j)) (S'.1 18 T 65536).toNatClampNeg
          rw [l18]
          exact vi (by omega) (by have := (S.1 18 T 65536).toInt_lt; have : (S.1 18 T 65536).toNatClampNeg = (S.1 18 T 65536).toInt.toNat := rfl; omega)
        · show CT (d + 1) 0 0 m_Reckoner_step [.inr (.inr (28, 0)), .inl (S'.1 18 T (nI (a + j)).toNatClampNeg)] S' _
          rw [e18]
          have h2 := rnP_2 vals c j
          refine ct_step (vals := vals) hr (by rw [h2]; have := htP_le c j; omega) (by rw [h2]; exact w2 j (by omega)) (fun i hi => (hf.1 29 0 i rfl).trans (hv i hi)) (fun S2 hr2 hf2 => ?_)
          show V (d + 2) 0 0 m_Reckoner_reckon 11 [some (.inr (.inr (28, 0))), some (.inr (.inr (17, T))), some (.inl (nI P)), some (.inl (nI (a + j) + 1))] [] S2 Q
          rw [nI_1]
          exact ih (j + 1) (by omega) S2 (hf.tr hf2) hr2
  refine ct_of (xmok_all (by decide)) rfl (V_go (pc := 0) pk_37 [11] 40 ?_)
  refine ct_firstOf hP ?_
  show V (d + 2) 0 0 m_Reckoner_reckon 11 [some (.inr (.inr (28, 0))), some (.inr (.inr (17, T))), some (.inl (nI P)), some (.inl (if P = 0 then 0 else S.1 19 T (P - 1)))] [] (xupd S 28 0 2 0) Q
  rw [ha]
  exact loop e 0 (by omega) (xupd S 28 0 2 0) (Fr.rf.up rfl) ⟨rfl, fun j hj => absurd hj (Nat.not_lt_zero j)⟩
