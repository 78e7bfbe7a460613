/-! text: the model's letters and words -/
abbrev gS8 (y : Int32) : Prop := ((((((y = 40 ∨ y = 41) ∨ y = 59) ∨ y = 43) ∨ y = 45) ∨ y = 42) ∨ y = 60) ∨ y = 61
theorem by_f : ∀ k : Fin 256, (0 ≤ ((nI k.1 - 128) &&& 255)) ∧ ((((nI k.1 - 128) &&& 255) = 32 ∨ ((nI k.1 - 128) &&& 255) = 10) ↔ gBl (nI k.1 - 128) = true) ∧ ((97 ≤ ((nI k.1 - 128) &&& 255) ∧ ((nI k.1 - 128) &&& 255) ≤ 122) ↔ gLt (nI k.1 - 128) = true) ∧ ((48 ≤ ((nI k.1 - 128) &&& 255) ∧ ((nI k.1 - 128) &&& 255) ≤ 57) ↔ gDg (nI k.1 - 128) = true) ∧ (0 ≤ nI k.1 - 128 → ((nI k.1 - 128) &&& 255) = nI k.1 - 128) ∧ (gS8 ((nI k.1 - 128) &&& 255) ↔ (0 < nI k.1 - 128 ∧ (nI k.1 - 128).toNatClampNeg ∈ sgs)) := by decide +kernel
theorem by_x {x : Int32} (h : -128 ≤ x ∧ x ≤ 127) : ∃ k : Fin 256, x = nI k.1 - 128 := by
  have h1 := Int32.le_iff_toInt_le.mp h.1
  have h2 := Int32.le_iff_toInt_le.mp h.2
  rw [show (-128 : Int32).toInt = -128 from rfl] at h1
  rw [show (127 : Int32).toInt = 127 from rfl] at h2
  refine ⟨⟨(x.toInt + 128).toNat, by omega⟩, Int32.toInt_inj.mp ?_⟩
  show x.toInt = (nI (x.toInt + 128).toNat - nI 128).toInt
  rw [sbI (by rw [nI_toInt (by omega), nI_toInt (by decide)]; omega) (by rw [nI_toInt (by omega), nI_toInt (by decide)]; omega), nI_toInt (by omega), nI_toInt (by decide)]
  omega
/-- the model's bytes -/
def gMb (b : Nat → Int32) (n : Nat) (S : xS) : Prop := S.1 36 0 32 = nI n ∧ n ≤ 160 ∧ (∀ j, j < n → S.1 61 0 j = b j) ∧ ∀ j, j < n → -128 ≤ b j ∧ b j ≤ 127
theorem gMb.fr {b : Nat → Int32} {n : Nat} {l : List Nat} {S S2 : xS} (f : Fr (fl l) S S2) (hd : [61, 37032].all (fun q => !l.elem q) = true) (h : gMb b n S) : gMb b n S2 := by
  have e0 : ∀ i j, S2.1 61 i j = S.1 61 i j := fun i j => f.off hd rfl
  have e1 : ∀ i, S2.1 36 i 32 = S.1 36 i 32 := fun i => f.off hd rfl
  unfold gMb at h ⊢
  simp only [e0, e1]
  exact h
def gLe (b : Nat → Int32) (n p : Nat) : Int32 := if p < n then b p &&& 255 else -1
theorem ct_letter {D n p : Nat} {b : Nat → Int32} {S : xS} {Q : xQ} (hB : gMb b n S) (hp : p < 2 ^ 31) (h : Q (some (.inl (gLe b n p))) S) : CT D 0 0 m_M_letter [M0, .inl (nI p)] S Q := by
  obtain ⟨e1, n160, eb, _⟩ := hB
  unfold gLe at h
  refine ct_of (xmok_all (by decide)) rfl (V_go (pc := 0) pk_163 [] 20 ?_)
  refine And.intro (fun q => ?_) (fun q => ?_)
  · have q : S.1 36 0 32 ≤ nI p := q
    rw [e1] at q
    rw [if_neg (by have := (nI_leI (by omega) hp).mp q; omega)] at h
    exact h
  · have q : ¬ S.1 36 0 32 ≤ nI p := q
    rw [e1] at q
    have q : p < n := Nat.not_le.mp (fun y => q (nI_le y hp))
    rw [if_pos q] at h
    refine And.intro (vi (N := 160) (by omega)) ?_
    refine qi h ?_ rfl
    show S.1 61 0 (nI p).toNatClampNeg &&& 255 = _
    rw [nI_clamp hp, eb p q]
theorem gLe_f {b : Nat → Int32} {n : Nat} (hb : ∀ j, j < n → -128 ≤ b j ∧ b j ≤ 127) (p : Nat) : (gLe b n p < 0 ↔ n ≤ p) ∧ ((gLe b n p = 32 ∨ gLe b n p = 10) ↔ (p < n ∧ gBl (b p) = true)) ∧ ((97 ≤ gLe b n p ∧ gLe b n p ≤ 122) ↔ (p < n ∧ gLt (b p) = true)) ∧ ((48 ≤ gLe b n p ∧ gLe b n p ≤ 57) ↔ (p < n ∧ gDg (b p) = true)) := by
  unfold gLe
  by_cases c : p < n
  · rw [if_pos c]
    obtain ⟨k, e⟩ := by_x (hb p c)
    obtain ⟨f1, f2, f3, f4, f5, f6⟩ := by_f k
    rw [e]
    refine ⟨⟨fun h => absurd f1 (Int32.not_le.mpr h), fun h => by omega⟩, ?_, ?_, ?_⟩
    · rw [f2]; exact ⟨fun h => ⟨c, h⟩, fun h => h.2⟩
    · rw [f3]; exact ⟨fun h => ⟨c, h⟩, fun h => h.2⟩
    · rw [f4]; exact ⟨fun h => ⟨c, h⟩, fun h => h.2⟩
  · rw [if_neg c]
    refine ⟨⟨fun _ => by omega, fun _ => by decide⟩, ⟨fun h => absurd h (by decide), fun h => absurd h.1 c⟩, ⟨fun h => absurd h (by decide), fun h => absurd h.1 c⟩, ⟨fun h => absurd h (by decide), fun h => absurd h.1 c⟩⟩
theorem gLe_p {b : Nat → Int32} {n p : Nat} (hb : ∀ j, j < n → -128 ≤ b j ∧ b j ≤ 127) (hp : p < n) (h0 : 0 ≤ b p) : gLe b n p = b p := by
  unfold gLe
  rw [if_pos hp]
  obtain ⟨k, e⟩ := by_x (hb p hp)
  rw [e] at h0 ⊢
  exact (by_f k).2.2.2.2.1 h0
theorem ct_mLetter {D : Nat} {x : Int32} {S : xS} {Q : xQ} (h1 : (97 ≤ x ∧ x ≤ 122) → Q (some (.inl 1)) S) (h0 : ¬ (97 ≤ x ∧ x ≤ 122) → Q (some (.inl 0)) S) : CT D 0 0 m_M_isLetter [.inl x] S Q := by
  refine ct_of (xmok_all (by decide)) rfl (V_go (pc := 0) pk_164 [] 20 ?_)
  refine And.intro (fun q => And.intro (Or.inl rfl) (h0 (fun g => absurd g.1 (Int32.not_le.mpr q)))) (fun q => ?_)
  refine And.intro (fun q2 => And.intro (Or.inl rfl) (h0 (fun g => absurd g.2 (Int32.not_le.mpr q2)))) (fun q2 => And.intro (Or.inr rfl) (h1 ⟨Int32.not_lt.mp q, Int32.not_lt.mp q2⟩))
theorem ct_mDigit {D : Nat} {x : Int32} {S : xS} {Q : xQ} (h1 : (48 ≤ x ∧ x ≤ 57) → Q (some (.inl 1)) S) (h0 : ¬ (48 ≤ x ∧ x ≤ 57) → Q (some (.inl 0)) S) : CT D 0 0 m_M_isDigit [.inl x] S Q := by
  refine ct_of (xmok_all (by decide)) rfl (V_go (pc := 0) pk_166 [] 20 ?_)
  refine And.intro (fun q => And.intro (Or.inl rfl) (h0 (fun g => absurd g.1 (Int32.not_le.mpr q)))) (fun q => ?_)
  refine And.intro (fun q2 => And.intro (Or.inl rfl) (h0 (fun g => absurd g.2 (Int32.not_le.mpr q2)))) (fun q2 => And.intro (Or.inr rfl) (h1 ⟨Int32.not_lt.mp q, Int32.not_lt.mp q2⟩))
theorem ct_mSign {D : Nat} {x : Int32} {S : xS} {Q : xQ} (h1 : gS8 x → Q (some (.inl 1)) S) (h0 : ¬ gS8 x → Q (some (.inl 0)) S) : CT D 0 0 m_M_isSign [.inl x] S Q := by
  have y1 : ∀ c, c = (1 : Int32) → gS8 x → (c = 0 ∨ c = 1) ∧ Q (some (.inl c)) S := fun c hc h => by subst hc; exact ⟨Or.inr rfl, h1 h⟩
  refine ct_of (xmok_all (by decide)) rfl (V_go (pc := 0) pk_167 [] 40 ?_)
  refine And.intro (fun q => y1 1 rfl (Or.inl (Or.inl (Or.inl (Or.inl (Or.inl (Or.inl (Or.inl q)))))))) (fun q1 => ?_)
  refine And.intro (fun q => y1 1 rfl (Or.inl (Or.inl (Or.inl (Or.inl (Or.inl (Or.inl (Or.inr q)))))))) (fun q2 => ?_)
  refine And.intro (fun q => y1 1 rfl (Or.inl (Or.inl (Or.inl (Or.inl (Or.inl (Or.inr q))))))) (fun q3 => ?_)
  refine And.intro (fun q => y1 1 rfl (Or.inl (Or.inl (Or.inl (Or.inl (Or.inr q)))))) (fun q4 => ?_)
  refine And.intro (fun q => y1 1 rfl (Or.inl (Or.inl (Or.inl (Or.inr q))))) (fun q5 => ?_)
  refine And.intro (fun q => y1 1 rfl (Or.inl (Or.inl (Or.inr q)))) (fun q6 => ?_)
  refine And.intro (fun q => y1 1 rfl (Or.inl (Or.inr q))) (fun q7 => ?_)
  refine And.intro (fun q8 => ?_) (fun q => y1 1 rfl (Or.inr q))
  exact And.intro (Or.inl rfl) (h0 (fun g => g.elim (fun g => g.elim (fun g => g.elim (fun g => g.elim (fun g => g.elim (fun g => g.elim (fun g => g.elim q1 q2) q3) q4) q5) q6) q7) q8))
/-- the words in the model's order -/
def gCm : List Nat := [6, 7, 8, 9, 10, 11, 0, 1, 2, 3, 4, 5]
def gBg : List Nat := [0, 4, 8, 11, 16, 20, 25, 29, 33, 37, 39, 42]
def gMl : List Nat := [103, 97, 105, 110, 100, 97, 121, 115, 109, 101, 110, 112, 97, 114, 116, 115, 111, 119, 101, 100, 109, 111, 110, 116, 104, 112, 97, 114, 116, 102, 111, 111, 100, 108, 111, 97, 110, 111, 114, 97, 110, 100, 110, 111, 116]
theorem gM_l : ∀ m : Fin 12, gCm.getD m.1 0 < 12 ∧ gBg.getD m.1 0 + gLw (gCm.getD m.1 0) ≤ 45 ∧ ∀ k : Fin 5, k.1 < gLw (gCm.getD m.1 0) → gMl.getD (gBg.getD m.1 0 + k.1) 0 = gCw (gOw (gCm.getD m.1 0) + k.1) := by decide
/-- the model's tables of words -/
def gMw (S : xS) : Prop := (∀ m, m < 12 → S.1 67 0 m = nI (gLw (gCm.getD m 0)) ∧ S.1 66 0 m = nI (gBg.getD m 0)) ∧ ∀ j, j < 45 → S.1 65 0 j = nI (gMl.getD j 0)
theorem gMw.fr {l : List Nat} {S S2 : xS} (f : Fr (fl l) S S2) (hd : [65, 66, 67].all (fun q => !l.elem q) = true) (h : gMw S) : gMw S2 := by
  have e0 : ∀ i j, S2.1 65 i j = S.1 65 i j := fun i j => f.off hd rfl
  have e1 : ∀ i j, S2.1 66 i j = S.1 66 i j := fun i j => f.off hd rfl
  have e2 : ∀ i j, S2.1 67 i j = S.1 67 i j := fun i j => f.off hd rfl
  unfold gMw at h ⊢
  simp only [e0, e1, e2]
  exact h
def gTm (k : Nat) : Int32 := if k = 1 then -1 else if k = 2 then 200 else if k < 128 then nI k else if k < 134 then nI (k - 22) else nI (k - 34)
theorem gTm_w : ∀ m : Fin 12, gTm (128 + gCm.getD m.1 0) = nI (100 + m.1) := by decide
theorem gW_u : ∀ w v : Fin 12, ¬ w = v → gLw w.1 = gLw v.1 → ∃ t : Fin 5, t.1 < gLw w.1 ∧ ¬ gCw (gOw w.1 + t.1) = gCw (gOw v.1 + t.1) := by decide
theorem gPm_at {b : Nat → Int32} {s e w : Nat} : ∀ t, gPm b s e w t = true → ∀ q, q < t → s + q < e ∧ b (s + q) = nI (gCw (gOw w + q))
  | 0, _, q, h => absurd h (Nat.not_lt_zero _)
  | t + 1, h, q, hq => by
    have h : (gPm b s e w t && (decide (s + t < e) && decide (b (s + t) = nI (gCw (gOw w + t))))) = true := h
    simp only [Bool.and_eq_true, decide_eq_true_eq] at h
    by_cases c : q = t
    · subst c; exact h.2
    · exact gPm_at t h.1 q (by omega)
theorem gMt_u {b : Nat → Int32} {s e w v : Nat} (hw : w < 12) (hv : v < 12) (h1 : gMt b s e w = true) (h2 : gMt b s e v = true) : w = v := by
  unfold gMt at h1 h2
  simp only [Bool.and_eq_true, decide_eq_true_eq] at h1 h2
  by_cases c : w = v
  · exact c
  · exfalso
    obtain ⟨t, t1, t2⟩ := gW_u ⟨w, hw⟩ ⟨v, hv⟩ (fun q => c (congrArg Fin.val q)) (by show gLw w = gLw v; omega)
    have t1 : t.1 < gLw w := t1
    have a := (gPm_at _ h1.1 t.1 t1).2
    have a2 := (gPm_at _ h2.1 t.1 (by omega)).2
    rw [a] at a2
    have b1 : gCw (gOw w + t.1) < 128 := by
      have := gW_f ⟨w, hw⟩
      have o := gW_o ⟨w + 1, by omega⟩
      have this1 : gOw (w + 1) = gOw w + gLw w + 1 := this.1
      have o : gOw (w + 1) ≤ 57 := o
      exact gW_c ⟨gOw w + t.1, by omega⟩
    have b2 : gCw (gOw v + t.1) < 128 := by
      have := gW_f ⟨v, hv⟩
      have o := gW_o ⟨v + 1, by omega⟩
      have this1 : gOw (v + 1) = gOw v + gLw v + 1 := this.1
      have o : gOw (v + 1) ≤ 57 := o
      exact gW_c ⟨gOw v + t.1, by omega⟩
    have e12 : gCw (gOw w + t.1) = gCw (gOw v + t.1) := (nI_eq (by omega) (by omega)).mp a2
    exact t2 e12
theorem gWk_of {b : Nat → Int32} {s e w : Nat} (h : gMt b s e w = true) : ∀ m, m ≤ 12 → w < m → gWk b s e m = 128 + w
  | 0, _, hw => absurd hw (Nat.not_lt_zero _)
  | m + 1, hm, hw => by
    show (if gMt b s e m = true then 128 + m else gWk b s e m) = _
    by_cases c : gMt b s e m = true
    · rw [if_pos c, gMt_u (by omega) (by omega) h c]
    · rw [if_neg c]
      have : ¬ w = m := fun q => c (q ▸ h)
      exact gWk_of h m (by omega) (by omega)
theorem gWk_no {b : Nat → Int32} {s e : Nat} : ∀ m, (∀ w, w < m → ¬ gMt b s e w = true) → gWk b s e m = 1
  | 0, _ => rfl
  | m + 1, h => by
    show (if gMt b s e m = true then 128 + m else gWk b s e m) = _
    rw [if_neg (h m (by omega))]
    exact gWk_no m (fun w hw => h w (by omega))
