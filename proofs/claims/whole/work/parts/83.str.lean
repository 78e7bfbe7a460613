/-! text: the two Strings -/
def wchs : List Nat := [112, 97, 114, 116, 32, 102, 111, 111, 100, 32, 108, 111, 97, 110, 32, 111, 114, 32, 97, 110, 100, 32, 110, 111, 116, 32, 103, 97, 105, 110, 32, 100, 97, 121, 115, 32, 109, 101, 110, 32, 112, 97, 114, 116, 115, 32, 111, 119, 101, 100, 32, 109, 111, 110, 116, 104, 32]
def sgs : List Nat := [40, 41, 59, 43, 45, 42, 60, 61]
def gStr (S : xS) : Prop := (S.1 75 1 1 = 0 ∧ S.1 75 2 1 = 0) ∧ (S.1 76 1 65536 = nI 57 ∧ S.1 76 2 65536 = nI 8) ∧ (∀ j, j < 57 → S.1 76 1 j = nI (wchs.getD j 0)) ∧ ∀ j, j < 8 → S.1 76 2 j = nI (sgs.getD j 0)
theorem gStr.fr {l : List Nat} {S S2 : xS} (f : Fr (fl l) S S2) (hd : [76001, 75, 76].all (fun q => !l.elem q) = true) (h : gStr S) : gStr S2 := by
  have e0 : ∀ i, S2.1 75 i 1 = S.1 75 i 1 := fun i => f.off hd rfl
  have e1 : ∀ i j, S2.1 76 i j = S.1 76 i j := fun i j => f.off hd rfl
  unfold gStr at h ⊢
  simp only [e0, e1]
  exact h
/-- to be shown by the kit's rows -/
def CIX : Prop := ∀ (D i n : Nat) (S : xS) (Q : xQ), 1 ≤ D → i < n → n < 2 ^ 31 → Q none S → CT D 0 0 m_String_checkIndex [.inl (nI i), .inl (nI n)] S Q
theorem ct_coder {D b : Nat} {S : xS} {Q : xQ} (h : Q (some (.inl 0)) S) (h0 : S.1 75 b 1 = 0) : CT D 0 0 m_String_coder [.inr (.inr (75, b))] S Q := by
  refine ct_of (xmok_all (by decide)) rfl (V_go (pc := 0) pk_188 [] 20 ?_)
  (repeat' first | (refine And.intro (fun q => absurd q (by decide)) (fun _ => ?_)) | (refine And.intro (fun _ => ?_) (fun q => absurd q (by decide))) | fail)
  have e : Jvm.narrow .byte (.int (S.1 75 b 1)) = .int (S.1 75 b 1) := by rw [h0]; rfl
  exact And.intro e (qi h h0 rfl)
theorem ct_strlen {D b n : Nat} {S : xS} {Q : xQ} (hn : n < 2 ^ 31) (h1 : S.1 75 b 1 = 0) (h2 : S.1 76 b 65536 = nI n) (h : Q (some (.inl (nI n))) S) : CT (D + 1) 0 0 m_String_length [.inr (.inr (75, b))] S Q := by
  refine ct_of (xmok_all (by decide)) rfl (V_go (pc := 0) pk_187 [] 20 ?_)
  refine ct_coder ?_ h1
  refine qi h ?_ rfl
  show (Int32.ofNat (S.1 76 b 65536).toNatClampNeg) >>> (0 : Int32) = _
  rw [h2, nI_clamp hn]
  exact Int32.shiftRight_zero
theorem ct_isLatin1 {D b : Nat} {S : xS} {Q : xQ} (h : Q (some (.inl 1)) S) (h0 : S.1 75 b 1 = 0) : CT D 0 0 m_String_isLatin1 [.inr (.inr (75, b))] S Q := by
  refine ct_of (xmok_all (by decide)) rfl (V_go (pc := 0) pk_190 [] 20 ?_)
  (repeat' first | (refine And.intro (fun q => absurd q (by decide)) (fun _ => ?_)) | (refine And.intro (fun _ => ?_) (fun q => absurd q (by decide))) | fail)
  refine And.intro (fun q => absurd h0 q) (fun _ => ?_)
  exact And.intro (Or.inr rfl) h
theorem ch_id : ∀ k : Fin 128, ((nI k.1 &&& 255).toUInt32 % 65536).toInt32 = nI k.1 ∧ Jvm.narrow .char (.int (nI k.1)) = .int (nI k.1) ∧ (nI k.1).toInt8.toInt32 = nI k.1 ∧ ((nI k.1).toUInt32 % 65536).toInt32 = nI k.1 := by decide +kernel
theorem ct_charAt (hX : CIX) {D b i n k : Nat} {S : xS} {Q : xQ} (hn : n < 2 ^ 31) (hi : i < n) (hk : k < 128) (h1 : S.1 75 b 1 = 0) (h2 : S.1 76 b 65536 = nI n) (h3 : S.1 76 b i = nI k) (h : Q (some (.inl (nI k))) S) : CT (D + 3) 0 0 m_String_charAt [.inr (.inr (75, b)), .inl (nI i)] S Q := by
  have ei : (nI i).toNatClampNeg = i := nI_clamp (by omega)
  obtain ⟨c1, c2, c3, c4⟩ := ch_id ⟨k, hk⟩
  refine ct_of (xmok_all (by decide)) rfl (V_go (pc := 0) pk_189 [] 20 ?_)
  refine ct_isLatin1 ?_ h1
  (repeat' first | (refine And.intro (fun q => absurd q (by decide)) (fun _ => ?_)) | (refine And.intro (fun _ => ?_) (fun q => absurd q (by decide))) | fail)
  refine ct_of (xmok_all (by decide)) rfl ?_
  refine V_go (pc := 0) pk_191 [] 30 ?_
  show CT (D + 1) 0 0 m_String_checkIndex [.inl (nI i), .inl (Int32.ofNat (S.1 76 b 65536).toNatClampNeg)] S _
  rw [h2, nI_clamp hn]
  refine hX (D + 1) i n S _ (by omega) hi hn ?_
  refine And.intro ?_ ?_
  · show vp_in (nI i) (S.1 76 b 65536).toNatClampNeg
    rw [h2, nI_clamp hn]; exact vi hi hn
  · have e : ((S.1 76 b (nI i).toNatClampNeg &&& 255).toUInt32 % 65536).toInt32 = nI k := by rw [ei, h3]; exact c1
    refine And.intro ?_ ?_
    · rw [e]; exact c2
    · have e2 : Jvm.narrow .char (.int ((S.1 76 b (nI i).toNatClampNeg &&& 255).toUInt32 % 65536).toInt32) = .int ((S.1 76 b (nI i).toNatClampNeg &&& 255).toUInt32 % 65536).toInt32 := by rw [e]; exact c2
      exact And.intro e2 (qi h e rfl)
theorem ct_canEncode {D k : Nat} {S : xS} {Q : xQ} (hk : k < 128) (h : Q (some (.inl 1)) S) : CT D 0 0 m_StringLatin1_canEncode [.inl (nI k)] S Q := by
  refine ct_of (xmok_all (by decide)) rfl (V_go (pc := 0) pk_197 [] 20 ?_)
  refine And.intro (fun q => absurd q (nI_pos (by omega))) (fun _ => ?_)
  refine And.intro (fun q => ?_) (fun _ => ?_)
  · exact absurd ((nI_ltI (a := 255) (by omega) (by omega)).mp q) (by omega)
  · exact And.intro (Or.inr rfl) h
def isSg (k : Nat) : Prop := k ∈ sgs
theorem ct_indexOfChar {D k : Nat} {S : xS} {Q : xQ} (hk : k < 128) (g2 : S.1 76 2 65536 = nI 8) (g4 : ∀ j, j < 8 → S.1 76 2 j = nI (sgs.getD j 0)) (h1 : isSg k → ∀ r, 0 ≤ r → Q (some (.inl r)) S) (h0 : ¬ isSg k → Q (some (.inl (-1))) S) : CT D 0 0 m_StringLatin1_indexOfChar [.inr (.inr (76, 2)), .inl (nI k), .inl (nI 0), .inl (nI 8)] S Q := by
  obtain ⟨c1, c2, c3, c4⟩ := ch_id ⟨k, hk⟩
  have c3 : (nI k).toInt8.toInt32 = nI k := c3
  have loop : ∀ m j, j + m = 8 → (∀ q, q < j → ¬ sgs.getD q 0 = k) → V D 0 0 m_StringLatin1_indexOfChar 7 [some (.inr (.inr (76, 2))), some (.inl (nI k)), some (.inl (nI 0)), some (.inl (nI 8)), some (.inl (nI k)), some (.inl (nI j))] [] S Q := by
    intro m
    induction m with
    | zero =>
      intro j hj hn
      obtain rfl : j = 8 := by omega
      refine V_go pk_198 [7] 40 ?_
      refine And.intro (fun _ => h0 (fun hm => ?_)) (fun q => absurd (Int32.le_refl (nI 8)) q)
      obtain ⟨q, hq, e⟩ := List.mem_iff_getElem.mp hm
      have hq8 : q < 8 := hq
      refine hn q hq8 ?_
      rw [List.getD_eq_getElem?_getD, List.getElem?_eq_getElem hq]
      exact e
    | succ m ih =>
      intro j hj hn
      have ej : (nI j).toNatClampNeg = j := nI_clamp (by omega)
      have hs : sgs.getD j 0 < 128 := by
        have : ∀ q : Fin 8, sgs.getD q.1 0 < 128 := by decide
        exact this ⟨j, by omega⟩
      have ih := ih (j + 1) (by omega)
      rw [show nI (j + 1) = nI j + 1 from (nI_1 j).symm] at ih
      refine V_go pk_198 [7] 40 ?_
      refine And.intro (fun q => ?_) (fun _ => ?_)
      · exact absurd ((nI_leI (a := 8) (by omega) (by omega)).mp q) (by omega)
      refine And.intro ?_ ?_
      · show vp_in (nI j) (S.1 76 2 65536).toNatClampNeg
        rw [g2]; exact vi (N := 8) (by omega)
      rw [ej, g4 j (by omega)]
      refine And.intro (fun q => ?_) (fun q => ?_)
      · refine ih (fun q2 hq2 e => ?_)
        by_cases z : q2 = j
        · subst z; exact q (by rw [e])
        · exact hn q2 (by omega) e
      · have e := (nI_eq (by omega) (by omega)).mp q
        refine h1 ?_ _ (nI_pos' (by omega))
        rw [← e]
        have : ∀ q : Fin 8, sgs.getD q.1 0 ∈ sgs := by decide
        exact this ⟨j, by omega⟩
  refine ct_of (xmok_all (by decide)) rfl (V_go (pc := 0) pk_198 [7] 20 ?_)
  show V D 0 0 m_StringLatin1_indexOfChar 7 [some (.inr (.inr (76, 2))), some (.inl (nI k)), some (.inl (nI 0)), some (.inl (nI 8)), some (.inl (nI k).toInt8.toInt32), some (.inl (nI 0))] [] S Q
  rw [c3]
  exact loop 8 0 (by omega) (fun q h => absurd h (Nat.not_lt_zero _))
theorem ct_indexOf {D k : Nat} {S : xS} {Q : xQ} (hS : gStr S) (hk : k < 128) (h1 : isSg k → ∀ r, 0 ≤ r → Q (some (.inl r)) S) (h0 : ¬ isSg k → Q (some (.inl (-1))) S) : CT (D + 4) 0 0 m_String_indexOf [.inr (.inr (75, 2)), .inl (nI k)] S Q := by
  obtain ⟨⟨_, g1⟩, ⟨_, g2⟩, _, g4⟩ := hS
  obtain ⟨c1, c2, c3, c4⟩ := ch_id ⟨k, hk⟩
  refine ct_of (xmok_all (by decide)) rfl (V_go (pc := 0) pk_194 [] 20 ?_)
  refine ct_of (xmok_all (by decide)) rfl ?_
  refine V_go (pc := 0) pk_195 [] 30 ?_
  refine ct_isLatin1 ?_ g1
  (repeat' first | (refine And.intro (fun q => absurd q (by decide)) (fun _ => ?_)) | (refine And.intro (fun _ => ?_) (fun q => absurd q (by decide))) | fail)
  refine ct_strlen (n := 8) (by decide) g1 g2 ?_
  refine ct_of (xmok_all (by decide)) rfl ?_
  refine V_go (pc := 0) pk_196 [] 40 ?_
  refine ct_canEncode hk ?_
  (repeat' first | (refine And.intro (fun q => absurd q (by decide)) (fun _ => ?_)) | (refine And.intro (fun _ => ?_) (fun q => absurd q (by decide))) | fail)
  have el : (if Int32.ofNat (S.1 76 2 65536).toNatClampNeg < nI 8 then Int32.ofNat (S.1 76 2 65536).toNatClampNeg else nI 8) = nI 8 := by
    rw [g2, nI_clamp (by decide)]; rfl
  refine And.intro (fun _ => ?_) (fun q => absurd ?_ q)
  · show CT (D + 1) 0 0 m_StringLatin1_indexOfChar [.inr (.inr (76, 2)), .inl (nI k), .inl (nI 0), .inl (if Int32.ofNat (S.1 76 2 65536).toNatClampNeg < nI 8 then Int32.ofNat (S.1 76 2 65536).toNatClampNeg else nI 8)] S _
    rw [el]
    exact ct_indexOfChar hk g2 g4 h1 h0
  · show (0 : Int32) < (if Int32.ofNat (S.1 76 2 65536).toNatClampNeg < nI 8 then Int32.ofNat (S.1 76 2 65536).toNatClampNeg else nI 8)
    rw [el]; decide
