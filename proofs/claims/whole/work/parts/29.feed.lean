/-! feed -/
def bv (w : Int64) (i : Nat) : Int32 := (w >>> ((8 * nI i).toInt64 &&& 63)).toInt32.toInt8.toInt32
theorem nar_b (x : Int32) : vp_nar .byte x.toInt8.toInt32 = x.toInt8.toInt32 := by
  rw [vp_nar_byte, Int8.toInt8_toInt32]
theorem bv_b (w : Int64) (i : Nat) : -128 ≤ bv w i ∧ bv w i ≤ 127 := by
  unfold bv
  generalize (w >>> ((8 * nI i).toInt64 &&& 63)).toInt32.toInt8 = y
  have h1 := y.le_toInt
  have h2 := y.toInt_lt
  refine ⟨Int32.le_iff_toInt_le.mpr ?_, Int32.le_iff_toInt_le.mpr ?_⟩
  · rw [Int8.toInt_toInt32, show (-128 : Int32).toInt = -128 from rfl]; omega
  · rw [Int8.toInt_toInt32, show (127 : Int32).toInt = 127 from rfl]; omega
theorem ct_Tok_add {d c : Nat} {x : Int32} {S : xS} {Q : xQ} (hc : S.1 23 0 1 = nI c) (h160 : c < 160) (h : Q none (xupd (xupd S 24 0 c (vp_nar .byte x)) 23 0 1 (nI (c + 1)))) : CT d 0 0 m_Tokens_add [.inr (.inr (23, 0)), .inl x] S Q := by
  refine ct_of (xmok_all (by decide)) rfl (V_go (pc := 0) pk_53 [] 40 ?_)
  refine And.intro (fun q => ?_) (fun _ => ?_)
  · have q : nI 160 ≤ S.1 23 0 1 := q
    rw [hc] at q
    exact absurd ((nI_leI (by decide) (by omega)).mp q) (by omega)
  · refine And.intro (by rw [hc]; exact vi (N := 160) h160) ?_
    refine qq h rfl ?_
    show xupd (xupd S 24 0 (S.1 23 0 1).toNatClampNeg (vp_nar .byte x)) 23 0 1 (S.1 23 0 1 + 1) = _
    rw [hc, nI_1, nI_clamp (show c < 2 ^ 31 by omega)]
/-- m bytes behind the tape: of the class, of the model -/
def fdC (S : xS) (c : Nat) (f : Nat → Int32) : Nat → xS
  | 0 => S
  | m + 1 => xupd (xupd (fdC S c f m) 24 0 (c + m) (f m)) 23 0 1 (nI (c + m + 1))
def fdM (S : xS) (c : Nat) (f : Nat → Int32) : Nat → xS
  | 0 => S
  | m + 1 => xupd (xupd (fdM S c f m) 61 0 (c + m) (f m)) 36 0 32 (nI (c + m + 1))
theorem fdC_n {S : xS} {c : Nat} {f : Nat → Int32} (h : S.1 23 0 1 = nI c) (m : Nat) : (fdC S c f m).1 23 0 1 = nI (c + m) := by
  cases m with
  | zero => exact h
  | succ m => rfl
theorem fdM_n {S : xS} {c : Nat} {f : Nat → Int32} (h : S.1 36 0 32 = nI c) (m : Nat) : (fdM S c f m).1 36 0 32 = nI (c + m) := by
  cases m with
  | zero => exact h
  | succ m => rfl
theorem fdC_fr (S : xS) (c : Nat) (f : Nat → Int32) : ∀ m, Fr (fl [24, 24001]) S (fdC S c f m)
  | 0 => Fr.rf
  | m + 1 => ((fdC_fr S c f m).up rfl).up rfl
theorem fdM_fr (S : xS) (c : Nat) (f : Nat → Int32) : ∀ m, Fr (fl [61, 37032]) S (fdM S c f m)
  | 0 => Fr.rf
  | m + 1 => ((fdM_fr S c f m).up rfl).up rfl
theorem fdC_at (S : xS) (c : Nat) (f : Nat → Int32) : ∀ m j, (fdC S c f m).1 24 0 j = if c ≤ j ∧ j < c + m then f (j - c) else S.1 24 0 j
  | 0, j => by rw [if_neg (by omega)]; rfl
  | m + 1, j => by
    show (if 24 = 24 ∧ j = c + m ∧ 0 = 0 then f m else (fdC S c f m).1 24 0 j) = _
    rw [fdC_at S c f m j]
    by_cases h : j = c + m
    · subst h
      rw [if_pos ⟨rfl, rfl, rfl⟩, if_pos (by omega), Nat.add_sub_cancel_left]
    · rw [if_neg (fun q => h q.2.1)]
      by_cases h2 : c ≤ j ∧ j < c + m
      · rw [if_pos h2, if_pos (by omega)]
      · rw [if_neg h2, if_neg (by omega)]
theorem fdM_at (S : xS) (c : Nat) (f : Nat → Int32) : ∀ m j, (fdM S c f m).1 61 0 j = if c ≤ j ∧ j < c + m then f (j - c) else S.1 61 0 j
  | 0, j => by rw [if_neg (by omega)]; rfl
  | m + 1, j => by
    show (if 61 = 61 ∧ j = c + m ∧ 0 = 0 then f m else (fdM S c f m).1 61 0 j) = _
    rw [fdM_at S c f m j]
    by_cases h : j = c + m
    · subst h
      rw [if_pos ⟨rfl, rfl, rfl⟩, if_pos (by omega), Nat.add_sub_cancel_left]
    · rw [if_neg (fun q => h q.2.1)]
      by_cases h2 : c ≤ j ∧ j < c + m
      · rw [if_pos h2, if_pos (by omega)]
      · rw [if_neg h2, if_neg (by omega)]
theorem ct_C_feed {d c : Nat} {k : Int32} {w : Int64} {S : xS} {Q : xQ} (hc : S.1 23 0 1 = nI c) (h160 : c ≤ 160) (hb : ¬ inR 1 8 k → Q (some (.inl (-2))) S) (hf : inR 1 8 k → 160 < c + k.toNatClampNeg → Q (some (.inl (-4))) S)
    (hk : inR 1 8 k → c + k.toNatClampNeg ≤ 160 → Q (some (.inl (nI (c + k.toNatClampNeg)))) (fdC S c (bv w) k.toNatClampNeg)) : CT (d + 3) 0 0 m_C_feed [C0, .inl k, .inr (.inl w)] S Q := by
  refine ct_of (xmok_all (by decide)) rfl (V_go (pc := 0) pk_104 [34] 40 ?_)
  refine cC_w 1 8 rfl rfl (by decide) (by decide) (fun h1 => ?_) (fun q => ?_)
  · (repeat' first | (refine And.intro (fun q => absurd q (by decide)) (fun _ => ?_)) | (refine And.intro (fun _ => ?_) (fun q => absurd q (by decide))) | fail)
    have hf := hf h1
    have hk := hk h1
    obtain ⟨K, k1, k2, rfl⟩ := h1
    rw [nI_clamp (show K < 2 ^ 31 by omega)] at hf hk
    have loop : c + K ≤ 160 → ∀ m j, j + m = K → V (d + 3) 0 0 m_C_feed 34 [some C0, some (.inl (nI K)), some (.inr (.inl w)), none, some (.inl (nI j))] [] (fdC S c (bv w) j) Q := by
      intro h160 m
      induction m with
      | zero =>
        intro j hj
        obtain rfl : j = K := by omega
        refine V_go pk_104 [34] 40 ?_
        refine And.intro (fun _ => ?_) (fun q => absurd (Int32.le_refl _) q)
        exact qi (hk h160) (fdC_n hc j) rfl
      | succ m ih =>
        intro j hj
        refine V_go pk_104 [34] 40 ?_
        refine And.intro (fun q => absurd ((nI_leI (by omega) (by omega)).mp q) (by omega)) (fun _ => ?_)
        refine ct_Tok_add (fdC_n hc j) (by omega) ?_
        show V (d + 3) 0 0 m_C_feed 34 [some C0, some (.inl (nI K)), some (.inr (.inl w)), none, some (.inl (nI j + 1))] [] (xupd (xupd (fdC S c (bv w) j) 24 0 (c + j) (vp_nar .byte (bv w j))) 23 0 1 (nI (c + j + 1))) Q
        rw [nI_1, show vp_nar .byte (bv w j) = bv w j from nar_b _]
        exact ih (j + 1) (by omega)
    refine And.intro (fun q => ?_) (fun q => ?_)
    · have q : S.1 23 0 1 + nI K ≤ nI 160 := q
      rw [hc, nI_add] at q
      exact loop ((nI_leI (by omega) (by decide)).mp q) K 0 (by omega)
    · have q : ¬ S.1 23 0 1 + nI K ≤ nI 160 := q
      rw [hc, nI_add] at q
      refine hf ?_
      rcases Nat.lt_or_ge 160 (c + K) with g | g
      · exact g
      · exact absurd (nI_le g (by decide)) q
  · (repeat' first | (refine And.intro (fun q => absurd q (by decide)) (fun _ => ?_)) | (refine And.intro (fun _ => ?_) (fun q => absurd q (by decide))) | fail)
    exact hb q
theorem ct_M_feed {d c : Nat} {k : Int32} {w : Int64} {S : xS} {Q : xQ} (hc : S.1 36 0 32 = nI c) (h160 : c ≤ 160) (hb : ¬ inR 1 8 k → Q (some (.inl (-2))) S) (hf : inR 1 8 k → 160 < c + k.toNatClampNeg → Q (some (.inl (-4))) S)
    (hk : inR 1 8 k → c + k.toNatClampNeg ≤ 160 → Q (some (.inl (nI (c + k.toNatClampNeg)))) (fdM S c (bv w) k.toNatClampNeg)) : CT (d + 3) 0 0 m_M_feed [M0, .inl k, .inr (.inl w)] S Q := by
  refine ct_of (xmok_all (by decide)) rfl (V_go (pc := 0) pk_159 [33] 40 ?_)
  refine cM_w 1 8 rfl rfl (by decide) (by decide) (fun h1 => ?_) (fun q => ?_)
  · (repeat' first | (refine And.intro (fun q => absurd q (by decide)) (fun _ => ?_)) | (refine And.intro (fun _ => ?_) (fun q => absurd q (by decide))) | fail)
    have hf := hf h1
    have hk := hk h1
    obtain ⟨K, k1, k2, rfl⟩ := h1
    rw [nI_clamp (show K < 2 ^ 31 by omega)] at hf hk
    have loop : c + K ≤ 160 → ∀ m j, j + m = K → V (d + 3) 0 0 m_M_feed 33 [some M0, some (.inl (nI K)), some (.inr (.inl w)), none, some (.inl (nI j))] [] (fdM S c (bv w) j) Q := by
      intro h160 m
      induction m with
      | zero =>
        intro j hj
        obtain rfl : j = K := by omega
        refine V_go pk_159 [33] 40 ?_
        refine And.intro (fun _ => ?_) (fun q => absurd (Int32.le_refl _) q)
        exact qi (hk h160) (fdM_n hc j) rfl
      | succ m ih =>
        intro j hj
        have e := fdM_n (f := bv w) hc j
        refine V_go pk_159 [33] 40 ?_
        refine And.intro (fun q => absurd ((nI_leI (by omega) (by omega)).mp q) (by omega)) (fun _ => ?_)
        refine And.intro (by rw [e]; exact vi (N := 160) (by omega)) ?_
        show V (d + 3) 0 0 m_M_feed 33 [some M0, some (.inl (nI K)), some (.inr (.inl w)), none, some (.inl (nI j + 1))] [] (xupd (xupd (fdM S c (bv w) j) 61 0 ((fdM S c (bv w) j).1 36 0 32).toNatClampNeg (vp_nar .byte (bv w j))) 36 0 32 ((fdM S c (bv w) j).1 36 0 32 + 1)) Q
        rw [e, nI_1, nI_1, show vp_nar .byte (bv w j) = bv w j from nar_b _, nI_clamp (show c + j < 2 ^ 31 by omega)]
        exact ih (j + 1) (by omega)
    refine And.intro (fun q => ?_) (fun q => ?_)
    · have q : S.1 36 0 32 + nI K ≤ nI 160 := q
      rw [hc, nI_add] at q
      exact loop ((nI_leI (by omega) (by decide)).mp q) K 0 (by omega)
    · have q : ¬ S.1 36 0 32 + nI K ≤ nI 160 := q
      rw [hc, nI_add] at q
      refine hf ?_
      rcases Nat.lt_or_ge 160 (c + K) with g | g
      · exact g
      · exact absurd (nI_le g (by decide)) q
  · (repeat' first | (refine And.intro (fun q => absurd q (by decide)) (fun _ => ?_)) | (refine And.intro (fun _ => ?_) (fun q => absurd q (by decide))) | fail)
    exact hb q
theorem Fr.wk {l l' : List Nat} {S S2 : xS} (h : Fr (fl l) S S2) (hl : l.all (fun q => l'.elem q) = true) : Fr (fl l') S S2 := by
  refine ⟨fun k i j hf => h.1 k i j ?_, h.2⟩
  cases hc : fl l k j with
  | false => rfl
  | true =>
    have hm : fk k j ∈ l := List.elem_iff.mp hc
    have := List.all_eq_true.mp hl _ hm
    rw [show fl l' k j = true from this] at hf
    cases hf
theorem cm_feed {dp nb : Nat} {S : xS} (hF : IF nb S) {k : Int32} {w : Int64} : CT (dp + 3) 0 0 m_C_feed [C0, .inl k, .inr (.inl w)] S (fun a S1 => CT (dp + 3) 0 0 m_M_feed [M0, .inl k, .inr (.inl w)] S1 (fun a' S2 => a' = a ∧ (∃ nb', IF nb' S2) ∧ Fr (fl [24, 24001, 61, 37032]) S S2)) := by
  obtain ⟨a1, a2, a3, a4⟩ := id hF
  refine ct_C_feed a2 a1 (fun q => ?_) (fun q q2 => ?_) (fun q q2 => ?_)
  · exact ct_M_feed a3 a1 (fun _ => ⟨rfl, ⟨nb, hF⟩, Fr.rf⟩) (fun g => absurd g q) (fun g => absurd g q)
  · exact ct_M_feed a3 a1 (fun g => absurd q g) (fun _ _ => ⟨rfl, ⟨nb, hF⟩, Fr.rf⟩) (fun _ g => absurd g (by omega))
  · have f1 := fdC_fr S nb (bv w) k.toNatClampNeg
    have e36 : (fdC S nb (bv w) k.toNatClampNeg).1 36 0 32 = nI nb := (f1.1 36 0 32 rfl).trans a3
    refine ct_M_feed e36 a1 (fun g => absurd q g) (fun _ g => absurd g (by omega)) (fun _ g => ⟨rfl, ⟨nb + k.toNatClampNeg, ?_⟩, ?_⟩)
    · generalize k.toNatClampNeg = K at q2 f1 e36
      have f2 := fdM_fr (fdC S nb (bv w) K) nb (bv w) K
      refine ⟨q2, (f2.1 23 0 1 rfl).trans (fdC_n a2 K), fdM_n e36 K, fun i hi => ?_⟩
      rw [fdM_at, f2.1 24 0 i rfl, fdC_at, f1.1 61 0 i rfl]
      by_cases h : nb ≤ i ∧ i < nb + K
      · rw [if_pos h, if_pos h]
        exact ⟨rfl, bv_b w _⟩
      · rw [if_neg h, if_neg h]
        exact a4 i (by omega)
    · exact (f1.wk (by decide)).tr ((fdM_fr _ nb (bv w) k.toNatClampNeg).wk (by decide))
