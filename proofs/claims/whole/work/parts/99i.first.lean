/-! the first text: its bytes, its tokens, what addAll and text make of them -/
def fstb : List Nat := [112, 97, 114, 116, 32, 112, 97, 114, 116, 115, 32, 59, 32, 102, 111, 111, 100, 32, 100, 97, 121, 115, 32, 42, 32, 109, 101, 110, 32, 59, 32, 108, 111, 97, 110, 32, 111, 119, 101, 100, 32, 59]
def fB (j : Nat) : Int32 := nI (fstb.getD j 0)
def fe1 : List Int32 := [-137]
def fe2 : List Int32 := [-135, -136, -42]
def fe3 : List Int32 := [-138]
theorem first_tok : gTok (gK fB 42) fe1 fe2 fe3 := by
  refine ⟨3, 8, 11, ⟨by decide +kernel, 10, by decide +kernel⟩, ⟨by decide +kernel, 10, by decide +kernel⟩, ⟨by decide +kernel, 10, by decide +kernel⟩, by decide +kernel⟩
theorem fB_b : ∀ j : Fin 42, fstb.getD j.1 0 < 128 ∧ (fB j.1).toInt8.toInt32 = fB j.1 ∧ -128 ≤ fB j.1 ∧ fB j.1 ≤ 127 := by decide +kernel
/-- the first String, as it lies in the store -/
def gFst (S : xS) : Prop := S.1 75 0 1 = 0 ∧ S.1 76 0 65536 = nI 42 ∧ ∀ j, j < 42 → S.1 76 0 j = fB j
theorem gFst.fr {l : List Nat} {S S2 : xS} (f : Fr (fl l) S S2) (hd : [76001, 75, 76].all (fun q => !l.elem q) = true) (h : gFst S) : gFst S2 := by
  have e0 : ∀ i, S2.1 75 i 1 = S.1 75 i 1 := fun i => f.off hd rfl
  have e1 : ∀ i j, S2.1 76 i j = S.1 76 i j := fun i j => f.off hd rfl
  unfold gFst at h ⊢
  simp only [e0, e1]
  exact h
theorem ct_addAll {D : Nat} {S : xS} {Q : xQ} (hF : gFst S) (h3 : S.1 23 0 1 = nI 0) (h : Q none (fdC S 0 fB 42)) : CT (D + 4) 0 0 m_Tokens_addAll [K0v, .inr (.inr (75, 0))] S Q := by
  have loop : ∀ m j, j + m = 42 → V (D + 4) 0 0 m_Tokens_addAll 2 [some K0v, some (.inr (.inr (75, 0))), some (.inl (nI j))] [] (fdC S 0 fB j) Q := by
    intro m
    induction m with
    | zero =>
      intro j hj
      obtain rfl : j = 42 := by omega
      have hF2 := hF.fr (fdC_fr S 0 fB 42) (by decide)
      refine V_go pk_52 [2] 40 ?_
      refine ct_strlen (n := 42) (by decide) hF2.1 hF2.2.1 ?_
      refine And.intro (fun _ => h) (fun q => absurd (Int32.le_refl _) q)
    | succ m ih =>
      intro j hj
      have hF2 := hF.fr (fdC_fr S 0 fB j) (by decide)
      obtain ⟨c1, c2, c3, c4⟩ := fB_b ⟨j, by omega⟩
      refine V_go pk_52 [2] 40 ?_
      refine ct_strlen (n := 42) (by decide) hF2.1 hF2.2.1 ?_
      refine And.intro (fun q => absurd ((nI_leI (a := 42) (b := j) (by omega) (by omega)).mp q) (by omega)) (fun _ => ?_)
      refine ct_charAt cix (n := 42) (k := fstb.getD j 0) (by decide) (by omega) c1 hF2.1 hF2.2.1 (hF2.2.2 j (by omega)) ?_
      refine ct_Tok_add (fdC_n h3 j) (by omega) ?_
      show V (D + 4) 0 0 m_Tokens_addAll 2 [some K0v, some (.inr (.inr (75, 0))), some (.inl (nI j + 1))] [] (xupd (xupd (fdC S 0 fB j) 24 0 (0 + j) (vp_nar .byte (fB j).toInt8.toInt32)) 23 0 1 (nI (0 + j + 1))) Q
      rw [nI_1, nar_b, show (fB j).toInt8.toInt32 = fB j from c2]
      exact ih (j + 1) (by omega)
  refine ct_of (xmok_all (by decide)) rfl (V_go (pc := 0) pk_52 [2] 20 ?_)
  exact loop 42 0 (by omega)
/-- the store after the class's first text -/
def fTxt (S S2 : xS) : Prop := (wLs fe1 ∧ wLs fe2 ∧ wLs fe3) ∧ (S2.1 18 0 0 = -137 ∧ S2.1 18 0 1 = -135 ∧ S2.1 18 0 2 = -136 ∧ S2.1 18 0 3 = -42 ∧ S2.1 18 0 4 = -138 ∧ S2.1 18 0 65536 = 5) ∧ (S2.1 19 0 0 = 1 ∧ S2.1 19 0 1 = 4 ∧ S2.1 19 0 2 = 5) ∧ S2.1 23 0 1 = 0 ∧ S2.1 0 0 11 = 1 ∧ (∀ k i j, fl (1011 :: 24001 :: 27 :: fRd) k j = false → ¬ ((k = 18 ∨ k = 19) ∧ i = 0) → S2.1 k i j = S.1 k i j) ∧ S2.2 = S.2
theorem ct_first {D : Nat} {S : xS} {Q : xQ} (h0 : S.1 0 0 11 = nI 0) (hS : gStr S) (hB : gBy fB 42 S) (h : ∀ S2, fTxt S S2 → Q (some (.inl 0)) S2) : CT (D + 60) 1 160 m_C_text [C0] S Q := by
  refine ct_C_text cix kpx (D := D) (n := 42) (nt := 0) (b := fB) (by decide) h0 hS hB (fun j hj => (fB_b ⟨j, hj⟩).2.2) (fun q => absurd q (by decide)) (fun _ e1 e2 e3 S' t1 w1 w2 w3 c3 c5 s1 s11 sF s2 => ?_) (fun _ j S' t1 s1 sF => (first_tok.x t1).elim)
  obtain ⟨rfl, rfl, rfl⟩ := t1.u first_tok
  obtain ⟨⟨a1, a2, a3⟩, a4, a5, a6, a7⟩ := c3
  exact h S' ⟨⟨w1, w2, w3⟩, ⟨a5 0 (by decide), a6 0 (by decide), a6 1 (by decide), a6 2 (by decide), a7 0 (by decide), c5⟩, ⟨a1, a2, a3⟩, s1, s11, sF, s2⟩
