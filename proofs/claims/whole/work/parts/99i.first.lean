/-! the first text: its bytes, its tokens, what addAll and text make of them -/
def fstb : List Nat := [112, 97, 114, 116, 32, 112, 97, 114, 116, 115, 32, 59, 32, 102, 111, 111, 100, 32, 100, 97, 121, 115, 32, 42, 32, 109, 101, 110, 32, 59, 32, 108, 111, 97, 110, 32, 111, 119, 101, 100, 32, 59]
def fB (j : Nat) : Int32 := nI (fstb.getD j 0)
def fe1 : List Int32 := [-137]
def fe2 : List Int32 := [-135, -136, -42]
def fe3 : List Int32 := [-138]
theorem first_tok : gTok (gK fB 42) fe1 fe2 fe3 := by
  refine ⟨3, 8, 11, ⟨by decide +kernel, 10, by decide +kernel⟩, ⟨by decide +kernel, 10, by decide +kernel⟩, ⟨by decide +kernel, 10, by decide +kernel⟩, by decide +kernel⟩
theorem fB_b : ∀ j : Fin 42, fstb.getD j.1 0 < 128 ∧ (fB j.1).toInt8.toInt32 = fB j.1 ∧ -128 ≤ fB j.1 ∧ fB j.1 ≤ 127 := by decide +kernel
/-- the first String, as it lies in the store -/
def gFst (S : xS) : Prop := S.1 75 0 1 = 0 ∧ S.1 76 0 65536 = nI 42 ∧ ∀ j, j < 42 → S.1 76 0 j = fB j
theorem gFst.fr {l : List Nat} {S S2 : xS} (f : Fr (fl l) S S2) (hd : [76001, 75, 76].all (fun q => !l.elem q) = true) (h : gFst S) : gFst S2 := by
  have e0 : ∀ i, S2.1 75 i 1 = S.1 75 i 1 := fun i => f.off hd rfl
  have e1 : ∀ i j, S2.1 76 i j = S.1 76 i j := fun i j => f.off hd rfl
  unfold gFst at h ⊢
  simp only [e0, e1]
  exact h
theorem ct_addAll {D : Nat} {S : xS} {Q : xQ} (hF : gFst S) (h3 : S.1 23 0 1 = nI 0) (h : Q none (fdC S 0 fB 42)) : CT (D + 4) 0 0 m_Tokens_addAll [K0v, .inr (.inr (75, 0))] S Q := by
  have loop : ∀ m j, j + m = 42 → V (D + 4) 0 0 m_Tokens_addAll 2 [some K0v, some (.inr (.inr (75, 0))), some (.inl (nI j))] [] (fdC S 0 fB j) Q := by
    intro m
    induction m with
    | zero =>
      intro j hj
      obtain rfl : j = 42 := by omega
      have hF2 := hF.fr (fdC_fr S 0 fB 42) (by decide)
      refine V_go pk_52 [2] 40 ?_
      refine ct_strlen (n := 42) (by decide) hF2.1 hF2.2.1 ?_
      refine And.intro (fun _ => h) (fun q => absurd (Int32.le_refl _) q)
    | succ m ih =>
      intro j hj
      have hF2 := hF.fr (fdC_fr S 0 fB j) (by decide)
      obtain ⟨c1, c2, c3, c4⟩ := fB_b ⟨j, by omega⟩
      refine V_go pk_52 [2] 40 ?_
      refine ct_strlen (n := 42) (by decide) hF2.1 hF2.2.1 ?_
      refine And.intro (fun q => absurd ((nI_leI (a := 42) (b := j) (by omega) (by omega)).mp q) (by omega)) (fun _ => ?_)
      refine ct_charAt cix (n := 42) (k := fstb.getD j 0) (by decide) (by omega) c1 hF2.1 hF2.2.1 (hF2.2.2 j (by omega)) ?_
      refine ct_Tok_add (fdC_n h3 j) (by omega) ?_
      show V (D + 4) 0 0 m_Tokens_addAll 2 [some K0v, some (.inr (.inr (75, 0))), some (.inl (nI j + 1))] [] (xupd (xupd (fdC S 0 fB j) 24 0 (0 + j) (vp_nar .byte (fB j).toInt8.toInt32)) 23 0 1 (nI (0 + j + 1))) Q
      rw [nI_1, nar_b, show (fB j).toInt8.toInt32 = fB j from c2]
      exact ih (j + 1) (by omega)
  refine ct_of (xmok_all (by decide)) rfl (V_go (pc := 0) pk_52 [2] 20 ?_)
  exact loop 42 0 (by omega)
/-- the store after the class's first text -/
def fTxt (S S2 : xS) : Prop := (wLs fe1 ∧ wLs fe2 ∧ wLs fe3) ∧ (S2.1 18 0 0 = -137 ∧ S2.1 18 0 1 = -135 ∧ S2.1 18 0 2 = -136 ∧ S2.1 18 0 3 = -42 ∧ S2.1 18 0 4 = -138 ∧ S2.1 18 0 65536 = 5) ∧ (S2.1 19 0 0 = 1 ∧ S2.1 19 0 1 = 4 ∧ S2.1 19 0 2 = 5) ∧ S2.1 23 0 1 = 0 ∧ S2.1 0 0 11 = 1 ∧ (∀ k i j, fl (1011 :: 24001 :: 27 :: fRd) k j = false → ¬ ((k = 18 ∨ k = 19) ∧ i = 0) → S2.1 k i j = S.1 k i j) ∧ S2.2 = S.2
/-- keeping a text, as a store: what lies there after it -/
theorem kp_facts {S : xS} {nt u : Nat} : (∀ j, j < u → u ≤ 154 → (xcpy (kS S nt u) 27 0 0 19 nt 0 3).1 18 nt j = S.1 26 0 j) ∧ (xcpy (kS S nt u) 27 0 0 19 nt 0 3).1 18 nt 65536 = nI u ∧ (∀ j, j < 3 → (xcpy (kS S nt u) 27 0 0 19 nt 0 3).1 19 nt j = S.1 27 0 j) ∧ (∀ k i j, ¬ (k = 18 ∧ i = nt) → ¬ (k = 19 ∧ i = nt) → (xcpy (kS S nt u) 27 0 0 19 nt 0 3).1 k i j = S.1 k i j) ∧ (xcpy (kS S nt u) 27 0 0 19 nt 0 3).2 = S.2 :=
  ⟨fun j hj hu => by simp [xcpy, kS, show j ≠ 65536 by omega], by simp [xcpy, kS], fun j hj => by simp [xcpy, kS, hj], fun k i j h8 h9 => by
    have h9' : ¬ (k = 19 ∧ i = nt ∧ 0 ≤ j ∧ j < 0 + 3) := fun q => h9 ⟨q.1, q.2.1⟩
    show (if k = 19 ∧ i = nt ∧ 0 ≤ j ∧ j < 0 + 3 then _ else (kS S nt u).1 k i j) = _
    rw [if_neg h9']
    exact if_neg h8, rfl⟩
/-- what reading the first text makes of the store -/
def rdF (S T : xS) : Prop := (wLs fe1 ∧ wLs fe2 ∧ wLs fe3) ∧ T.1 25 0 3 = nI 5 ∧ gC3 T 26 0 27 0 fe1 fe2 fe3 ∧ Fr (fl (27 :: fRd)) S T
theorem ct_rdF {D : Nat} {S : xS} {Q : xQ} (hS : gStr S) (hB : gBy fB 42 S) (h : ∀ T, rdF S T → Q (some (.inl (-1))) T) : CT (D + 60) 0 0 m_Reader_read [R0v] S Q := by
  have hT := gTs_of fB hB.2.1
  have hN : ∀ T, Fr (fl (27 :: fRd)) S T → gNx (gK fB 42) (gP fB 42) 6 T := fun T f => gNx_of cix (hS.fr f (by decide)) (hB.fr f (by decide)) (fun j hj => (fB_b ⟨j, hj⟩).2.2)
  refine ct_read (K := gK fB 42) (P := gP fB 42) (cn := 6) (D := D + 60) hT (by omega) rfl hN (fun e1 e2 e3 T h1 h2 h3 h4 h5 h6 h7 => ?_) (fun j T h1 h2 h3 => (first_tok.x h1).elim)
  obtain ⟨rfl, rfl, rfl⟩ := h1.u first_tok
  exact h T ⟨⟨h2, h3, h4⟩, h5, h6, h7⟩
theorem fTxt_of {S T : xS} (h : rdF S T) : fTxt S (xupd (xcpy (kS (xupd T 23 0 1 0) 0 5) 27 0 0 19 0 0 3) 0 0 11 1) := by
  obtain ⟨hw, -, ⟨⟨a1, a2, a3⟩, a4, a5, a6, a7⟩, h7⟩ := h
  obtain ⟨k1, k2, k3, k4, k5⟩ := kp_facts (S := xupd T 23 0 1 0) (nt := 0) (u := 5)
  generalize xcpy (kS (xupd T 23 0 1 0) 0 5) 27 0 0 19 0 0 3 = S' at k1 k2 k3 k4 k5 ⊢
  refine ⟨hw, ⟨(k1 0 (by decide) (by decide)).trans (a5 0 (by decide)), (k1 1 (by decide) (by decide)).trans (a6 0 (by decide)), (k1 2 (by decide) (by decide)).trans (a6 1 (by decide)), (k1 3 (by decide) (by decide)).trans (a6 2 (by decide)), (k1 4 (by decide) (by decide)).trans (a7 0 (by decide)), k2⟩, ⟨(k3 0 (by decide)).trans a1, (k3 1 (by decide)).trans a2, (k3 2 (by decide)).trans a3⟩, (k4 23 0 1 (by omega) (by omega)).trans rfl, rfl, fun k i j hf hn => ?_, k5.trans h7.2⟩
  have z1 : (xupd S' 0 0 11 1).1 k i j = S'.1 k i j := if_neg (fun q => by
    obtain ⟨q1, q2, _⟩ := q; subst q1; subst q2; exact absurd hf (by decide))
  have z2 : S'.1 k i j = (xupd T 23 0 1 0).1 k i j := k4 k i j (fun q => hn ⟨Or.inl q.1, q.2⟩) (fun q => hn ⟨Or.inr q.1, q.2⟩)
  have z3 : (xupd T 23 0 1 0).1 k i j = T.1 k i j := if_neg (fun q => by
    obtain ⟨q1, q2, _⟩ := q; subst q1; subst q2; exact absurd hf (by decide))
  rw [z1, z2, z3]
  exact (h7.wk (l' := 1011 :: 24001 :: 27 :: fRd) (by decide)).1 k i j hf
