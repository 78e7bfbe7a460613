/-! text: the class's text -/
/-- keeping a text: to be shown by the kit's rows (Text.keep, Arrays.copyOf) -/
def KPX : Prop := ∀ (D nt u : Nat) (S : xS) (Q : xQ), nt < 6 → u ≤ 154 → S.1 25 0 3 = nI u → (∀ S', (∀ j, j < u → S'.1 18 nt j = S.1 26 0 j) → S'.1 18 nt 65536 = nI u → (∀ j, j < 3 → S'.1 19 nt j = S.1 27 0 j) → (∀ k i j, ¬ (k = 18 ∧ i = nt) → ¬ (k = 19 ∧ i = nt) → S'.1 k i j = S.1 k i j) → S'.2 = S.2 → V (D + 3) 0 0 m_C_text 53 [some C0, some (.inl (-1))] [] S' Q) → V (D + 3) 1 160 m_C_text 50 [some C0, some (.inl (-1))] [R0v, .inr (.inr (17, nt))] S Q
theorem V_cz {d c z mi pc : Nat} {lv : List (Option xV)} {st : List xV} {S : xS} {Q : xQ} (h : V d 0 0 mi pc lv st S Q) : V d c z mi pc lv st S Q := by
  intro p l e R s m args below meth c0 H locs ls cells slots mc ms D B L0 L hC hc hz
  exact h p l e R s m args below meth c0 H locs ls cells slots mc ms D B L0 L hC (by omega) (by omega)
theorem ct_tClear {D : Nat} {S : xS} {Q : xQ} (h : Q none (xupd S 23 0 1 0)) : CT D 0 0 m_Tokens_clear [K0v] S Q := by
  refine ct_of (xmok_all (by decide)) rfl (V_go (pc := 0) pk_62 [] 20 ?_)
  exact h
theorem ct_C_text (hX : CIX) (hK : KPX) {D n nt : Nat} {b : Nat → Int32} {S : xS} {Q : xQ} (hnt : nt ≤ 6) (e11 : S.1 0 0 11 = nI nt) (hS : gStr S) (hB : gBy b n S) (hr : ∀ j, j < n → -128 ≤ b j ∧ b j ≤ 127) (hf : nt = 6 → Q (some (.inl (-4))) S)
    (hok : nt < 6 → ∀ e1 e2 e3 S', gTok (gK b n) e1 e2 e3 → wLs e1 → wLs e2 → wLs e3 → gC3 S' 18 nt 19 nt e1 e2 e3 → S'.1 18 nt 65536 = nI (e1.length + e2.length + e3.length) → S'.1 23 0 1 = 0 → S'.1 0 0 11 = nI (nt + 1) → (∀ k i j, fl (1011 :: 24001 :: 27 :: fRd) k j = false → ¬ ((k = 18 ∨ k = 19) ∧ i = nt) → S'.1 k i j = S.1 k i j) → S'.2 = S.2 → Q (some (.inl (nI nt))) S')
    (hno : nt < 6 → ∀ j S', gTno (gK b n) j → S'.1 23 0 1 = 0 → Fr (fl (24001 :: 27 :: fRd)) S S' → Q (some (.inl (-100 - nI ((gP b n).2 j)))) S') : CT (D + 60) 1 160 m_C_text [C0] S Q := by
  have hT := gTs_of b hB.2.1
  refine ct_of (xmok_all (by decide)) rfl (V_go (pc := 0) pk_69 [20, 50] 60 ?_)
  refine And.intro (fun q => ?_) (fun q => ?_)
  · have q : S.1 0 0 11 < nI 6 := q
    rw [e11] at q
    have n6 := (nI_ltI (by omega) (by omega)).mp q
    have hN : ∀ T, Fr (fl (27 :: fRd)) S T → gNx (gK b n) (gP b n) 6 T := fun T f => gNx_of hX (hS.fr f (by decide)) (hB.fr f (by decide)) hr
    refine ct_read (K := gK b n) (P := gP b n) (cn := 6) (D := D + 59) hT (by omega) rfl hN (fun e1 e2 e3 T h1 h2 h3 h4 h5 h6 h7 => ?_) (fun j T h1 h2 h3 => ?_)
    · refine V_go pk_69 [50] 60 ?_
      refine ct_tClear ?_
      (repeat' first | (refine And.intro (fun q => absurd q (by decide)) (fun _ => ?_)) | (refine And.intro (fun _ => ?_) (fun q => absurd q (by decide))) | fail)
      have x11 : T.1 0 0 11 = nI nt := (h7.1 0 0 11 rfl).trans e11
      have c11 : (xupd T 23 0 1 0).1 0 0 11 = nI nt := x11
      refine And.intro (show vp_in ((xupd T 23 0 1 0).1 0 0 11) 6 by rw [c11]; exact vi (N := 6) n6) ?_
      show V (D + 57 + 3) 1 160 m_C_text 50 [some C0, some (.inl (-1))] [R0v, .inr (.inr (17, ((xupd T 23 0 1 0).1 0 0 11).toNatClampNeg))] (xupd T 23 0 1 0) Q
      rw [c11, nI_clamp (show nt < 2 ^ 31 by omega)]
      have l160 := h6.2.1
      refine hK (D + 57) nt (e1.length + e2.length + e3.length) (xupd T 23 0 1 0) Q n6 l160 h5 (fun S' k1 k2 k3 k4 k5 => ?_)
      have y11 : S'.1 0 0 11 = nI nt := (k4 0 0 11 (by omega) (by omega)).trans x11
      have fin := hok n6 e1 e2 e3 (xupd S' 0 0 11 (S'.1 0 0 11 + 1)) h1 h2 h3 h4 ?_ k2 ((k4 23 0 1 (by omega) (by omega)).trans rfl) (by show S'.1 0 0 11 + 1 = _; rw [y11, nI_1]) (fun k i j hf hn => ?_) (k5.trans h7.2)
      · refine V_go pk_69 [] 60 ?_
        refine qi fin ?_ rfl
        show S'.1 0 0 11 + 1 - 1 = _
        rw [y11, nI_1, nI_pred]
      · obtain ⟨⟨a1, a2, a3⟩, a4, a5, a6, a7⟩ := h6
        refine ⟨⟨(k3 0 (by decide)).trans a1, (k3 1 (by decide)).trans a2, (k3 2 (by decide)).trans a3⟩, a4, fun j hj => (k1 _ (by omega)).trans (a5 j hj), fun j hj => (k1 _ (by omega)).trans (a6 j hj), fun j hj => (k1 _ (by omega)).trans (a7 j hj)⟩
      · have z1 : (xupd S' 0 0 11 (S'.1 0 0 11 + 1)).1 k i j = S'.1 k i j := if_neg (fun q => by
          obtain ⟨q1, q2, _⟩ := q; subst q1; subst q2; exact absurd hf (by decide))
        have z2 : S'.1 k i j = (xupd T 23 0 1 0).1 k i j := k4 k i j (fun q => hn ⟨Or.inl q.1, q.2⟩) (fun q => hn ⟨Or.inr q.1, q.2⟩)
        have z3 : (xupd T 23 0 1 0).1 k i j = T.1 k i j := if_neg (fun q => by
          obtain ⟨q1, q2, _⟩ := q; subst q1; subst q2; exact absurd hf (by decide))
        rw [z1, z2, z3]
        refine (h7.wk (l' := 1011 :: 24001 :: 27 :: fRd) (by decide)).1 k i j hf
    · refine V_go pk_69 [50] 60 ?_
      refine ct_tClear ?_
      refine And.intro (fun z => absurd z (nI_m (by omega))) (fun _ => ?_)
      exact hno n6 j (xupd T 23 0 1 0) h1 rfl ((h3.wk (by decide)).tr (Fr.up Fr.rf rfl))
  · have q : ¬ S.1 0 0 11 < nI 6 := q
    rw [e11] at q
    have n6 : nt = 6 := by
      rcases Nat.lt_or_eq_of_le hnt with z | z
      · exact absurd (nI_lt z (by decide)) q
      · exact z
    exact hf n6
