/-! order, leg: the calls -/
def okP (nd : Nat) (x n la : Int32) : Prop := inC nd x ∧ inR 1 3 n ∧ inR 0 9999 la
theorem ct_isPlan {d nd : Nat} {x n la : Int32} {S : xS} {Q : xQ} (e3 : S.1 0 0 9 = nI nd) (b : nd ≤ 4) (h1 : okP nd x n la → Q (some (.inl 1)) S) (h0 : ¬ okP nd x n la → Q (some (.inl 0)) S) : CT (d + 2) 0 0 m_C_isPlan [C0, .inl x, .inl n, .inl la] S Q := by
  refine ct_of (xmok_all (by decide)) rfl (V_go (pc := 0) pk_109 [] 60 ?_)
  refine cC_isDhow e3 (by omega) (fun hx => ?_) (fun q => ?_)
  · (repeat' first | (refine And.intro (fun q => absurd q (by decide)) (fun _ => ?_)) | (refine And.intro (fun _ => ?_) (fun q => absurd q (by decide))) | fail)
    refine cC_w 1 3 rfl rfl (by decide) (by decide) (fun hn => ?_) (fun q => ?_)
    · (repeat' first | (refine And.intro (fun q => absurd q (by decide)) (fun _ => ?_)) | (refine And.intro (fun _ => ?_) (fun q => absurd q (by decide))) | fail)
      refine cC_w 0 9999 rfl rfl (by decide) (by decide) (fun hl => ?_) (fun q => ?_)
      · (repeat' first | (refine And.intro (fun q => absurd q (by decide)) (fun _ => ?_)) | (refine And.intro (fun _ => ?_) (fun q => absurd q (by decide))) | fail)
        exact And.intro (Or.inr rfl) (h1 ⟨hx, hn, hl⟩)
      · (repeat' first | (refine And.intro (fun q => absurd q (by decide)) (fun _ => ?_)) | (refine And.intro (fun _ => ?_) (fun q => absurd q (by decide))) | fail)
        exact And.intro (Or.inl rfl) (h0 (fun g => q g.2.2))
    · (repeat' first | (refine And.intro (fun q => absurd q (by decide)) (fun _ => ?_)) | (refine And.intro (fun _ => ?_) (fun q => absurd q (by decide))) | fail)
      exact And.intro (Or.inl rfl) (h0 (fun g => q g.2.1))
  · (repeat' first | (refine And.intro (fun q => absurd q (by decide)) (fun _ => ?_)) | (refine And.intro (fun _ => ?_) (fun q => absurd q (by decide))) | fail)
    exact And.intro (Or.inl rfl) (h0 (fun g => q g.1))
theorem ct_mayOrder {d nd : Nat} {x n la : Int32} {S : xS} {Q : xQ} (e3 : S.1 36 0 8 = nI nd) (b : nd ≤ 4) (h1 : okP nd x n la → Q (some (.inl 1)) S) (h0 : ¬ okP nd x n la → Q (some (.inl 0)) S) : CT (d + 2) 0 0 m_M_mayOrder [M0, .inl x, .inl n, .inl la] S Q := by
  refine ct_of (xmok_all (by decide)) rfl (V_go (pc := 0) pk_177 [] 60 ?_)
  refine cM_isDhow e3 (by omega) (fun hx => ?_) (fun q => ?_)
  · (repeat' first | (refine And.intro (fun q => absurd q (by decide)) (fun _ => ?_)) | (refine And.intro (fun _ => ?_) (fun q => absurd q (by decide))) | fail)
    refine cM_w 1 3 rfl rfl (by decide) (by decide) (fun hn => ?_) (fun q => ?_)
    · (repeat' first | (refine And.intro (fun q => absurd q (by decide)) (fun _ => ?_)) | (refine And.intro (fun _ => ?_) (fun q => absurd q (by decide))) | fail)
      refine cM_w 0 9999 rfl rfl (by decide) (by decide) (fun hl => ?_) (fun q => ?_)
      · (repeat' first | (refine And.intro (fun q => absurd q (by decide)) (fun _ => ?_)) | (refine And.intro (fun _ => ?_) (fun q => absurd q (by decide))) | fail)
        exact And.intro (Or.inr rfl) (h1 ⟨hx, hn, hl⟩)
      · (repeat' first | (refine And.intro (fun q => absurd q (by decide)) (fun _ => ?_)) | (refine And.intro (fun _ => ?_) (fun q => absurd q (by decide))) | fail)
        exact And.intro (Or.inl rfl) (h0 (fun g => q g.2.2))
    · (repeat' first | (refine And.intro (fun q => absurd q (by decide)) (fun _ => ?_)) | (refine And.intro (fun _ => ?_) (fun q => absurd q (by decide))) | fail)
      exact And.intro (Or.inl rfl) (h0 (fun g => q g.2.1))
  · (repeat' first | (refine And.intro (fun q => absurd q (by decide)) (fun _ => ?_)) | (refine And.intro (fun _ => ?_) (fun q => absurd q (by decide))) | fail)
    exact And.intro (Or.inl rfl) (h0 (fun g => q g.1))
theorem ct_finds_no {d D : Nat} {n la : Int32} {S : xS} {Q : xQ} (hD : D < 4) (h : ¬ mThere S D) (h0 : Q (some (.inl 0)) S) : CT (d + 3) 0 0 m_M_finds [M0, .inl (nI D), .inl n, .inl la] S Q := by
  refine ct_of (xmok_all (by decide)) rfl (V_go (pc := 0) pk_178 [15] 60 ?_)
  refine ct_isThere hD (fun p1 p2 => absurd ⟨p1, p2⟩ h) (fun p => ?_)
  (repeat' first | (refine And.intro (fun q => absurd q (by decide)) (fun _ => ?_)) | (refine And.intro (fun _ => ?_) (fun q => absurd q (by decide))) | fail)
  exact And.intro (Or.inl rfl) h0
theorem sw3 {w : Int32} (h : inR 0 2 w) : w = 0 ∨ w = 1 ∨ w = 2 := by
  obtain ⟨k, _, h2, rfl⟩ := h
  have : k = 0 ∨ k = 1 ∨ k = 2 := by omega
  rcases this with e | e | e <;> subst e
  · exact Or.inl rfl
  · exact Or.inr (Or.inl rfl)
  · exact Or.inr (Or.inr rfl)
theorem cm_order {dp n0 np nd nv nt r t : Nat} {S : xS} (hn0 : n0 ≤ 600) (hN : IN np nd nv nt r t S) (hA : IA n0 S) (hB : IB n0 np nd t S) (hC : IC np t S) {x n la w : Int32} : CT (dp + 10) 0 0 m_C_order [C0, .inl x, .inl n, .inl la, .inl w] S (fun a S1 => CT (dp + 10) 0 0 m_M_order [M0, .inl x, .inl n, .inl la, .inl w] S1 (fun a' S2 => a' = a ∧ IC np t S2 ∧ Fr (fl fPl) S S2)) := by
  obtain ⟨⟨b1, b2, b3, b4, b5, b6⟩, ⟨e1, e2⟩, ⟨e3, e4⟩, -⟩ := id hN
  have keep : IC np t S ∧ Fr (fl fPl) S S := ⟨hC, Fr.rf⟩
  -- the model, step by step
  have mm : ∀ {S' : xS} {Q : xQ}, S'.1 36 0 8 = nI nd → (¬ (okP nd x n la ∧ inR 0 2 w) → Q (some (.inr (.inl (-4611686018427387904)))) S') → (okP nd x n la → inR 0 2 w → CT (dp + 9) 0 0 m_M_finds [M0, .inl x, .inl n, .inl la] S' (fun a S2 => (a = some (.inl 0) ∧ Q (some (.inr (.inl (-4611686018427387904)))) S2) ∨ (a = some (.inl 1) ∧ Q (some (.inr (.inl (if w = 0 then S2.1 36 0 50 else if w = 1 then S2.1 36 0 51 else S2.1 36 0 52).toInt64))) S2))) → CT (dp + 10) 0 0 m_M_order [M0, .inl x, .inl n, .inl la, .inl w] S' Q := by
    intro S' Q h8 q1 q2
    refine ct_of (xmok_all (by decide)) rfl (V_go (pc := 0) pk_176 [] 60 ?_)
    refine ct_mayOrder (d := dp + 7) h8 b2 (fun ok => ?_) (fun q => ?_)
    · (repeat' first | (refine And.intro (fun q => absurd q (by decide)) (fun _ => ?_)) | (refine And.intro (fun _ => ?_) (fun q => absurd q (by decide))) | fail)
      refine cM_w 0 2 rfl rfl (by decide) (by decide) (fun hw => ?_) (fun q => ?_)
      · (repeat' first | (refine And.intro (fun q => absurd q (by decide)) (fun _ => ?_)) | (refine And.intro (fun _ => ?_) (fun q => absurd q (by decide))) | fail)
        refine (q2 ok hw).mono (fun a S2 hq => ?_)
        rcases hq with ⟨rfl, hq⟩ | ⟨rfl, hq⟩
        · (repeat' first | (refine And.intro (fun q => absurd q (by decide)) (fun _ => ?_)) | (refine And.intro (fun _ => ?_) (fun q => absurd q (by decide))) | fail)
          exact hq
        · (repeat' first | (refine And.intro (fun q => absurd q (by decide)) (fun _ => ?_)) | (refine And.intro (fun _ => ?_) (fun q => absurd q (by decide))) | fail)
          rcases sw3 hw with rfl | rfl | rfl
          · (repeat' first | (refine And.intro (fun q => absurd q (by decide)) (fun _ => ?_)) | (refine And.intro (fun _ => ?_) (fun q => absurd q (by decide))) | fail)
            exact hq
          · (repeat' first | (refine And.intro (fun q => absurd q (by decide)) (fun _ => ?_)) | (refine And.intro (fun _ => ?_) (fun q => absurd q (by decide))) | fail)
            exact hq
          · (repeat' first | (refine And.intro (fun q => absurd q (by decide)) (fun _ => ?_)) | (refine And.intro (fun _ => ?_) (fun q => absurd q (by decide))) | fail)
            exact hq
      · (repeat' first | (refine And.intro (fun q => absurd q (by decide)) (fun _ => ?_)) | (refine And.intro (fun _ => ?_) (fun q => absurd q (by decide))) | fail)
        exact q1 (fun g => q g.2)
    · (repeat' first | (refine And.intro (fun q => absurd q (by decide)) (fun _ => ?_)) | (refine And.intro (fun _ => ?_) (fun q => absurd q (by decide))) | fail)
      exact q1 (fun g => q g.1)
  have bad : ¬ (okP nd x n la ∧ inR 0 2 w) → CT (dp + 10) 0 0 m_M_order [M0, .inl x, .inl n, .inl la, .inl w] S (fun a' S2 => a' = some (.inr (.inl (-4611686018427387904))) ∧ IC np t S2 ∧ Fr (fl fPl) S S2) := fun nn => mm e4 (fun _ => ⟨rfl, keep⟩) (fun h1 h2 => absurd ⟨h1, h2⟩ nn)
  refine ct_of (xmok_all (by decide)) rfl (V_go (pc := 0) pk_108 [] 60 ?_)
  refine ct_isPlan (d := dp + 7) e3 b2 (fun ok => ?_) (fun q => ?_)
  · (repeat' first | (refine And.intro (fun q => absurd q (by decide)) (fun _ => ?_)) | (refine And.intro (fun _ => ?_) (fun q => absurd q (by decide))) | fail)
    refine cC_w 0 2 rfl rfl (by decide) (by decide) (fun hw => ?_) (fun q => ?_)
    · (repeat' first | (refine And.intro (fun q => absurd q (by decide)) (fun _ => ?_)) | (refine And.intro (fun _ => ?_) (fun q => absurd q (by decide))) | fail)
      obtain ⟨⟨D, hD, rfl⟩, ⟨N, n1, n3, rfl⟩, ⟨la, _, l9, rfl⟩⟩ := id ok
      have hb := (hB D (by omega)).1 hD
      refine ct_C_plan (d := dp) hn0 hN hA hB hC hD n3 l9 (fun th => ?_) (fun P hP th eP S1 S' c L W t9 C hl f1 hc hc9 best q10 q9 q11 hdg => ?_)
      · (repeat' first | (refine And.intro (fun q => absurd q (by decide)) (fun _ => ?_)) | (refine And.intro (fun _ => ?_) (fun q => absurd q (by decide))) | fail)
        refine mm e4 (fun g => absurd ⟨ok, hw⟩ g) (fun _ _ => ?_)
        exact ct_finds_no (d := dp + 6) (by omega) (fun g => th ((there_eq hb b1).mp g)) (Or.inl ⟨rfl, rfl, keep⟩)
      · have fS' : Fr (fl [9, 10, 32004, 32005, 32006, 32007, 32008, 32009, 32010, 32011, 32, 33]) S S' := ((ntC_fr S P (nI t)).wk (by decide)).tr ((hl.fr.wk (by decide)).tr (f1.wk (by decide)))
        have q8 : S'.1 36 0 8 = nI nd := (fS'.1 36 0 8 rfl).trans e4
        by_cases hL : 1 ≤ L
        · rw [if_pos hL]
          have fin : ∀ v : Int32, v = (if w = 0 then nI W else if w = 1 then nI L else nI t9) → CT (dp + 10) 0 0 m_M_order [M0, .inl (nI D), .inl (nI N), .inl (nI la), .inl w] S' (fun a' S2 => a' = some (.inr (.inl v.toInt64)) ∧ IC np t S2 ∧ Fr (fl fPl) S S2) := by
            intro v hv
            refine mm q8 (fun g => absurd ⟨ok, hw⟩ g) (fun _ _ => ?_)
            refine ct_finds_after (d := dp + 6) hn0 hN hA hB hC hD n3 hP l9 th eP hl f1 hc hc9 best (fun S2 k1 k2 k3 k4 => ?_)
            rw [if_pos hL]
            refine Or.inr ⟨rfl, ?_, k1, k2⟩
            rw [(k4 hL).1, k3, (k4 hL).2.1, hv]
          (repeat' first | (refine And.intro (fun q => absurd q (by decide)) (fun _ => ?_)) | (refine And.intro (fun _ => ?_) (fun q => absurd q (by decide))) | fail)
          rcases sw3 hw with rfl | rfl | rfl
          · (repeat' first | (refine And.intro (fun q => absurd q (by decide)) (fun _ => ?_)) | (refine And.intro (fun _ => ?_) (fun q => absurd q (by decide))) | fail)
            exact fin (S'.1 31 0 9) (q9 hL)
          · (repeat' first | (refine And.intro (fun q => absurd q (by decide)) (fun _ => ?_)) | (refine And.intro (fun _ => ?_) (fun q => absurd q (by decide))) | fail)
            exact fin (S'.1 31 0 10) q10
          · (repeat' first | (refine And.intro (fun q => absurd q (by decide)) (fun _ => ?_)) | (refine And.intro (fun _ => ?_) (fun q => absurd q (by decide))) | fail)
            exact fin (S'.1 31 0 11) q11
        · rw [if_neg hL]
          (repeat' first | (refine And.intro (fun q => absurd q (by decide)) (fun _ => ?_)) | (refine And.intro (fun _ => ?_) (fun q => absurd q (by decide))) | fail)
          refine mm q8 (fun g => absurd ⟨ok, hw⟩ g) (fun _ _ => ?_)
          refine ct_finds_after (d := dp + 6) hn0 hN hA hB hC hD n3 hP l9 th eP hl f1 hc hc9 best (fun S2 k1 k2 k3 k4 => ?_)
          rw [if_neg hL]
          exact Or.inl ⟨rfl, rfl, k1, k2⟩
    · (repeat' first | (refine And.intro (fun q => absurd q (by decide)) (fun _ => ?_)) | (refine And.intro (fun _ => ?_) (fun q => absurd q (by decide))) | fail)
      exact bad (fun g => q g.2)
  · (repeat' first | (refine And.intro (fun q => absurd q (by decide)) (fun _ => ?_)) | (refine And.intro (fun _ => ?_) (fun q => absurd q (by decide))) | fail)
    exact bad (fun g => q g.1)
