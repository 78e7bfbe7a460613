/-! text: lists of code, and what is unique -/
theorem okHs_sf : ∀ (a b : List Int32) (n : Nat), okHs (a ++ b) n → okHs b (hL a n)
  | [], _, _, h => h
  | c :: a, b, n, h => okHs_sf a b (hS c n) h.2
theorem htP_hL {e : List Int32} : ∀ m, m ≤ e.length → htP (fun j => e.getD j 0) m = hL (e.take m) 0
  | 0, _ => by rw [List.take_zero]; rfl
  | m + 1, h => by
    have ih := htP_hL (e := e) m (by omega)
    have e1 : e.take (m + 1) = e.take m ++ [e.getD m 0] := by
      rw [List.take_succ, List.getD_eq_getElem?_getD, List.getElem?_eq_getElem (show m < e.length by omega)]
      rfl
    show hS (e.getD m 0) (htP (fun j => e.getD j 0) m) = _
    rw [ih, e1, hL_ap]
    rfl
theorem wLs.wf {e : List Int32} (h : wLs e) (hl : e.length ≤ 160) : wfP (fun j => e.getD j 0) e.length ∧ ∀ i, i < e.length → okI_ (e.getD i 0) := by
  refine ⟨⟨hl, fun m hm => ?_, ?_⟩, fun i hi => ?_⟩
  · rw [htP_hL m (by omega)]
    have e1 : e = e.take m ++ (e.getD m 0 :: e.drop (m + 1)) := by
      rw [List.getD_eq_getElem?_getD, List.getElem?_eq_getElem hm]
      show e = e.take m ++ (e[m] :: e.drop (m + 1))
      rw [← List.drop_eq_getElem_cons hm, List.take_append_drop]
    have h1 := (h.1 0).1
    rw [e1] at h1
    exact (okHs_sf _ _ 0 h1).1
  · rw [htP_hL e.length (Nat.le_refl _), List.take_length]
    exact (h.1 0).2
  · refine h.2 _ ?_
    rw [List.getD_eq_getElem?_getD, List.getElem?_eq_getElem hi]
    exact List.getElem_mem hi
theorem gPok.u {K : GT} {k i i2 i3 : Nat} {e e2 : List Int32} (h : gPok K k i i2 e) (h2 : gPok K k i i3 e2) : i2 = i3 ∧ e = e2 := by
  have := gTo.uniq h.2 h2.2
  cases this
  exact ⟨rfl, rfl⟩
theorem gPok.x {K : GT} {k i i2 j : Nat} {e : List Int32} (h : gPok K k i i2 e) (h2 : gPno K k i j) : False := by
  rcases h2 with ⟨a, _⟩ | ⟨_, b⟩
  · exact a h.1
  · have := gTo.uniq h.2 b
    cases this
theorem gPno.u {K : GT} {k i j j2 : Nat} (h : gPno K k i j) (h2 : gPno K k i j2) : j = j2 := by
  rcases h with ⟨a, b⟩ | ⟨a, b⟩
  · rcases h2 with ⟨_, d⟩ | ⟨c, _⟩
    · rw [b, d]
    · exact absurd c a
  · rcases h2 with ⟨c, _⟩ | ⟨_, d⟩
    · exact absurd a c
    · have := gTo.uniq b d
      cases this; rfl
theorem gTok.u {K : GT} {e1 e2 e3 f1 f2 f3 : List Int32} (h : gTok K e1 e2 e3) (h2 : gTok K f1 f2 f3) : e1 = f1 ∧ e2 = f2 ∧ e3 = f3 := by
  obtain ⟨i1, i2, i3, a1, a2, a3, _⟩ := h
  obtain ⟨j1, j2, j3, b1, b2, b3, _⟩ := h2
  obtain ⟨rfl, rfl⟩ := a1.u b1
  obtain ⟨rfl, rfl⟩ := a2.u b2
  obtain ⟨rfl, rfl⟩ := a3.u b3
  exact ⟨rfl, rfl, rfl⟩
theorem gTok.x {K : GT} {e1 e2 e3 : List Int32} {j : Nat} (h : gTok K e1 e2 e3) (h2 : gTno K j) : False := by
  obtain ⟨i1, i2, i3, a1, a2, a3, a4⟩ := h
  rcases h2 with b1 | ⟨j1, f1, b1, h2⟩
  · exact a1.x b1
  · obtain ⟨rfl, rfl⟩ := a1.u b1
    rcases h2 with b2 | ⟨j2, f2, b2, h2⟩
    · exact a2.x b2
    · obtain ⟨rfl, rfl⟩ := a2.u b2
      rcases h2 with b3 | ⟨j3, f3, b3, b4, _⟩
      · exact a3.x b3
      · obtain ⟨rfl, rfl⟩ := a3.u b3
        exact b4 a4
theorem gTno.u {K : GT} {j j2 : Nat} (h : gTno K j) (h2 : gTno K j2) : j = j2 := by
  rcases h with a1 | ⟨i1, e1, a1, h⟩
  · rcases h2 with b1 | ⟨j1, f1, b1, h2⟩
    · exact a1.u b1
    · exact (b1.x a1).elim
  · rcases h2 with b1 | ⟨j1, f1, b1, h2⟩
    · exact (a1.x b1).elim
    · obtain ⟨rfl, rfl⟩ := a1.u b1
      rcases h with a2 | ⟨i2, e2, a2, h⟩
      · rcases h2 with b2 | ⟨j2, f2, b2, h2⟩
        · exact a2.u b2
        · exact (b2.x a2).elim
      · rcases h2 with b2 | ⟨j2, f2, b2, h2⟩
        · exact (a2.x b2).elim
        · obtain ⟨rfl, rfl⟩ := a2.u b2
          rcases h with a3 | ⟨i3, e3, a3, _, a5⟩
          · rcases h2 with b3 | ⟨j3, f3, b3, b4, b5⟩
            · exact a3.u b3
            · exact (b3.x a3).elim
          · rcases h2 with b3 | ⟨j3, f3, b3, _, b5⟩
            · exact (a3.x b3).elim
            · obtain ⟨rfl, rfl⟩ := a3.u b3
              rw [a5, b5]
/-! the model's text -/
theorem ct_M_text {D n nt : Nat} {b : Nat → Int32} {S : xS} {Q : xQ} (hnt : nt ≤ 6) (e33 : S.1 36 0 33 = nI nt) (hb : gMb b n S) (hw : gMw S) (hf : nt = 6 → Q (some (.inl (-4))) S)
    (hok : nt < 6 → ∀ e1 e2 e3 T, gTok (gK b n) e1 e2 e3 → gOu (3 * nt + 0) e1 T → gOu (3 * nt + 1) e2 T → gOu (3 * nt + 2) e3 T → gRg nt S T → Q (some (.inl (nI nt))) (xupd (xupd T 36 0 32 0) 36 0 33 (nI (nt + 1))))
    (hno : nt < 6 → ∀ j T, gTno (gK b n) j → gRg nt S T → Q (some (.inl (-100 - nI ((gP b n).2 j)))) (xupd T 36 0 32 0)) : CT (D + 5) 0 0 m_M_text [M0] S Q := by
  refine ct_of (xmok_all (by decide)) rfl (V_go (pc := 0) pk_160 [] 60 ?_)
  refine And.intro (fun q => ?_) (fun q => ?_)
  · have q : ¬ S.1 36 0 33 = nI 6 := q
    rw [e33] at q
    have n6 : nt < 6 := by
      rcases Nat.lt_or_eq_of_le hnt with z | z
      · exact z
      · exact absurd (by rw [z]) q
    refine ct_isText (D := D) n6 e33 hb hw (fun e1 e2 e3 T h1 h2 h3 h4 h5 => ?_) (fun j T h1 h2 h3 => ?_)
    · (repeat' first | (refine And.intro (fun q => absurd q (by decide)) (fun _ => ?_)) | (refine And.intro (fun _ => ?_) (fun q => absurd q (by decide))) | fail)
      have x33 : T.1 36 0 33 = nI nt := (h5.1 36 0 33 rfl (by omega) (by omega) (by decide)).trans e33
      have h := hok n6 e1 e2 e3 T h1 h2 h3 h4 h5
      refine qi h ?_ ?_
      · show T.1 36 0 33 + 1 - 1 = _
        rw [x33, nI_1, nI_pred]
      · show xupd (xupd T 36 0 32 0) 36 0 33 (T.1 36 0 33 + 1) = _
        rw [x33, nI_1]
    · (repeat' first | (refine And.intro (fun q => absurd q (by decide)) (fun _ => ?_)) | (refine And.intro (fun _ => ?_) (fun q => absurd q (by decide))) | fail)
      refine qi (hno n6 j T h1 h3) ?_ rfl
      show -100 - T.1 36 0 42 = _
      rw [h2]
  · have q : S.1 36 0 33 = nI 6 := q
    rw [e33] at q
    exact hf ((nI_eq (by omega) (by decide)).mp q)
