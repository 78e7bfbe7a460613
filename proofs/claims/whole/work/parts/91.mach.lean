/-! text: the model's waiting operators, its small methods -/
def gOps : List Nat := [40, 133, 3, 131, 132, 60, 61, 43, 45, 42]
def gWm (w : Nat) : Int32 := if w = 3 then 300 else if w = 131 then 109 else if w = 132 then 110 else if w = 133 then 111 else nI w
def rkI (x : Int32) : Int32 := if x = 42 then 6 else if x = 43 then 5 else if x = 45 then 5 else if x = 60 then 4 else if x = 61 then 4 else if x = 109 then 1 else if x = 110 then 2 else if x = 111 then 3 else if x = 300 then 7 else 0
theorem ct_rankOf {D : Nat} {x : Int32} {S : xS} {Q : xQ} (h : Q (some (.inl (rkI x))) S) : CT D 0 0 m_M_rankOf [.inl x] S Q := by
  unfold rkI at h
  refine ct_of (xmok_all (by decide)) rfl (V_go (pc := 0) pk_171 [] 40 ?_)
  refine (And.intro (fun c0 => ?_) (fun c0 => (And.intro (fun c1 => ?_) (fun c1 => (And.intro (fun c2 => ?_) (fun c2 => (And.intro (fun c3 => ?_) (fun c3 => (And.intro (fun c4 => ?_) (fun c4 => (And.intro (fun c5 => ?_) (fun c5 => (And.intro (fun c6 => ?_) (fun c6 => (And.intro (fun c7 => ?_) (fun c7 => (And.intro (fun c8 => ?_) (fun c8 => ?_))))))))))))))))))
  · rw [if_pos c0] at h; exact h
  · rw [if_neg c0, if_pos c1] at h; exact h
  · rw [if_neg c0, if_neg c1, if_pos c2] at h; exact h
  · rw [if_neg c0, if_neg c1, if_neg c2, if_pos c3] at h; exact h
  · rw [if_neg c0, if_neg c1, if_neg c2, if_neg c3, if_pos c4] at h; exact h
  · rw [if_neg c0, if_neg c1, if_neg c2, if_neg c3, if_neg c4, if_pos c5] at h; exact h
  · rw [if_neg c0, if_neg c1, if_neg c2, if_neg c3, if_neg c4, if_neg c5, if_pos c6] at h; exact h
  · rw [if_neg c0, if_neg c1, if_neg c2, if_neg c3, if_neg c4, if_neg c5, if_neg c6, if_pos c7] at h; exact h
  · rw [if_neg c0, if_neg c1, if_neg c2, if_neg c3, if_neg c4, if_neg c5, if_neg c6, if_neg c7, if_pos c8] at h; exact h
  · rw [if_neg c0, if_neg c1, if_neg c2, if_neg c3, if_neg c4, if_neg c5, if_neg c6, if_neg c7, if_neg c8] at h; exact h
theorem gOps_f : ∀ w ∈ gOps, rkI (gWm w) = nI (gRk w) ∧ (gWm w = 40 ↔ w = 40) ∧ ((gWm w = 40 ∨ gWm w = 111 ∨ gWm w = 300) ↔ (w = 40 ∨ w = 133 ∨ w = 3)) ∧ encM (-(nI w)) = gWm w ∧ ¬ 0 ≤ -(nI w) ∧ gRk w ≤ 7 := by decide
def gWr : List Nat → xS → Prop
  | [], _ => True
  | w :: W, S => (S.1 68 0 W.length = gWm w ∧ w ∈ gOps) ∧ gWr W S
def gMs (W : List Nat) (S : xS) : Prop := S.1 36 0 46 = nI W.length ∧ gWr W S
def gOu (row : Nat) (o : List Int32) (S : xS) : Prop := S.1 62 0 row = nI o.length ∧ ∀ j, j < o.length → S.1 63 0 (160 * row + j) = encM (o.getD j 0) ∧ (0 ≤ o.getD j 0 → S.1 64 0 (160 * row + j) = o.getD j 0)
abbrev fMr : List Nat := [37041, 37042, 37043, 37044, 37046]
def gRf (row : Nat) (S S' : xS) : Prop := (∀ k i j, fl fMr k j = false → ¬ (k = 62 ∧ j = row) → ¬ ((k = 63 ∨ k = 64) ∧ 160 * row ≤ j ∧ j < 160 * row + 160) → ¬ k = 68 → S'.1 k i j = S.1 k i j) ∧ S'.2 = S.2
theorem gRf.rf {row : Nat} {S : xS} : gRf row S S := ⟨fun _ _ _ _ _ _ _ => rfl, rfl⟩
theorem gRf.tr {row : Nat} {S S1 S2 : xS} (h : gRf row S S1) (h2 : gRf row S1 S2) : gRf row S S2 := ⟨fun k i j a b c d => (h2.1 k i j a b c d).trans (h.1 k i j a b c d), h2.2.trans h.2⟩
theorem gWr.kp : ∀ (W : List Nat) {S S2 : xS}, (∀ j, j < W.length → S2.1 68 0 j = S.1 68 0 j) → gWr W S → gWr W S2
  | [], _, _, _, _ => trivial
  | w :: W, S, S2, e, h => ⟨⟨(e W.length (by show W.length < (w :: W).length; rw [List.length_cons]; omega)).trans h.1.1, h.1.2⟩, gWr.kp W (fun j hj => e j (by rw [List.length_cons]; omega)) h.2⟩
theorem gWr.sf : ∀ (W2 W1 : List Nat) {S : xS}, gWr (W2 ++ W1) S → gWr W1 S
  | [], _, _, h => h
  | _ :: W2, W1, _, h => gWr.sf W2 W1 h.2
theorem ct_M_add {D row : Nat} {o : List Int32} {x v c : Int32} {S : xS} {Q : xQ} (hr : row < 18) (ho : o.length < 160) (hO : gOu row o S) (hx : x = encM c) (hv : 0 ≤ c → v = c) (h : ∀ S', gOu row (o ++ [c]) S' → gRf row S S' → (∀ j, S'.1 68 0 j = S.1 68 0 j) → (∀ j, S'.1 36 0 j = S.1 36 0 j) → Q none S') : CT D 0 0 m_M_add [M0, .inl (nI row), .inl x, .inl v] S Q := by
  have er : (nI row).toNatClampNeg = row := nI_clamp (by omega)
  have vr : vp_in (nI row) 18 := vi hr
  obtain ⟨h1, h2⟩ := hO
  have ix : (160 : Int32) * nI row + nI o.length = nI (160 * row + o.length) := by rw [show (160 : Int32) = nI 160 from rfl, nI_mul, nI_add]
  have fin := h (xupd (xupd (xupd S 63 0 (160 * row + o.length) x) 64 0 (160 * row + o.length) v) 62 0 row (nI (o.length + 1))) ⟨?_, fun j hj => ?_⟩ ⟨fun k i j a b c d => ?_, rfl⟩ (fun j => rfl) (fun j => rfl)
  · have iv : vp_in ((160 : Int32) * nI row + nI o.length) 2880 := by rw [ix]; exact vi (N := 2880) (by omega)
    have ic : ((160 : Int32) * nI row + nI o.length).toNatClampNeg = 160 * row + o.length := by rw [ix]; exact nI_clamp (by omega)
    have at36 : V D 0 0 m_M_add 36 [some M0, some (.inl (nI row)), some (.inl x), some (.inl v)] [] (xupd (xupd S 63 0 (160 * row + o.length) x) 64 0 (160 * row + o.length) v) Q := by
      have k1 : (xupd (xupd S 63 0 (160 * row + o.length) x) 64 0 (160 * row + o.length) v).1 62 0 row = nI o.length := h1
      generalize xupd (xupd S 63 0 (160 * row + o.length) x) 64 0 (160 * row + o.length) v = T at fin k1 ⊢
      refine V_go pk_158 [] 60 ?_
      refine And.intro vr ?_
      refine And.intro vr ?_
      rw [er]
      refine qq fin rfl ?_
      show xupd T 62 0 row (T.1 62 0 row + 1) = _
      rw [k1, nI_1]
    have at18 : V D 0 0 m_M_add 18 [some M0, some (.inl (nI row)), some (.inl x), some (.inl v)] [] (xupd S 63 0 (160 * row + o.length) x) Q := by
      have k1 : (xupd S 63 0 (160 * row + o.length) x).1 62 0 row = nI o.length := h1
      generalize xupd S 63 0 (160 * row + o.length) x = T at at36 k1 ⊢
      refine V_go pk_158 [36] 60 ?_
      refine And.intro vr ?_
      rw [er, k1]
      refine And.intro iv ?_
      rw [ic]
      exact at36
    refine ct_of (xmok_all (by decide)) rfl (V_go (pc := 0) pk_158 [18] 60 ?_)
    refine And.intro vr ?_
    rw [er, h1]
    refine And.intro iv ?_
    rw [ic]
    exact at18
  · rw [List.length_append, List.length_singleton]
    exact if_pos ⟨rfl, rfl, rfl⟩
  · rw [List.length_append, List.length_singleton] at hj
    by_cases c0 : j < o.length
    · have e : (o ++ [c]).getD j 0 = o.getD j 0 := by rw [List.getD_eq_getElem?_getD, List.getD_eq_getElem?_getD, List.getElem?_append_left c0]
      rw [e]
      refine ⟨?_, fun g => ?_⟩
      · refine Eq.trans (if_neg (fun q => ?_)) (h2 j c0).1
        have := q.2.1
        omega
      · refine Eq.trans (if_neg (fun q => ?_)) ((h2 j c0).2 g)
        have := q.2.1
        omega
    · have : j = o.length := by omega
      subst this
      have e : (o ++ [c]).getD o.length 0 = c := by rw [List.getD_eq_getElem?_getD, List.getElem?_append_right (Nat.le_refl _), Nat.sub_self]; rfl
      rw [e]
      refine ⟨?_, fun g => ?_⟩
      · exact (if_pos ⟨rfl, rfl, rfl⟩).trans hx
      · exact (if_pos ⟨rfl, rfl, rfl⟩).trans (hv g)
  · refine (if_neg (fun q => b ⟨q.1, q.2.1⟩)).trans ((if_neg (fun q => c ⟨Or.inr q.1, ?_⟩)).trans (if_neg (fun q => c ⟨Or.inl q.1, ?_⟩)))
    · have := q.2.1; omega
    · have := q.2.1; omega
theorem ct_settle {D row r : Nat} (hr : row < 18) (hr7 : r ≤ 7) {Q : xQ} : ∀ (W : List Nat) (o : List Int32) (S : xS), W.length + o.length ≤ 160 → gMs W S → gOu row o S → (∀ S', gMs (gStl r W o).1 S' → gOu row (gStl r W o).2 S' → gRf row S S' → (∀ j, ¬ j = 46 → S'.1 36 0 j = S.1 36 0 j) → Q none S') → CT (D + 1) 0 0 m_M_settle [M0, .inl (nI row), .inl (nI r)] S Q := by
  intro W o S hl hM hO h
  have loop : ∀ (W : List Nat) (o : List Int32) (T : xS), W.length + o.length ≤ 160 → gMs W T → gOu row o T → gRf row S T → (∀ j, ¬ j = 46 → T.1 36 0 j = S.1 36 0 j) → (∀ S', gMs (gStl r W o).1 S' → gOu row (gStl r W o).2 S' → gRf row S S' → (∀ j, ¬ j = 46 → S'.1 36 0 j = S.1 36 0 j) → Q none S') → V (D + 1) 0 0 m_M_settle 0 [some M0, some (.inl (nI row)), some (.inl (nI r))] [] T Q := by
    intro W
    induction W with
    | nil =>
      intro o T hl hM hO hf h46 h
      refine V_go pk_170 [] 60 ?_
      refine And.intro (fun _ => h T hM hO hf h46) (fun q => absurd ?_ q)
      show T.1 36 0 46 ≤ 0
      rw [hM.1]; exact Int32.le_refl _
    | cons w W ih =>
      intro o T hl hM hO hf h46 h
      obtain ⟨m1, ⟨m2, m3⟩, m4⟩ := hM
      rw [List.length_cons] at hl m1
      have gf := gOps_f w m3
      have ep : T.1 36 0 46 - 1 = nI W.length := by rw [m1, nI_pred]
      have vw : vp_in (T.1 36 0 46 - 1) 200 := by rw [ep]; exact vi (N := 200) (by omega)
      have ec : (T.1 36 0 46 - 1).toNatClampNeg = W.length := by rw [ep]; exact nI_clamp (by omega)
      have hs : gStl r (w :: W) o = if r ≤ gRk w then gStl r W (o ++ [-(nI w)]) else (w :: W, o) := rfl
      rw [hs] at h
      refine V_go pk_170 [0, 35] 60 ?_
      refine And.intro (fun q => ?_) (fun _ => ?_)
      · have q : T.1 36 0 46 ≤ 0 := q
        rw [m1] at q
        exact absurd q (nI_nle (by omega) (by omega))
      refine And.intro vw ?_
      rw [ec, m2]
      refine ct_rankOf ?_
      rw [gf.1]
      refine And.intro (fun q => ?_) (fun q => ?_)
      · have q := (nI_ltI (by omega) (by omega)).mp q
        rw [if_neg (by omega)] at h
        exact h T ⟨by rw [List.length_cons]; exact m1, ⟨m2, m3⟩, m4⟩ hO hf h46
      · have q : r ≤ gRk w := Nat.not_lt.mp (fun y => q (nI_lt y (by omega)))
        rw [if_pos q] at h
        have x46 : (xupd T 36 0 46 (T.1 36 0 46 - 1)).1 36 0 46 = nI W.length := ep
        have o2 : gOu row o (xupd T 36 0 46 (T.1 36 0 46 - 1)) := hO
        have w2 : gWr W (xupd T 36 0 46 (T.1 36 0 46 - 1)) := gWr.kp (S := T) W (fun j hj => rfl) m4
        have f2 : gRf row S (xupd T 36 0 46 (T.1 36 0 46 - 1)) := hf.tr ⟨fun k i j a b c d => if_neg (fun q => by obtain ⟨q1, q2, _⟩ := q; subst q1; subst q2; exact absurd a (by decide)), rfl⟩
        have g46 : ∀ j, ¬ j = 46 → (xupd T 36 0 46 (T.1 36 0 46 - 1)).1 36 0 j = S.1 36 0 j := fun j hj => (if_neg (fun q => hj q.2.1)).trans (h46 j hj)
        have m2' : (xupd T 36 0 46 (T.1 36 0 46 - 1)).1 68 0 W.length = gWm w := m2
        show V (D + 1) 0 0 m_M_settle 35 [some M0, some (.inl (nI row)), some (.inl (nI r))] [] (xupd T 36 0 46 (T.1 36 0 46 - 1)) Q
        generalize xupd T 36 0 46 (T.1 36 0 46 - 1) = U at x46 o2 w2 f2 g46 m2' ⊢
        refine V_go pk_170 [0] 60 ?_
        refine And.intro (by rw [x46]; exact vi (N := 200) (by omega)) ?_
        rw [x46, nI_clamp (show W.length < 2 ^ 31 by omega), m2']
        refine ct_M_add (c := -(nI w)) hr (by omega) o2 gf.2.2.2.1.symm (fun g => absurd g gf.2.2.2.2.1) (fun S' a1 a2 a3 a4 => ?_)
        refine ih (o ++ [-(nI w)]) S' (by rw [List.length_append, List.length_singleton]; omega) ⟨(a4 46).trans x46, gWr.kp W (fun j _ => a3 j) w2⟩ a1 (f2.tr a2) (fun j hj => (a4 j).trans (g46 j hj)) h
  refine ct_of (xmok_all (by decide)) rfl ?_
  exact loop W o S hl hM hO gRf.rf (fun _ _ => rfl) h
