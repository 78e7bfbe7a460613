/-! talking, word by word -/
theorem cpM_51 (S : xS) (t f : Nat) : ∀ g w, (cpM S t f g).1 51 0 w = S.1 51 0 w
  | 0, _ => rfl
  | g + 1, w => cpM_51 S t f g w
theorem cpM_52 {S : xS} {t f : Nat} (h : t ≠ f) : ∀ g j, g ≤ 4 → (cpM S t f g).1 52 0 j = if j / 4 = t ∧ j % 4 < g then S.1 52 0 (4 * f + j % 4) else S.1 52 0 j
  | 0, j, _ => by rw [if_neg (fun q => absurd q.2 (by omega))]; rfl
  | g + 1, j, hg => by
    show (if 52 = 52 ∧ j = 4 * t + g ∧ 0 = 0 then (cpM S t f g).1 52 0 (4 * f + g) else (cpM S t f g).1 52 0 j) = _
    by_cases c : j = 4 * t + g
    · rw [if_pos ⟨rfl, c, rfl⟩, cpM_52 h g _ (by omega), if_neg (fun q => by omega), if_pos (by omega), show j % 4 = g by omega]
    · rw [if_neg (fun q => c q.2.1), cpM_52 h g _ (by omega)]
      by_cases c2 : j / 4 = t ∧ j % 4 < g
      · rw [if_pos c2, if_pos (by omega)]
      · rw [if_neg c2, if_neg (by omega)]
theorem mh_51 (S : xS) (t f : Nat) (w : Nat) : (mh S t f).1 51 0 w = if w = t ∧ S.1 51 0 t < S.1 51 0 f then S.1 51 0 f else S.1 51 0 w := by
  unfold mh
  by_cases c : S.1 51 0 t < S.1 51 0 f
  · rw [if_pos c, cpM_51]
    show (if 51 = 51 ∧ w = t ∧ 0 = 0 then S.1 51 0 f else S.1 51 0 w) = _
    by_cases e : w = t
    · rw [if_pos ⟨rfl, e, rfl⟩, if_pos ⟨e, c⟩]
    · rw [if_neg (fun q => e q.2.1), if_neg (fun q => e q.1)]
  · rw [if_neg c, if_neg (fun q => c q.2)]
theorem mh_52 {S : xS} {t f : Nat} (h : t ≠ f) (j : Nat) : (mh S t f).1 52 0 j = if j / 4 = t ∧ S.1 51 0 t < S.1 51 0 f then S.1 52 0 (4 * f + j % 4) else S.1 52 0 j := by
  unfold mh
  by_cases c : S.1 51 0 t < S.1 51 0 f
  · rw [if_pos c, cpM_52 h 4 j (by omega)]
    show (if j / 4 = t ∧ j % 4 < 4 then S.1 52 0 (4 * f + j % 4) else S.1 52 0 j) = _
    by_cases e : j / 4 = t
    · rw [if_pos ⟨e, by omega⟩, if_pos ⟨e, c⟩]
    · rw [if_neg (fun q => e q.1), if_neg (fun q => e q.1)]
  · rw [if_neg c, if_neg (fun q => c q.2)]
/-- the word's place of the dhow D, of the port P -/
abbrev pm (D q : Nat) : Nat := 36 + 6 * D + q
abbrev pi (P q : Nat) : Nat := 6 * P + q
theorem tk_spec {S : xS} {P D : Nat} (hP : P < 6) (hD : D < 4) : ∀ m, m ≤ 6 → (∀ q, q < 6 → ((tkM S P D m).1 51 0 (pm D q) = if q < m ∧ S.1 51 0 (pm D q) < S.1 51 0 (pi P q) then S.1 51 0 (pi P q) else S.1 51 0 (pm D q)) ∧ ((tkM S P D m).1 51 0 (pi P q) = if q < m ∧ S.1 51 0 (pi P q) < S.1 51 0 (pm D q) then S.1 51 0 (pm D q) else S.1 51 0 (pi P q)) ∧ ∀ g, g < 4 → ((tkM S P D m).1 52 0 (4 * pm D q + g) = if q < m ∧ S.1 51 0 (pm D q) < S.1 51 0 (pi P q) then S.1 52 0 (4 * pi P q + g) else S.1 52 0 (4 * pm D q + g)) ∧ ((tkM S P D m).1 52 0 (4 * pi P q + g) = if q < m ∧ S.1 51 0 (pi P q) < S.1 51 0 (pm D q) then S.1 52 0 (4 * pm D q + g) else S.1 52 0 (4 * pi P q + g))) ∧ (∀ w, (∀ q, q < 6 → w ≠ pm D q ∧ w ≠ pi P q) → (tkM S P D m).1 51 0 w = S.1 51 0 w ∧ ∀ g, g < 4 → (tkM S P D m).1 52 0 (4 * w + g) = S.1 52 0 (4 * w + g))
  | 0, _ => ⟨fun q hq => ⟨by rw [if_neg (fun g => absurd g.1 (by omega))]; rfl, by rw [if_neg (fun g => absurd g.1 (by omega))]; rfl, fun g hg => ⟨by rw [if_neg (fun g => absurd g.1 (by omega))]; rfl, by rw [if_neg (fun g => absurd g.1 (by omega))]; rfl⟩⟩, fun w hw => ⟨rfl, fun g hg => rfl⟩⟩
  | m + 1, hm => by
    obtain ⟨ih, ihw⟩ := tk_spec (S := S) hP hD m (by omega)
    have e1 : (tkM S P D m).1 51 0 (pm D m) = S.1 51 0 (pm D m) := by rw [(ih m (by omega)).1, if_neg (fun g => absurd g.1 (by omega))]
    have e2 : (tkM S P D m).1 51 0 (pi P m) = S.1 51 0 (pi P m) := by rw [(ih m (by omega)).2.1, if_neg (fun g => absurd g.1 (by omega))]
    have e3 : ∀ g, g < 4 → (tkM S P D m).1 52 0 (4 * pm D m + g) = S.1 52 0 (4 * pm D m + g) := fun g hg => by rw [((ih m (by omega)).2.2 g hg).1, if_neg (fun g => absurd g.1 (by omega))]
    have e4 : ∀ g, g < 4 → (tkM S P D m).1 52 0 (4 * pi P m + g) = S.1 52 0 (4 * pi P m + g) := fun g hg => by rw [((ih m (by omega)).2.2 g hg).2, if_neg (fun g => absurd g.1 (by omega))]
    have hpm : ∀ a b, pm D a = pm D b → a = b := fun a b h => by
      have h : 36 + 6 * D + a = 36 + 6 * D + b := h
      omega
    have hpi : ∀ a b, pi P a = pi P b → a = b := fun a b h => by
      have h : 6 * P + a = 6 * P + b := h
      omega
    have hx : ∀ a b, a < 6 → pi P a ≠ pm D b := fun a b ha h => by
      have h : 6 * P + a = 36 + 6 * D + b := h
      omega
    have hne : pm D m ≠ pi P m := by show 36 + 6 * D + m ≠ 6 * P + m; omega
    by_cases c : S.1 51 0 (pm D m) < S.1 51 0 (pi P m)
    · have et : tkM S P D (m + 1) = mh (tkM S P D m) (pm D m) (pi P m) := if_pos (by rw [e1, e2]; exact c)
      rw [et]
      have c' : ¬ S.1 51 0 (pi P m) < S.1 51 0 (pm D m) := fun q => Int32.lt_irrefl (Int32.lt_trans c q)
      refine ⟨fun q hq => ⟨?_, ?_, fun g hg => ⟨?_, ?_⟩⟩, fun w hw => ⟨?_, fun g hg => ?_⟩⟩
      · rw [mh_51, e1, e2]
        by_cases e : q = m
        · subst e; rw [if_pos ⟨rfl, c⟩, if_pos ⟨by omega, c⟩]
        · rw [if_neg (fun g => e (hpm _ _ g.1)), (ih q hq).1]
          by_cases c2 : q < m ∧ S.1 51 0 (pm D q) < S.1 51 0 (pi P q)
          · rw [if_pos c2, if_pos ⟨by omega, c2.2⟩]
          · rw [if_neg c2, if_neg (fun g => c2 ⟨by omega, g.2⟩)]
      · rw [mh_51, if_neg (fun g => hx _ _ hq g.1), (ih q hq).2.1]
        by_cases e : q = m
        · subst e; rw [if_neg (fun g => absurd g.1 (by omega)), if_neg (fun g => c' g.2)]
        · by_cases c2 : q < m ∧ S.1 51 0 (pi P q) < S.1 51 0 (pm D q)
          · rw [if_pos c2, if_pos ⟨by omega, c2.2⟩]
          · rw [if_neg c2, if_neg (fun g => c2 ⟨by omega, g.2⟩)]
      · rw [mh_52 hne, e1, e2, show (4 * pm D q + g) / 4 = pm D q by omega, show (4 * pm D q + g) % 4 = g by omega]
        by_cases e : q = m
        · subst e; rw [if_pos ⟨rfl, c⟩, if_pos ⟨by omega, c⟩, e4 g hg]
        · rw [if_neg (fun g => e (hpm _ _ g.1)), ((ih q hq).2.2 g hg).1]
          by_cases c2 : q < m ∧ S.1 51 0 (pm D q) < S.1 51 0 (pi P q)
          · rw [if_pos c2, if_pos ⟨by omega, c2.2⟩]
          · rw [if_neg c2, if_neg (fun g => c2 ⟨by omega, g.2⟩)]
      · rw [mh_52 hne, show (4 * pi P q + g) / 4 = pi P q by omega, if_neg (fun g => hx _ _ hq g.1), ((ih q hq).2.2 g hg).2]
        by_cases e : q = m
        · subst e; rw [if_neg (fun g => absurd g.1 (by omega)), if_neg (fun g => c' g.2)]
        · by_cases c2 : q < m ∧ S.1 51 0 (pi P q) < S.1 51 0 (pm D q)
          · rw [if_pos c2, if_pos ⟨by omega, c2.2⟩]
          · rw [if_neg c2, if_neg (fun g => c2 ⟨by omega, g.2⟩)]
      · rw [mh_51, if_neg (fun g => (hw m (by omega)).1 g.1)]; exact (ihw w hw).1
      · rw [mh_52 hne, show (4 * w + g) / 4 = w by omega, if_neg (fun g => (hw m (by omega)).1 g.1)]; exact (ihw w hw).2 g hg
    · have et : tkM S P D (m + 1) = mh (tkM S P D m) (pi P m) (pm D m) := if_neg (by rw [e1, e2]; exact c)
      rw [et]
      refine ⟨fun q hq => ⟨?_, ?_, fun g hg => ⟨?_, ?_⟩⟩, fun w hw => ⟨?_, fun g hg => ?_⟩⟩
      · rw [mh_51, if_neg (fun g => hx _ _ (by omega) g.1.symm), (ih q hq).1]
        by_cases e : q = m
        · subst e; rw [if_neg (fun g => absurd g.1 (by omega)), if_neg (fun g => c g.2)]
        · by_cases c2 : q < m ∧ S.1 51 0 (pm D q) < S.1 51 0 (pi P q)
          · rw [if_pos c2, if_pos ⟨by omega, c2.2⟩]
          · rw [if_neg c2, if_neg (fun g => c2 ⟨by omega, g.2⟩)]
      · rw [mh_51, e1, e2]
        by_cases e : q = m
        · subst e
          by_cases c3 : S.1 51 0 (pi P q) < S.1 51 0 (pm D q)
          · rw [if_pos ⟨rfl, c3⟩, if_pos ⟨by omega, c3⟩]
          · rw [if_neg (fun g => c3 g.2), if_neg (fun g => c3 g.2), e2]
        · rw [if_neg (fun g => e (hpi _ _ g.1)), (ih q hq).2.1]
          by_cases c2 : q < m ∧ S.1 51 0 (pi P q) < S.1 51 0 (pm D q)
          · rw [if_pos c2, if_pos ⟨by omega, c2.2⟩]
          · rw [if_neg c2, if_neg (fun g => c2 ⟨by omega, g.2⟩)]
      · rw [mh_52 (Ne.symm hne), show (4 * pm D q + g) / 4 = pm D q by omega, if_neg (fun g => hx _ _ (by omega) g.1.symm), ((ih q hq).2.2 g hg).1]
        by_cases e : q = m
        · subst e; rw [if_neg (fun g => absurd g.1 (by omega)), if_neg (fun g => c g.2)]
        · by_cases c2 : q < m ∧ S.1 51 0 (pm D q) < S.1 51 0 (pi P q)
          · rw [if_pos c2, if_pos ⟨by omega, c2.2⟩]
          · rw [if_neg c2, if_neg (fun g => c2 ⟨by omega, g.2⟩)]
      · rw [mh_52 (Ne.symm hne), e1, e2, show (4 * pi P q + g) / 4 = pi P q by omega, show (4 * pi P q + g) % 4 = g by omega]
        by_cases e : q = m
        · subst e
          by_cases c3 : S.1 51 0 (pi P q) < S.1 51 0 (pm D q)
          · rw [if_pos ⟨rfl, c3⟩, if_pos ⟨by omega, c3⟩, e3 g hg]
          · rw [if_neg (fun g => c3 g.2), if_neg (fun g => c3 g.2), e4 g hg]
        · rw [if_neg (fun g => e (hpi _ _ g.1)), ((ih q hq).2.2 g hg).2]
          by_cases c2 : q < m ∧ S.1 51 0 (pi P q) < S.1 51 0 (pm D q)
          · rw [if_pos c2, if_pos ⟨by omega, c2.2⟩]
          · rw [if_neg c2, if_neg (fun g => c2 ⟨by omega, g.2⟩)]
      · rw [mh_51, if_neg (fun g => (hw m (by omega)).2 g.1)]; exact (ihw w hw).1
      · rw [mh_52 (Ne.symm hne), show (4 * w + g) / 4 = w by omega, if_neg (fun g => (hw m (by omega)).2 g.1)]; exact (ihw w hw).2 g hg
