/-! the class plans -/
def plD (S : xS) : PlD := (((S.1 1 0 2).toNatClampNeg, (S.1 31 0 7).toNatClampNeg, (S.1 31 0 8).toNatClampNeg), (fun q => !decide (S.1 9 10 q = -1)), (fun q g => (S.1 10 10 (4 * q + g)).toNatClampNeg), fun a b t => if cCross S a b (t / 30 % 12) = -1 then none else some (cCross S a b (t / 30 % 12)).toNatClampNeg)
theorem pc_ok {n0 np t P D h la : Nat} {S U S1 : xS} (hA : IA n0 S) (hC : IC np t U) (hnp : np ≤ 6) (e1 : S.1 1 0 2 = nI np) (fU : Fr (fl [9, 10]) S U) (hP : P < np) (hD : D < 4) (ht : t ≤ 9999) (hh : S.1 12 D 3 = nI h) (h99 : h ≤ 99) (hla : la ≤ 9999) (hPP : U.1 9 P P = nI t) (hl : lnR U S1 P D (nI t) (nI la)) : PCd (plD S1) S1 ∧ (plD S1).np = np ∧ (∀ q, q < 6 → (plD S1).kn q = true → ∀ g, g < 4 → ∃ c, c ≤ 99 ∧ S1.1 10 10 (4 * q + g) = nI c ∧ (plD S1).pr q g = c) ∧ S1.1 9 10 P = nI t ∧ (plD S1).kn P = true := by
  obtain ⟨l1, l2, ⟨l3, l4, l5, l6⟩, l7, l8, l9⟩ := hl
  obtain ⟨_, _, c3⟩ := hC
  have f1 : ∀ k i j, ¬ (k = 9 ∨ k = 10) → ¬ k = 31 → S1.1 k i j = S.1 k i j := fun k i j h1 h2 => (l1 k i j (fun q => h1 q.1) (fun q => h2 q.1)).trans (fU.1 k i j (by
    show List.elem (fk k j) [9, 10] = false
    cases hb : List.elem (fk k j) [9, 10] with
    | false => rfl
    | true =>
      have hm := List.elem_iff.mp hb
      have hm : fk k j = 9 ∨ fk k j = 10 := by simpa using hm
      exfalso
      unfold fk at hm
      cases hf : fo k with
      | true =>
        rw [hf] at hm
        have hm : 1000 * (k + 1) + j = 9 ∨ 1000 * (k + 1) + j = 10 := hm
        omega
      | false =>
        rw [hf] at hm
        exact h1 hm))
  have r2 : S1.1 1 0 2 = nI np := (f1 1 0 2 (by decide) (by decide)).trans e1
  have r7 : S1.1 31 0 7 = nI h := l5.trans ((fU.1 12 D 3 rfl).trans hh)
  have pw : ∀ q, q < 6 → ¬ S1.1 9 10 q = -1 → ∀ g, g < 4 → ∃ c, c ≤ 99 ∧ S1.1 10 10 (4 * q + g) = nI c := by
    intro q hq hn g hg
    rw [l9 q hq hn g hg]
    by_cases z : U.1 9 (D + 6) q < U.1 9 P q
    · rw [if_pos z]; exact (c3 P q (by omega) hq).2 g hg
    · rw [if_neg z]; exact (c3 (D + 6) q (by omega) hq).2 g hg
  have eP : S1.1 9 10 P = nI t := by
    rw [l8 P (by omega), hPP]
    rcases (c3 (D + 6) P (by omega) (by omega)).1 with e | ⟨_, c, hc, e⟩
    · rw [e, if_pos (Int32.lt_of_lt_of_le (show (-1 : Int32) < 0 by decide) (nI_pos' (by omega)))]
    · rw [e]
      by_cases z : c < t
      · rw [if_pos (nI_lt z (by omega))]
      · rw [if_neg (fun y => z ((nI_ltI (by omega) (by omega)).mp y)), show c = t by omega]
  have enp : (plD S1).np = np := by show (S1.1 1 0 2).toNatClampNeg = np; rw [r2]; exact nI_clamp (by omega)
  have ehd : (plD S1).hd = h := by show (S1.1 31 0 7).toNatClampNeg = h; rw [r7]; exact nI_clamp (by omega)
  have ela : (plD S1).la = la := by show (S1.1 31 0 8).toNatClampNeg = la; rw [l6]; exact nI_clamp (by omega)
  have ekn : ∀ q, (plD S1).kn q = true ↔ ¬ S1.1 9 10 q = -1 := fun q => by
    show (!decide (S1.1 9 10 q = -1)) = true ↔ _
    rw [Bool.not_eq_true', decide_eq_false_iff_not]
  have epr : ∀ q, q < 6 → (plD S1).kn q = true → ∀ g, g < 4 → ∃ c, c ≤ 99 ∧ S1.1 10 10 (4 * q + g) = nI c ∧ (plD S1).pr q g = c := by
    intro q hq k g hg
    obtain ⟨c, hc, e⟩ := pw q hq ((ekn q).mp k) g hg
    refine ⟨c, hc, e, ?_⟩
    show (S1.1 10 10 (4 * q + g)).toNatClampNeg = c
    rw [e]; exact nI_clamp (by omega)
  refine ⟨⟨⟨by omega, by omega, by omega⟩, by rw [enp]; exact r2, by rw [ehd]; exact r7, by rw [ela]; exact l6, fun q hq => ?_, fun q hq k g hg => ?_, fun a b y ha hb hy => ?_⟩, enp, epr, eP, (ekn P).mpr (by rw [eP]; exact nI_m (by omega))⟩
  · show _ ↔ (!decide (S1.1 9 10 q = -1)) = false
    rw [Bool.not_eq_false', decide_eq_true_iff]
  · obtain ⟨c, hc, e, e2⟩ := epr q hq k g hg
    rw [e2]; exact ⟨e, hc⟩
  · have ec : cCross S1 a b (y / 30 % 12) = cCross S a b (y / 30 % 12) := by
      unfold cCross
      rw [f1 4 a 0 (by decide) (by decide), f1 4 a 1 (by decide) (by decide), f1 4 b 0 (by decide) (by decide), f1 4 b 1 (by decide) (by decide), f1 3 0 (y / 30 % 12) (by decide) (by decide)]
    have ew : (plD S1).wy a b y = if cCross S1 a b (y / 30 % 12) = -1 then none else some (cCross S1 a b (y / 30 % 12)).toNatClampNeg := rfl
    rw [ew, ec]
    rcases way_eq hA ha hb (m := y / 30 % 12) (by omega) with ⟨q1, q2⟩ | ⟨c, _, hc, q1, q2⟩
    · exact Or.inl ⟨if_pos q1, q1⟩
    · refine Or.inr ⟨c, hc, ?_, q1⟩
      rw [q1, if_neg (nI_m (by omega)), nI_clamp (by omega)]
