theorem IB.dhow {n np nd t : Nat} {S : xS} (h : IB n np nd t S) (hnd : nd < 4) {p hh c : Int32} (ok : okDhow np p hh c) : IB n np (nd + 1) t (xupd (xupd (xupd (xupd (xupd (xupd (xupd (xupd (xupd (xupd S 12 nd 0 p) 12 nd 3 hh) 12 nd 4 c) 0 0 9 (nI (nd + 1))) 43 0 nd p) 44 0 nd (-1)) 45 0 nd hh) 46 0 nd c) 47 0 nd (-1)) 36 0 8 (nI (nd + 1))) := by
  obtain ⟨⟨P, hP, e1⟩, ⟨H, h1, h2, e2⟩, ⟨C, h3, h4, e3⟩⟩ := ok
  subst e1; subst e2; subst e3
  intro d hd
  by_cases e : d = nd
  · subst e
    refine ⟨fun _ => ?_, fun q => absurd q (by omega)⟩
    obtain ⟨f0, f1, f2, f6, f7, fg, m49, m48⟩ := (h d hd).2 (Nat.le_refl _)
    refine ⟨⟨?_, ?_, ?_, ?_, ?_, ?_⟩, Or.inl ⟨?_, P, hP, ?_, ?_⟩, Or.inl ?_, ⟨H, fun _ => 0, ⟨h1, h2⟩, ?_, fun g hg => ⟨?_, ?_⟩, by show 0 + 0 + 0 + 0 ≤ H; omega⟩, ⟨C, by omega, ?_⟩, Or.inl ?_, 0, by omega, ?_⟩ <;> simp (decide := true) only [xu, true_and, false_and, and_true, and_false, if_true, if_false, m49, m48, f0, f1, f2, f6, f7]
    · exact (fg g hg).1
    · exact (fg g hg).2
  · refine ⟨fun q => ?_, fun q => ?_⟩
    · have := (h d hd).1 (by omega)
      unfold IBl at this ⊢
      simp (decide := true) only [xu, true_and, false_and, and_true, and_false, if_true, if_false, e]
      exact this
    · have := (h d hd).2 (by omega)
      unfold IBf at this ⊢
      simp (decide := true) only [xu, true_and, false_and, and_true, and_false, if_true, if_false, e]
      exact this
theorem cm_dhow {dp n np nd nv nt r t : Nat} {S : xS} (hN : IN np nd nv nt r t S) (hB : IB n np nd t S) {p h c : Int32} : CT (dp + 3) 0 0 m_C_dhow [C0, .inl p, .inl h, .inl c] S (fun a S1 => CT (dp + 3) 0 0 m_M_dhow [M0, .inl p, .inl h, .inl c] S1 (fun a' S2 => a' = a ∧ (∃ nd', nd ≤ nd' ∧ IN np nd' nv nt r t S2 ∧ IB n np nd' t S2) ∧ Fr (fl [13000, 13003, 13004, 1009, 43, 44, 45, 46, 47, 37008]) S S2)) := by
  obtain ⟨⟨b1, b2, b3⟩, ⟨e1, e2⟩, ⟨e3, e4⟩, e5⟩ := id hN
  refine ct_C_dhow e1 e3 b1 b2 (fun q => ?_) (fun q q4 => ?_) (fun q q4 => ?_)
  · exact ct_M_dhow e2 e4 b1 b2 (fun _ => ⟨rfl, ⟨nd, Nat.le_refl _, hN, hB⟩, Fr.rf⟩) (fun g => absurd g q) (fun g => absurd g q)
  · exact ct_M_dhow e2 e4 b1 b2 (fun g => absurd q g) (fun _ _ => ⟨rfl, ⟨nd, Nat.le_refl _, hN, hB⟩, Fr.rf⟩) (fun _ g => absurd g (by omega))
  · refine ct_M_dhow (np := np) (nd := nd) (by simp (decide := true) only [xu, true_and, false_and, and_true, and_false, if_true, if_false]; exact e2) (by simp (decide := true) only [xu, true_and, false_and, and_true, and_false, if_true, if_false]; exact e4) b1 b2 (fun g => absurd q g) (fun _ g => absurd g (by omega)) (fun _ _ => ⟨rfl, ⟨nd + 1, Nat.le_succ _, ?_, hB.dhow q4 q⟩, ?_⟩)
    · exact ⟨⟨b1, by omega, b3⟩, ⟨e1, e2⟩, ⟨rfl, rfl⟩, e5⟩
    · exact (((((((((Fr.rf.up rfl).up rfl).up rfl).up rfl).up rfl).up rfl).up rfl).up rfl).up rfl).up rfl
