theorem ct_Dhow_inPort {d i : Nat} {S : xS} {Q : xQ} (h : Q (some (.inl (if ¬ S.1 12 i 0 = -1 ∧ S.1 12 i 1 = -1 then 1 else 0))) S) : CT d 0 0 m_Dhow_inPort [.inr (.inr (12, i))] S Q := by
  refine ct_of (xmok_all (by decide)) rfl ?_
  refine V_go pk_1 [] 50 ?_
  apply And.intro
  · intro h1
    trace_state
    sorry
  · intro h1
    apply And.intro
    · trace_state
      sorry
    · sorry
theorem ct_Dhow_aboard {d i : Nat} {S : xS} {Q : xQ} (h : Q (some (.inl (S.1 13 i 0 + S.1 13 i 1 + S.1 13 i 2 + S.1 13 i 3))) S) : CT d 0 0 m_Dhow_aboard [.inr (.inr (12, i))] S Q := by
  refine ct_of (xmok_all (by decide)) rfl ?_
  refine V_go pk_0 [] 100 ?_
  apply And.intro
  · trace_state
    sorry
  · trace_state
    sorry
