/-! the model's value of a part -/
def encM (c : Int32) : Int32 := if 0 ≤ c then 200 else if 134 ≤ -c ∧ -c ≤ 139 then -c - 34 else if -c = 133 then 111 else if -c = 3 then 300 else if -c = 131 then 109 else if -c = 132 then 110 else -c
def okI_ (c : Int32) : Prop := 0 ≤ c ∨ (∃ k : Nat, 134 ≤ k ∧ k ≤ 139 ∧ -c = nI k) ∨ -c = 133 ∨ -c = 3 ∨ -c = 131 ∨ -c = 132 ∨ -c = 60 ∨ -c = 61 ∨ -c = 43 ∨ -c = 45 ∨ -c = 42
theorem ct_joined {d : Nat} {w k l r : Int32} {S : xS} {Q : xQ} (hw : (k = 131 ∧ w = 109) ∨ (k = 132 ∧ w = 110) ∨ (k = 60 ∧ w = 60) ∨ (k = 61 ∧ w = 61) ∨ (k = 43 ∧ w = 43) ∨ (k = 45 ∧ w = 45) ∨ (k = 42 ∧ w = 42)) (h : Q (some (.inl (joinP k l r))) S) : CT d 0 0 m_M_joined [.inl w, .inl l, .inl r] S Q := by
  rcases hw with ⟨rfl, rfl⟩ | ⟨rfl, rfl⟩ | ⟨rfl, rfl⟩ | ⟨rfl, rfl⟩ | ⟨rfl, rfl⟩ | ⟨rfl, rfl⟩ | ⟨rfl, rfl⟩
  · refine ct_of (xmok_all (by decide)) rfl (V_go (pc := 0) pk_151 [] 40 ?_)
    refine (And.intro (fun c0 => ?_) (fun c0 => (And.intro (fun c1 => ?_) (fun c1 => (And.intro (fun c2 => ?_) (fun c2 => (And.intro (fun c3 => ?_) (fun c3 => (And.intro (fun c4 => ?_) (fun c4 => (And.intro (fun c5 => ?_) (fun c5 => ?_))))))))))))
    · exact absurd c0 (by decide)
    · exact absurd c1 (by decide)
    · exact absurd c2 (by decide)
    · exact absurd c3 (by decide)
    · exact absurd c4 (by decide)
    · refine And.intro (fun q => ?_) (fun q => ?_)
      · refine qi h ?_ rfl
        show (1 : Int32) = if l = 0 then (if r = 0 then 0 else 1) else 1
        exact (if_neg q).symm
      · refine And.intro (fun q2 => ?_) (fun q2 => ?_)
        · refine qi h ?_ rfl
          show (0 : Int32) = if l = 0 then (if r = 0 then 0 else 1) else 1
          rw [if_pos q, if_pos q2]
        · refine qi h ?_ rfl
          show (1 : Int32) = if l = 0 then (if r = 0 then 0 else 1) else 1
          rw [if_pos q, if_neg q2]
    · exact absurd rfl c5
  · refine ct_of (xmok_all (by decide)) rfl (V_go (pc := 0) pk_151 [] 40 ?_)
    refine (And.intro (fun c0 => ?_) (fun c0 => (And.intro (fun c1 => ?_) (fun c1 => (And.intro (fun c2 => ?_) (fun c2 => (And.intro (fun c3 => ?_) (fun c3 => (And.intro (fun c4 => ?_) (fun c4 => (And.intro (fun c5 => ?_) (fun c5 => ?_))))))))))))
    · exact absurd c0 (by decide)
    · exact absurd c1 (by decide)
    · exact absurd c2 (by decide)
    · exact absurd c3 (by decide)
    · exact absurd c4 (by decide)
    · exact absurd c5 (by decide)
    · refine And.intro (fun q => ?_) (fun q => ?_)
      · refine qi h ?_ rfl
        show (0 : Int32) = if l = 0 then 0 else if r = 0 then 0 else 1
        exact (if_pos q).symm
      · refine And.intro (fun q2 => ?_) (fun q2 => ?_)
        · refine qi h ?_ rfl
          show (0 : Int32) = if l = 0 then 0 else if r = 0 then 0 else 1
          rw [if_neg q, if_pos q2]
        · refine qi h ?_ rfl
          show (1 : Int32) = if l = 0 then 0 else if r = 0 then 0 else 1
          rw [if_neg q, if_neg q2]
  · refine ct_of (xmok_all (by decide)) rfl (V_go (pc := 0) pk_151 [] 40 ?_)
    refine (And.intro (fun c0 => ?_) (fun c0 => (And.intro (fun c1 => ?_) (fun c1 => (And.intro (fun c2 => ?_) (fun c2 => (And.intro (fun c3 => ?_) (fun c3 => (And.intro (fun c4 => ?_) (fun c4 => (And.intro (fun c5 => ?_) (fun c5 => ?_))))))))))))
    · exact absurd c0 (by decide)
    · exact absurd c1 (by decide)
    · exact absurd c2 (by decide)
    · refine And.intro (fun q => ?_) (fun q => ?_)
      · refine qi h ?_ rfl
        show (0 : Int32) = if l < r then 1 else 0
        exact (if_neg (Int32.not_lt.mpr q)).symm
      · refine qi h ?_ rfl
        show (1 : Int32) = if l < r then 1 else 0
        exact (if_pos (Int32.not_le.mp q)).symm
    · exact absurd rfl c3
    · exact absurd rfl c3
    · exact absurd rfl c3
  · refine ct_of (xmok_all (by decide)) rfl (V_go (pc := 0) pk_151 [] 40 ?_)
    refine (And.intro (fun c0 => ?_) (fun c0 => (And.intro (fun c1 => ?_) (fun c1 => (And.intro (fun c2 => ?_) (fun c2 => (And.intro (fun c3 => ?_) (fun c3 => (And.intro (fun c4 => ?_) (fun c4 => (And.intro (fun c5 => ?_) (fun c5 => ?_))))))))))))
    · exact absurd c0 (by decide)
    · exact absurd c1 (by decide)
    · exact absurd c2 (by decide)
    · exact absurd c3 (by decide)
    · refine And.intro (fun q => ?_) (fun q => ?_)
      · refine qi h ?_ rfl
        show (0 : Int32) = if l = r then 1 else 0
        exact (if_neg q).symm
      · refine qi h ?_ rfl
        show (1 : Int32) = if l = r then 1 else 0
        exact (if_pos q).symm
    · exact absurd rfl c4
    · exact absurd rfl c4
  · refine ct_of (xmok_all (by decide)) rfl (V_go (pc := 0) pk_151 [] 40 ?_)
    refine (And.intro (fun c0 => ?_) (fun c0 => (And.intro (fun c1 => ?_) (fun c1 => (And.intro (fun c2 => ?_) (fun c2 => (And.intro (fun c3 => ?_) (fun c3 => (And.intro (fun c4 => ?_) (fun c4 => (And.intro (fun c5 => ?_) (fun c5 => ?_))))))))))))
    · exact absurd c0 (by decide)
    · exact h
    · exact absurd rfl c1
    · exact absurd rfl c1
    · exact absurd rfl c1
    · exact absurd rfl c1
    · exact absurd rfl c1
  · refine ct_of (xmok_all (by decide)) rfl (V_go (pc := 0) pk_151 [] 40 ?_)
    refine (And.intro (fun c0 => ?_) (fun c0 => (And.intro (fun c1 => ?_) (fun c1 => (And.intro (fun c2 => ?_) (fun c2 => (And.intro (fun c3 => ?_) (fun c3 => (And.intro (fun c4 => ?_) (fun c4 => (And.intro (fun c5 => ?_) (fun c5 => ?_))))))))))))
    · exact absurd c0 (by decide)
    · exact absurd c1 (by decide)
    · exact h
    · exact absurd rfl c2
    · exact absurd rfl c2
    · exact absurd rfl c2
    · exact absurd rfl c2
  · refine ct_of (xmok_all (by decide)) rfl (V_go (pc := 0) pk_151 [] 40 ?_)
    refine (And.intro (fun c0 => ?_) (fun c0 => (And.intro (fun c1 => ?_) (fun c1 => (And.intro (fun c2 => ?_) (fun c2 => (And.intro (fun c3 => ?_) (fun c3 => (And.intro (fun c4 => ?_) (fun c4 => (And.intro (fun c5 => ?_) (fun c5 => ?_))))))))))))
    · exact h
    · exact absurd rfl c0
    · exact absurd rfl c0
    · exact absurd rfl c0
    · exact absurd rfl c0
    · exact absurd rfl c0
    · exact absurd rfl c0
def rpM (S : xS) (w : (Nat → Int32) × Nat) : Prop := ∀ j, j < w.2 → S.1 69 0 j = w.1 j
theorem rpM_push {S : xS} {st : Nat → Int32} {n : Nat} {x : Int32} (h : ∀ j, j < n → S.1 69 0 j = st j) : rpM (xupd S 69 0 n x) (uf st n x, n + 1) := by
  intro j hj
  show (if 69 = 69 ∧ j = n ∧ 0 = 0 then x else S.1 69 0 j) = if j = n then x else st j
  by_cases e : j = n
  · rw [if_pos ⟨rfl, e, rfl⟩, if_pos e]
  · rw [if_neg (fun g => e g.2.1), if_neg e]
    have hj : j < n + 1 := hj
    exact h j (by omega)
