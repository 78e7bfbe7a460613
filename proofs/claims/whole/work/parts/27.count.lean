/-! count -/
def cntA (f : Nat → Int32) (a b : Int32) : Nat → Int32
  | 0 => 0
  | m + 1 => cntA f a b m + (if f m = 0 then a else b)
theorem ct_lostDhows {d nd : Nat} {S : xS} {Q : xQ} (e3 : S.1 0 0 9 = nI nd) (b : nd ≤ 4) (h : Q (some (.inl (cntA (fun i => S.1 12 i 2) 0 1 nd))) S) : CT d 0 0 m_C_lostDhows [.inr (.inr (0, 0))] S Q := by
  have loop : ∀ m j, j + m = nd → V d 0 0 m_C_lostDhows 4 [some C0, some (.inl (cntA (fun i => S.1 12 i 2) 0 1 j)), some (.inl (nI j))] [] S Q := by
    intro m
    induction m with
    | zero =>
      intro j hj
      obtain rfl : j = nd := by omega
      refine V_go pk_113 [4] 40 ?_
      refine And.intro (fun _ => h) (fun q => absurd ?_ q)
      show S.1 0 0 9 ≤ nI j
      rw [e3]; exact Int32.le_refl _
    | succ m ih =>
      intro j hj
      have ih := ih (j + 1) (by omega)
      have e : cntA (fun i => S.1 12 i 2) 0 1 (j + 1) = cntA (fun i => S.1 12 i 2) 0 1 j + (if S.1 12 j 2 = 0 then 0 else 1) := rfl
      rw [e] at ih
      refine V_go pk_113 [4] 40 ?_
      refine And.intro (fun q => ?_) (fun _ => ?_)
      · have q : S.1 0 0 9 ≤ nI j := q
        rw [e3] at q
        exact absurd ((nI_leI (by omega) (by omega)).mp q) (by omega)
      · refine And.intro (vi (N := 4) (by omega)) ?_
        refine And.intro (fun c => ?_) (fun c => ?_)
        · have c : S.1 12 (nI j).toNatClampNeg 2 = 0 := c
          rw [nI_clamp (show j < 2 ^ 31 by omega)] at c
          rw [if_pos c, Int32.add_zero] at ih
          show V d 0 0 m_C_lostDhows 4 [some C0, some (.inl (cntA (fun i => S.1 12 i 2) 0 1 j)), some (.inl (nI j + 1))] [] S Q
          rw [nI_1]; exact ih
        · have c : ¬ S.1 12 (nI j).toNatClampNeg 2 = 0 := c
          rw [nI_clamp (show j < 2 ^ 31 by omega)] at c
          rw [if_neg c] at ih
          show V d 0 0 m_C_lostDhows 4 [some C0, some (.inl (cntA (fun i => S.1 12 i 2) 0 1 j + 1)), some (.inl (nI j + 1))] [] S Q
          rw [nI_1]; exact ih
  refine ct_of (xmok_all (by decide)) rfl (V_go (pc := 0) pk_113 [4] 20 ?_)
  exact loop nd 0 (by omega)
theorem ct_openVentures {d nv : Nat} {S : xS} {Q : xQ} (e3 : S.1 0 0 10 = nI nv) (b : nv ≤ 16) (h : Q (some (.inl (cntA (fun i => S.1 15 i 7) 1 0 nv))) S) : CT d 0 0 m_C_openVentures [.inr (.inr (0, 0))] S Q := by
  have loop : ∀ m j, j + m = nv → V d 0 0 m_C_openVentures 4 [some C0, some (.inl (cntA (fun i => S.1 15 i 7) 1 0 j)), some (.inl (nI j))] [] S Q := by
    intro m
    induction m with
    | zero =>
      intro j hj
      obtain rfl : j = nv := by omega
      refine V_go pk_114 [4] 40 ?_
      refine And.intro (fun _ => h) (fun q => absurd ?_ q)
      show S.1 0 0 10 ≤ nI j
      rw [e3]; exact Int32.le_refl _
    | succ m ih =>
      intro j hj
      have ih := ih (j + 1) (by omega)
      have e : cntA (fun i => S.1 15 i 7) 1 0 (j + 1) = cntA (fun i => S.1 15 i 7) 1 0 j + (if S.1 15 j 7 = 0 then 1 else 0) := rfl
      rw [e] at ih
      refine V_go pk_114 [4] 40 ?_
      refine And.intro (fun q => ?_) (fun _ => ?_)
      · have q : S.1 0 0 10 ≤ nI j := q
        rw [e3] at q
        exact absurd ((nI_leI (by omega) (by omega)).mp q) (by omega)
      · refine And.intro (vi (N := 16) (by omega)) ?_
        refine And.intro (fun c => ?_) (fun c => ?_)
        · have c : ¬ S.1 15 (nI j).toNatClampNeg 7 = 0 := c
          rw [nI_clamp (show j < 2 ^ 31 by omega)] at c
          rw [if_neg c, Int32.add_zero] at ih
          show V d 0 0 m_C_openVentures 4 [some C0, some (.inl (cntA (fun i => S.1 15 i 7) 1 0 j)), some (.inl (nI j + 1))] [] S Q
          rw [nI_1]; exact ih
        · have c : S.1 15 (nI j).toNatClampNeg 7 = 0 := c
          rw [nI_clamp (show j < 2 ^ 31 by omega)] at c
          rw [if_pos c] at ih
          show V d 0 0 m_C_openVentures 4 [some C0, some (.inl (cntA (fun i => S.1 15 i 7) 1 0 j + 1)), some (.inl (nI j + 1))] [] S Q
          rw [nI_1]; exact ih
  refine ct_of (xmok_all (by decide)) rfl (V_go (pc := 0) pk_114 [4] 20 ?_)
  exact loop nv 0 (by omega)
def kC (S : xS) (nd nv : Nat) (w : Int32) : Int32 := if w = 0 then S.1 1 0 2 else if w = 1 then S.1 0 0 9 else if w = 2 then S.1 0 0 10 else if w = 3 then S.1 0 0 11 else if w = 4 then S.1 23 0 1 else if w = 5 then S.1 0 0 13 else if w = 6 then S.1 0 0 12 else if w = 7 then cntA (fun i => S.1 12 i 2) 0 1 nd else if w = 8 then cntA (fun i => S.1 15 i 7) 1 0 nv else -2
def kM (S : xS) (nd nv : Nat) (w : Int32) : Int32 := if w = 0 then S.1 36 0 1 else if w = 1 then S.1 36 0 8 else if w = 2 then S.1 36 0 19 else if w = 3 then S.1 36 0 33 else if w = 4 then S.1 36 0 32 else if w = 5 then S.1 36 0 0 else if w = 6 then S.1 36 0 34 else if w = 7 then cntA (fun i => S.1 49 0 i) 0 1 nd else if w = 8 then cntA (fun i => S.1 58 0 i) 1 0 nv else -2
theorem ct_C_count {d nd nv : Nat} {w : Int32} {S : xS} {Q : xQ} (e3 : S.1 0 0 9 = nI nd) (e4 : S.1 0 0 10 = nI nv) (b : nd ≤ 4) (b2 : nv ≤ 16) (hk : Q (some (.inl (kC S nd nv w))) S) : CT (d + 3) 0 0 m_C_count [C0, .inl w] S Q := by
  refine ct_of (xmok_all (by decide)) rfl (V_go (pc := 0) pk_112 [] 60 ?_)
  refine (And.intro (fun c0 => ?_) (fun c0 => (And.intro (fun c1 => ?_) (fun c1 => (And.intro (fun c2 => ?_) (fun c2 => (And.intro (fun c3 => ?_) (fun c3 => (And.intro (fun c4 => ?_) (fun c4 => (And.intro (fun c5 => ?_) (fun c5 => (And.intro (fun c6 => ?_) (fun c6 => (And.intro (fun c7 => ?_) (fun c7 => (And.intro (fun c8 => ?_) (fun c8 => ?_))))))))))))))))))
  · subst c0; exact qi hk rfl rfl
  · subst c1; exact qi hk rfl rfl
  · subst c2; exact qi hk rfl rfl
  · subst c3; exact qi hk rfl rfl
  · subst c4; exact qi hk rfl rfl
  · subst c5; exact qi hk rfl rfl
  · subst c6; exact qi hk rfl rfl
  · subst c7; exact ct_lostDhows e3 b (qi hk rfl rfl)
  · subst c8; exact ct_openVentures e4 b2 (qi hk rfl rfl)
  · refine qi hk ?_ rfl
    show (-2 : Int32) = _
    unfold kC
    rw [if_neg c0, if_neg c1, if_neg c2, if_neg c3, if_neg c4, if_neg c5, if_neg c6, if_neg c7, if_neg c8]
theorem ct_M_count {d nd nv : Nat} {w : Int32} {S : xS} {Q : xQ} (e3 : S.1 36 0 8 = nI nd) (e4 : S.1 36 0 19 = nI nv) (b : nd ≤ 4) (b2 : nv ≤ 16) (hk : Q (some (.inl (kM S nd nv w))) S) : CT (d + 3) 0 0 m_M_count [M0, .inl w] S Q := by
  have loop1 : Q (some (.inl (cntA (fun i => S.1 49 0 i) 0 1 nd))) S → ∀ m j, j + m = nd → V (d + 3) 0 0 m_M_count 89 [some M0, some (.inl w), some (.inl (cntA (fun i => S.1 49 0 i) 0 1 j)), some (.inl (nI j))] [] S Q := by
    intro hq m
    induction m with
    | zero =>
      intro j hj
      obtain rfl : j = nd := by omega
      refine V_go pk_182 [89] 40 ?_
      refine And.intro (fun _ => hq) (fun q => absurd ?_ q)
      show S.1 36 0 8 ≤ nI j
      rw [e3]; exact Int32.le_refl _
    | succ m ih =>
      intro j hj
      have ih := ih (j + 1) (by omega)
      have e : cntA (fun i => S.1 49 0 i) 0 1 (j + 1) = cntA (fun i => S.1 49 0 i) 0 1 j + (if S.1 49 0 j = 0 then 0 else 1) := rfl
      rw [e] at ih
      refine V_go pk_182 [89] 40 ?_
      refine And.intro (fun q => ?_) (fun _ => ?_)
      · have q : S.1 36 0 8 ≤ nI j := q
        rw [e3] at q
        exact absurd ((nI_leI (by omega) (by omega)).mp q) (by omega)
      · refine And.intro (vi (N := 4) (by omega)) ?_
        refine And.intro (fun c => ?_) (fun c => ?_)
        · have c : S.1 49 0 (nI j).toNatClampNeg = 0 := c
          rw [nI_clamp (show j < 2 ^ 31 by omega)] at c
          rw [if_pos c] at ih
          show V (d + 3) 0 0 m_M_count 89 [some M0, some (.inl w), some (.inl (cntA (fun i => S.1 49 0 i) 0 1 j + 0)), some (.inl (nI j + 1))] [] S Q
          rw [nI_1]; exact ih
        · have c : ¬ S.1 49 0 (nI j).toNatClampNeg = 0 := c
          rw [nI_clamp (show j < 2 ^ 31 by omega)] at c
          rw [if_neg c] at ih
          show V (d + 3) 0 0 m_M_count 89 [some M0, some (.inl w), some (.inl (cntA (fun i => S.1 49 0 i) 0 1 j + 1)), some (.inl (nI j + 1))] [] S Q
          rw [nI_1]; exact ih
  have loop2 : Q (some (.inl (cntA (fun i => S.1 58 0 i) 1 0 nv))) S → ∀ m j, j + m = nv → V (d + 3) 0 0 m_M_count 124 [some M0, some (.inl w), some (.inl (cntA (fun i => S.1 58 0 i) 1 0 j)), some (.inl (nI j))] [] S Q := by
    intro hq m
    induction m with
    | zero =>
      intro j hj
      obtain rfl : j = nv := by omega
      refine V_go pk_182 [124] 40 ?_
      refine And.intro (fun _ => hq) (fun q => absurd ?_ q)
      show S.1 36 0 19 ≤ nI j
      rw [e4]; exact Int32.le_refl _
    | succ m ih =>
      intro j hj
      have ih := ih (j + 1) (by omega)
      have e : cntA (fun i => S.1 58 0 i) 1 0 (j + 1) = cntA (fun i => S.1 58 0 i) 1 0 j + (if S.1 58 0 j = 0 then 1 else 0) := rfl
      rw [e] at ih
      refine V_go pk_182 [124] 40 ?_
      refine And.intro (fun q => ?_) (fun _ => ?_)
      · have q : S.1 36 0 19 ≤ nI j := q
        rw [e4] at q
        exact absurd ((nI_leI (by omega) (by omega)).mp q) (by omega)
      · refine And.intro (vi (N := 16) (by omega)) ?_
        refine And.intro (fun c => ?_) (fun c => ?_)
        · have c : S.1 58 0 (nI j).toNatClampNeg = 0 := c
          rw [nI_clamp (show j < 2 ^ 31 by omega)] at c
          rw [if_pos c] at ih
          show V (d + 3) 0 0 m_M_count 124 [some M0, some (.inl w), some (.inl (cntA (fun i => S.1 58 0 i) 1 0 j + 1)), some (.inl (nI j + 1))] [] S Q
          rw [nI_1]; exact ih
        · have c : ¬ S.1 58 0 (nI j).toNatClampNeg = 0 := c
          rw [nI_clamp (show j < 2 ^ 31 by omega)] at c
          rw [if_neg c] at ih
          show V (d + 3) 0 0 m_M_count 124 [some M0, some (.inl w), some (.inl (cntA (fun i => S.1 58 0 i) 1 0 j + 0)), some (.inl (nI j + 1))] [] S Q
          rw [nI_1]; exact ih
  refine ct_of (xmok_all (by decide)) rfl (V_go (pc := 0) pk_182 [89, 124] 60 ?_)
  refine (And.intro (fun c0 => ?_) (fun c0 => (And.intro (fun c1 => ?_) (fun c1 => (And.intro (fun c2 => ?_) (fun c2 => (And.intro (fun c3 => ?_) (fun c3 => (And.intro (fun c4 => ?_) (fun c4 => (And.intro (fun c5 => ?_) (fun c5 => (And.intro (fun c6 => ?_) (fun c6 => (And.intro (fun c7 => ?_) (fun c7 => (And.intro (fun c8 => ?_) (fun c8 => ?_))))))))))))))))))
  · subst c0; exact qi hk rfl rfl
  · subst c1; exact qi hk rfl rfl
  · subst c2; exact qi hk rfl rfl
  · subst c3; exact qi hk rfl rfl
  · subst c4; exact qi hk rfl rfl
  · subst c5; exact qi hk rfl rfl
  · subst c6; exact qi hk rfl rfl
  · subst c7; exact loop1 (qi hk rfl rfl) nd 0 (by omega)
  · subst c8; exact loop2 (qi hk rfl rfl) nv 0 (by omega)
  · refine qi hk ?_ rfl
    show (-2 : Int32) = _
    unfold kM
    rw [if_neg c0, if_neg c1, if_neg c2, if_neg c3, if_neg c4, if_neg c5, if_neg c6, if_neg c7, if_neg c8]
theorem cnt_eq {f g : Nat → Int32} {a b : Int32} : ∀ {m : Nat}, (∀ i, i < m → f i = g i) → cntA f a b m = cntA g a b m
  | 0, _ => rfl
  | m + 1, h => by
    show cntA f a b m + (if f m = 0 then a else b) = cntA g a b m + (if g m = 0 then a else b)
    rw [cnt_eq (fun i hi => h i (by omega)), h m (by omega)]
theorem cm_count {dp n np nd nv nt r t nb : Nat} {S : xS} (hN : IN np nd nv nt r t S) (hB : IB n np nd t S) (hD : ID nd nv S) (hF : IF nb S) {w : Int32} : CT (dp + 3) 0 0 m_C_count [C0, .inl w] S (fun a S1 => CT (dp + 3) 0 0 m_M_count [M0, .inl w] S1 (fun a' S2 => a' = a ∧ S2 = S)) := by
  obtain ⟨⟨b1, b2, b3, b4, b5, b6⟩, ⟨e1, e2⟩, ⟨e3, e4⟩, ⟨e7, e8⟩, ⟨e9, e10⟩, ⟨e11, e12⟩, e13, e14⟩ := id hN
  refine ct_C_count e3 e7 b2 b3 (ct_M_count e4 e8 b2 b3 ⟨?_, rfl⟩)
  unfold kC kM
  rw [e1, e2, e3, e4, e7, e8, e9, e10, e11, e12, e13, e14, hF.2.1, hF.2.2.1, cnt_eq (f := fun i => S.1 49 0 i) (g := fun i => S.1 12 i 2) (fun i hi => ((hB i (by omega)).1 hi).lost), cnt_eq (f := fun i => S.1 58 0 i) (g := fun i => S.1 15 i 7) (fun i hi => ((hD i (by omega)).1 hi).1.2.2.2.2.2.2)]
