/-! text: the class's reader, Sum, Comparison, Not, And, Or -/
theorem rd_Sum {K : GT} {P : GP} {S0 : xS} {c cn op : Nat} (hT : gTs K P) (hN : gNx K P cn S0) (hc : cn ≤ c) (h1 : gRX K P S0 m_Reader_readTerm 6 c op) : gRX K P S0 m_Reader_readSum 5 (c + 1) op := by
  intro D i u S Q hD f0 hA hu hok hno
  obtain ⟨D, rfl⟩ : ∃ E, D = E + 1 := ⟨D - 1, by omega⟩
  have hl : 5 = 1 ∨ 5 = 2 ∨ 5 = 5 ∨ 5 = 6 := by decide
  have dead : ∀ j t T l2, gNo K 5 i op j → gDd P j T → Fr (fl fRd) S T → V (D + 1) 0 0 m_Reader_readSum 6 [some R0v, some (.inl t), l2] [] T Q := by
    intro j t T l2 g1 g2 g3
    refine V_go pk_28 [6] 60 ?_
    refine And.intro (fun _ => hno j T g1 g2 g3) (fun _ => ?_)
    refine And.intro (fun q => ?_) (fun _ => ?_)
    · have q : T.1 23 0 3 = nI 43 := q
      rw [g2.1] at q
      exact absurd q (by decide)
    refine And.intro (fun _ => hno j T g1 g2 g3) (fun q => ?_)
    have q : T.1 23 0 3 = nI 45 := q
    rw [g2.1] at q
    exact absurd q (by decide)
  have key : ∀ i2, (i2 < 160 → ∀ i3, i2 < i3 → ∀ e T t l2, gSrs K 5 i op i3 e → gAl K P i3 (u + e.length) op T → gCd S T u e → Fr (fl fRd) S T → t ≤ i3 → V (D + 1) 0 0 m_Reader_readSum 6 [some R0v, some (.inl (nI t)), l2] [] T Q) → ∀ e T t l2, gSrs K 5 i op i2 e → gAl K P i2 (u + e.length) op T → gCd S T u e → Fr (fl fRd) S T → t ≤ i2 → V (D + 1) 0 0 m_Reader_readSum 6 [some R0v, some (.inl (nI t)), l2] [] T Q := by
    intro i2 ih e T t l2 gS gA gC gF ht
    have kk := (hT.1 i2).2.2.1
    have le := gA.le hT
    have fin : ¬ (K.1 i2 = 43 ∨ K.1 i2 = 45) → Q none T := fun hn => hok i2 e T ⟨gS.1.fi hl (fun q => hn (rk_5 q)), gS.2⟩ gA gC gF
    have at37 : (K.1 i2 = 43 ∨ K.1 i2 = 45) → V (D + 1) 0 0 m_Reader_readSum 37 [some R0v, some (.inl (nI t)), l2] [] T Q := by
      intro ek
      have r5 : gRk (K.1 i2) = 5 := by rcases ek with z | z <;> (rw [z]; rfl)
      have it : (ndP (-(nI (K.1 i2))) = 2 ∧ ∀ n, hS (-(nI (K.1 i2))) n = n - 1) ∧ okI_ (-(nI (K.1 i2))) := by
        rcases ek with z | z
        · rw [z]; exact it_43
        · rw [z]; exact it_45
      have lt := gA.lt hT (by omega)
      have ih := ih lt
      refine V_go pk_28 [6, 45] 60 ?_
      show V (D + 1) 0 0 m_Reader_readSum 45 [some R0v, some (.inl (nI t)), some (.inl (T.1 23 0 3))] [] T Q
      rw [gA.1.2.1]
      refine V_go pk_28 [6] 60 ?_
      refine hN D (i2 + 1) T _ (by omega) (f0.tr gF) gA.1.1 (fun T2 f2 g2 => ?_)
      have gA2 := gA.step hT (by omega) f2 g2
      have c2 : ∀ j, T2.1 26 0 j = T.1 26 0 j := fun j => f2.1 26 0 j rfl
      have lS := gS.2.2
      refine h1 D (i2 + 1) (u + e.length) T2 _ (by omega) (f0.tr (gF.tr (f2.wk (by decide)))) gA2 (by omega) (fun i3 e2 T3 r3 a3 k3 f3 => ?_) (fun j T3 n3 d3 f3 => ?_)
      · have l3 := r3.2.2
        have le3 := a3.le hT
        refine ct_emit (u := u + e.length + e2.length) (by omega) a3.2.1 ?_
        have s3 := gS.op hl r5 it r3
        have k4 : gCd S T3 u (e ++ e2) := gC.ap (gCd.kp0 c2 k3)
        have k5 := k4.em (x := -(nI (K.1 i2)))
        have a5 := a3.em (x := -(nI (K.1 i2)))
        rw [List.length_append, ← Nat.add_assoc] at k5
        have a6 : gAl K P i3 (u + ((e ++ e2) ++ [-(nI (K.1 i2))]).length) op (xupd (xupd T3 26 0 (u + e.length + e2.length) (-(nI (K.1 i2)))) 25 0 3 (nI (u + e.length + e2.length + 1))) := by
          rw [List.length_append, List.length_append, List.length_singleton, ← Nat.add_assoc, ← Nat.add_assoc]
          exact a5
        have g := ih i3 (by omega) _ _ (t + 1) (some (.inl (nI (K.1 i2)))) s3 a6 k5 ((gF.tr (f2.wk (by decide))).tr (f3.tr ((Fr.up (S := T3) Fr.rf rfl).up rfl))) (by omega)
        rw [← nI_1 t] at g
        exact g
      · refine ct_emit_d d3 (fun T4 f4 d4 => ?_)
        exact dead j _ T4 _ (gS.1.no hl r5 n3) d4 ((gF.tr (f2.wk (by decide))).tr (f3.tr (f4.wk (by decide))))
    refine V_go pk_28 [6, 37] 60 ?_
    refine And.intro (fun q => ?_) (fun _ => ?_)
    · refine fin (fun e => ?_)
      have := gA.lt hT (by omega)
      exact absurd ((nI_leI (a := 160) (by omega) (by omega)).mp q) (by omega)
    refine And.intro (fun q => ?_) (fun q => ?_)
    · have q : T.1 23 0 3 = nI 43 := q
      rw [gA.1.2.1] at q
      exact at37 (Or.inl ((nI_eq (by omega) (by decide)).mp q))
    · have q : ¬ T.1 23 0 3 = nI 43 := q
      rw [gA.1.2.1] at q
      refine And.intro (fun q2 => ?_) (fun q2 => ?_)
      · have q2 : ¬ T.1 23 0 3 = nI 45 := q2
        rw [gA.1.2.1] at q2
        exact fin (fun e => e.elim (fun e => q (by rw [e])) (fun e => q2 (by rw [e])))
      · have q2 : T.1 23 0 3 = nI 45 := q2
        rw [gA.1.2.1] at q2
        exact at37 (Or.inr ((nI_eq (by omega) (by decide)).mp q2))
  have loop : ∀ m i2, 160 ≤ i2 + m → ∀ e T t l2, gSrs K 5 i op i2 e → gAl K P i2 (u + e.length) op T → gCd S T u e → Fr (fl fRd) S T → t ≤ i2 → V (D + 1) 0 0 m_Reader_readSum 6 [some R0v, some (.inl (nI t)), l2] [] T Q := by
    intro m
    induction m with
    | zero => intro i2 hi; exact key i2 (fun q => by omega)
    | succ m ih => intro i2 hi; exact key i2 (fun _ i3 h3 => ih i3 (by omega))
  refine ct_of (xmok_all (by decide)) rfl (V_go (pc := 0) pk_28 [6] 20 ?_)
  refine h1 D i u S _ (by omega) f0 hA hu (fun i2 e T r a k f => ?_) (fun j T n d f => ?_)
  · exact loop 160 i2 (by omega) e T 0 none (r.so hl) a k f (Nat.zero_le _)
  · exact dead j _ T none (n.so hl) d f
theorem rd_Sum_d {P : GP} {c : Nat} (hd : gRD P m_Reader_readTerm c) : gRD P m_Reader_readSum (c + 1) := by
  intro D j S Q hD h hq
  obtain ⟨D, rfl⟩ : ∃ E, D = E + 1 := ⟨D - 1, by omega⟩
  refine ct_of (xmok_all (by decide)) rfl (V_go (pc := 0) pk_28 [] 60 ?_)
  refine hd D j S _ (by omega) h (fun T f d => ?_)
  refine And.intro (fun q => absurd (show (160 : Int32) ≤ 0 from q) (by decide)) (fun _ => ?_)
  refine And.intro (fun q => ?_) (fun _ => ?_)
  · have q : T.1 23 0 3 = nI 43 := q
    rw [d.1] at q
    exact absurd q (by decide)
  refine And.intro (fun _ => hq T f d) (fun q => ?_)
  have q : T.1 23 0 3 = nI 45 := q
  rw [d.1] at q
  exact absurd q (by decide)
theorem rd_Cmp {K : GT} {P : GP} {S0 : xS} {c cn op : Nat} (hT : gTs K P) (hN : gNx K P cn S0) (hc : cn ≤ c) (h1 : gRX K P S0 m_Reader_readSum 5 c op) : gRX K P S0 m_Reader_readComparison 4 (c + 1) op := by
  intro D i u S Q hD f0 hA hu hok hno
  obtain ⟨D, rfl⟩ : ∃ E, D = E + 1 := ⟨D - 1, by omega⟩
  refine ct_of (xmok_all (by decide)) rfl (V_go (pc := 0) pk_27 [12, 24] 60 ?_)
  refine h1 D i u S _ (by omega) f0 hA hu (fun i2 e T r gA gC gF => ?_) (fun j T n d f => ?_)
  · have kk := (hT.1 i2).2.2.1
    have at24 : (K.1 i2 = 60 ∨ K.1 i2 = 61) → V (D + 1) 0 0 m_Reader_readComparison 24 [some R0v, some (.inl (nI (K.1 i2)))] [] T Q := by
      intro ek
      have it : (ndP (-(nI (K.1 i2))) = 2 ∧ ∀ n, hS (-(nI (K.1 i2))) n = n - 1) ∧ okI_ (-(nI (K.1 i2))) := by
        rcases ek with z | z
        · rw [z]; exact it_60
        · rw [z]; exact it_61
      refine V_go pk_27 [] 60 ?_
      refine hN D (i2 + 1) T _ (by omega) (f0.tr gF) gA.1.1 (fun T2 f2 g2 => ?_)
      have gA2 := gA.step hT (by omega) f2 g2
      have c2 : ∀ j, T2.1 26 0 j = T.1 26 0 j := fun j => f2.1 26 0 j rfl
      have lS := r.2.2
      refine h1 D (i2 + 1) (u + e.length) T2 _ (by omega) (f0.tr (gF.tr (f2.wk (by decide)))) gA2 (by omega) (fun i3 e2 T3 r3 a3 k3 f3 => ?_) (fun j T3 n3 d3 f3 => ?_)
      · have l3 := r3.2.2
        have le3 := a3.le hT
        refine ct_emit (u := u + e.length + e2.length) (by omega) a3.2.1 ?_
        have k4 : gCd S T3 u (e ++ e2) := gC.ap (gCd.kp0 c2 k3)
        have k5 := k4.em (x := -(nI (K.1 i2)))
        have a5 := a3.em (x := -(nI (K.1 i2)))
        rw [List.length_append, ← Nat.add_assoc] at k5
        have a6 : gAl K P i3 (u + ((e ++ e2) ++ [-(nI (K.1 i2))]).length) op (xupd (xupd T3 26 0 (u + e.length + e2.length) (-(nI (K.1 i2)))) 25 0 3 (nI (u + e.length + e2.length + 1))) := by
          rw [List.length_append, List.length_append, List.length_singleton, ← Nat.add_assoc, ← Nat.add_assoc]
          exact a5
        refine hok i3 _ _ ⟨r.1.cmp1 ek r3.1, r.2.1.two r3.2.1 it.1 it.2, ?_⟩ a6 k5 ((gF.tr (f2.wk (by decide))).tr (f3.tr ((Fr.up (S := T3) Fr.rf rfl).up rfl)))
        rw [List.length_append, List.length_append, List.length_singleton]
        omega
      · refine ct_emit_d d3 (fun T4 f4 d4 => ?_)
        exact hno j T4 (gNo.cmp1 r.1 ek n3) d4 ((gF.tr (f2.wk (by decide))).tr (f3.tr (f4.wk (by decide))))
    show V (D + 1) 0 0 m_Reader_readComparison 12 [some R0v, some (.inl (T.1 23 0 3))] [] T Q
    rw [gA.1.2.1]
    refine V_go pk_27 [24] 60 ?_
    refine And.intro (fun q => ?_) (fun q => ?_)
    · exact at24 (Or.inl ((nI_eq (b := 60) (by omega) (by decide)).mp q))
    · have q : ¬ nI (K.1 i2) = nI 60 := q
      refine And.intro (fun q2 => ?_) (fun q2 => ?_)
      · have q2 : ¬ nI (K.1 i2) = nI 61 := q2
        exact hok i2 e T ⟨gOk.cmp0 r.1 (fun e => e.elim (fun e => q (by rw [e])) (fun e => q2 (by rw [e]))), r.2⟩ gA gC gF
      · exact at24 (Or.inr ((nI_eq (b := 61) (by omega) (by decide)).mp q2))
  · show V (D + 1) 0 0 m_Reader_readComparison 12 [some R0v, some (.inl (T.1 23 0 3))] [] T Q
    rw [d.1]
    refine V_go pk_27 [] 60 ?_
    (repeat' first | (refine And.intro (fun q => absurd q (by decide)) (fun _ => ?_)) | (refine And.intro (fun _ => ?_) (fun q => absurd q (by decide))) | fail)
    exact hno j T n.cmp0 d f
theorem rd_Cmp_d {P : GP} {c : Nat} (hd : gRD P m_Reader_readSum c) : gRD P m_Reader_readComparison (c + 1) := by
  intro D j S Q hD h hq
  obtain ⟨D, rfl⟩ : ∃ E, D = E + 1 := ⟨D - 1, by omega⟩
  refine ct_of (xmok_all (by decide)) rfl (V_go (pc := 0) pk_27 [12] 60 ?_)
  refine hd D j S _ (by omega) h (fun T f d => ?_)
  show V (D + 1) 0 0 m_Reader_readComparison 12 [some R0v, some (.inl (T.1 23 0 3))] [] T Q
  rw [d.1]
  refine V_go pk_27 [] 60 ?_
  (repeat' first | (refine And.intro (fun q => absurd q (by decide)) (fun _ => ?_)) | (refine And.intro (fun _ => ?_) (fun q => absurd q (by decide))) | fail)
  exact hq T f d
theorem gAl.cl {K : GT} {P : GP} {i u op : Nat} {S : xS} (h : gAl K P i u (op + 1) S) : gAl K P i u op (xupd S 25 0 4 (S.1 25 0 4 - 1)) := ⟨h.1, h.2.1, by show S.1 25 0 4 - 1 = nI op; rw [h.2.2.1, nI_pred], h.2.2.2.1, h.2.2.2.2⟩
theorem gDd.cl {P : GP} {j : Nat} {x : Int32} {S : xS} (h : gDd P j S) : gDd P j (xupd S 25 0 4 x) := h
theorem rd_Not {K : GT} {P : GP} {S0 : xS} {c cn op : Nat} (hT : gTs K P) (hN : gNx K P cn S0) (hc : cn + 1 ≤ c) (ho : op ≤ 5) (h1 : gRX K P S0 m_Reader_readComparison 4 c op) (h2 : op < 5 → gRX K P S0 m_Reader_readNot 3 c (op + 1)) : gRX K P S0 m_Reader_readNot 3 (c + 1) op := by
  intro D i u S Q hD f0 hA hu hok hno
  obtain ⟨D, rfl⟩ : ∃ E, D = E + 1 := ⟨D - 1, by omega⟩
  have kk := (hT.1 i).2.2.1
  have le := hA.le hT
  refine ct_of (xmok_all (by decide)) rfl (V_go (pc := 0) pk_26 [] 60 ?_)
  refine And.intro (fun q => ?_) (fun q => ?_)
  · have q : S.1 23 0 3 = nI 133 := q
    rw [hA.1.2.1] at q
    have ek := (nI_eq (by omega) (by decide)).mp q
    refine ct_enter hT hN (D := D) (by omega) f0 hA (by omega) (by omega) ho (fun ho5 T f cT a => ?_) (fun ho5 T f d => ?_)
    · (repeat' first | (refine And.intro (fun q => absurd q (by decide)) (fun _ => ?_)) | (refine And.intro (fun _ => ?_) (fun q => absurd q (by decide))) | fail)
      refine h2 ho5 D (i + 1) u T _ (by omega) (f0.tr f) a (by omega) (fun i2 e T2 r a2 k2 f2 => ?_) (fun j T2 n d f2 => ?_)
      · have lr := r.2.2
        have le2 := a2.le hT
        refine ct_emit (u := u + e.length) (by omega) a2.2.1 ?_
        have a5 := (a2.em (x := -(nI 133))).cl
        have k5 := (gCd.kp0 cT k2).em (x := -(nI 133))
        have f5 : Fr (fl fRd) T2 (xupd (xupd (xupd T2 26 0 (u + e.length) (-(nI 133))) 25 0 3 (nI (u + e.length + 1))) 25 0 4 ((xupd (xupd T2 26 0 (u + e.length) (-(nI 133))) 25 0 3 (nI (u + e.length + 1))).1 25 0 4 - 1)) := ((Fr.rf.up rfl).up rfl).up rfl
        refine hok i2 (e ++ [-(nI 133)]) _ ⟨gOk.not1 ek ho5 r.1, r.2.1.one it_133.1 it_133.2, ?_⟩ ?_ (k5.kp (fun j => rfl)) ((f.tr f2).tr f5)
        · rw [List.length_append, List.length_singleton]; omega
        · rw [List.length_append, List.length_singleton, ← Nat.add_assoc]; exact a5
      · refine ct_emit_d d (fun T4 f4 d4 => ?_)
        exact hno j _ (gNo.not1 ek ho5 n) d4.cl (((f.tr f2).tr (f4.wk (by decide))).up rfl)
    · (repeat' first | (refine And.intro (fun q => absurd q (by decide)) (fun _ => ?_)) | (refine And.intro (fun _ => ?_) (fun q => absurd q (by decide))) | fail)
      exact hno i T (gNo.not2 ek ho5) d f
  · have q : ¬ S.1 23 0 3 = nI 133 := q
    rw [hA.1.2.1] at q
    have ek : ¬ K.1 i = 133 := fun e => q (by rw [e])
    exact h1 D i u S _ (by omega) f0 hA hu (fun i2 e T r gA gC gF => hok i2 e T ⟨gOk.not0 ek r.1, r.2⟩ gA gC gF) (fun j T n d f => hno j T (gNo.not0 ek n) d f)
theorem rd_Not_d {P : GP} {c : Nat} (hd : gRD P m_Reader_readComparison c) : gRD P m_Reader_readNot (c + 1) := by
  intro D j S Q hD h hq
  obtain ⟨D, rfl⟩ : ∃ E, D = E + 1 := ⟨D - 1, by omega⟩
  refine ct_of (xmok_all (by decide)) rfl (V_go (pc := 0) pk_26 [] 60 ?_)
  refine And.intro (fun q => ?_) (fun _ => ?_)
  · have q : S.1 23 0 3 = nI 133 := q
    rw [h.1] at q
    exact absurd q (by decide)
  · exact hd D j S _ (by omega) h (fun T f d => hq T f d)
theorem rd_And {K : GT} {P : GP} {S0 : xS} {c cn op : Nat} (hT : gTs K P) (hN : gNx K P cn S0) (hc : cn ≤ c) (h1 : gRX K P S0 m_Reader_readNot 3 c op) (hd : gRD P m_Reader_readNot c) : gRX K P S0 m_Reader_readAnd 2 (c + 1) op := by
  intro D i u S Q hD f0 hA hu hok hno
  obtain ⟨D, rfl⟩ : ∃ E, D = E + 1 := ⟨D - 1, by omega⟩
  have hl : 2 = 1 ∨ 2 = 2 ∨ 2 = 5 ∨ 2 = 6 := by decide
  have dead : ∀ j t T, gNo K 2 i op j → gDd P j T → Fr (fl fRd) S T → V (D + 1) 0 0 m_Reader_readAnd 6 [some R0v, some (.inl t)] [] T Q := by
    intro j t T g1 g2 g3
    refine V_go pk_25 [6] 60 ?_
    refine And.intro (fun _ => hno j T g1 g2 g3) (fun _ => ?_)
    refine And.intro (fun _ => hno j T g1 g2 g3) (fun q => ?_)
    have q : T.1 23 0 3 = nI 132 := q
    rw [g2.1] at q
    exact absurd q (by decide)
  have key : ∀ i2, (i2 < 160 → ∀ i3, i2 < i3 → ∀ e T t, gSrs K 2 i op i3 e → gAl K P i3 (u + e.length) op T → gCd S T u e → Fr (fl fRd) S T → t ≤ i3 → V (D + 1) 0 0 m_Reader_readAnd 6 [some R0v, some (.inl (nI t))] [] T Q) → ∀ e T t, gSrs K 2 i op i2 e → gAl K P i2 (u + e.length) op T → gCd S T u e → Fr (fl fRd) S T → t ≤ i2 → V (D + 1) 0 0 m_Reader_readAnd 6 [some R0v, some (.inl (nI t))] [] T Q := by
    intro i2 ih e T t gS gA gC gF ht
    have kk := (hT.1 i2).2.2.1
    have le := gA.le hT
    have fin : ¬ K.1 i2 = 132 → Q none T := fun hn => hok i2 e T ⟨gS.1.fi hl (fun q => hn (rk_2 q)), gS.2⟩ gA gC gF
    have hk : S.1 23 0 3 = S.1 23 0 3 := rfl
    refine V_go pk_25 [6] 60 ?_
    refine And.intro (fun q => ?_) (fun _ => ?_)
    · refine fin (fun e => ?_)
      have := gA.lt hT (by omega)
      exact absurd ((nI_leI (a := 160) (by omega) (by omega)).mp q) (by omega)
    refine And.intro (fun q => ?_) (fun q => ?_)
    · have q : ¬ T.1 23 0 3 = nI 132 := q
      rw [gA.1.2.1] at q
      exact fin (fun e => q (by rw [e]))
    · have q : T.1 23 0 3 = nI 132 := q
      rw [gA.1.2.1] at q
      have ek : K.1 i2 = 132 := (nI_eq (by omega) (by decide)).mp q
      have lt := gA.lt hT (by omega)
      have ih := ih lt
      refine hN D (i2 + 1) T _ (by omega) (f0.tr gF) gA.1.1 (fun T2 f2 g2 => ?_)
      have gA2 := gA.step hT (by omega) f2 g2
      have c2 : ∀ j, T2.1 26 0 j = T.1 26 0 j := fun j => f2.1 26 0 j rfl
      have lS := gS.2.2
      refine h1 D (i2 + 1) (u + e.length) T2 _ (by omega) (f0.tr (gF.tr (f2.wk (by decide)))) gA2 (by omega) (fun i3 e2 T3 r3 a3 k3 f3 => ?_) (fun j T3 n3 d3 f3 => ?_)
      · have l3 := r3.2.2
        have le3 := a3.le hT
        refine ct_emit (u := u + e.length + e2.length) (by omega) a3.2.1 ?_
        have s3 := gS.op hl (by rw [ek]; rfl) (by rw [ek]; exact it_132) r3
        rw [ek] at s3
        have k4 : gCd S T3 u (e ++ e2) := gC.ap (gCd.kp0 c2 k3)
        have k5 := k4.em (x := -(nI 132))
        have a5 := a3.em (x := -(nI 132))
        rw [List.length_append, ← Nat.add_assoc] at k5
        have a6 : gAl K P i3 (u + ((e ++ e2) ++ [-(nI 132)]).length) op (xupd (xupd T3 26 0 (u + e.length + e2.length) (-(nI 132))) 25 0 3 (nI (u + e.length + e2.length + 1))) := by
          rw [List.length_append, List.length_append, List.length_singleton, ← Nat.add_assoc, ← Nat.add_assoc]
          exact a5
        have g := ih i3 (by omega) _ _ (t + 1) s3 a6 k5 ((gF.tr (f2.wk (by decide))).tr (f3.tr ((Fr.up (S := T3) Fr.rf rfl).up rfl))) (by omega)
        rw [← nI_1 t] at g
        exact g
      · refine ct_emit_d d3 (fun T4 f4 d4 => ?_)
        exact dead j _ T4 (gS.1.no hl (by rw [ek]; rfl) n3) d4 ((gF.tr (f2.wk (by decide))).tr (f3.tr (f4.wk (by decide))))
  have loop : ∀ m i2, 160 ≤ i2 + m → ∀ e T t, gSrs K 2 i op i2 e → gAl K P i2 (u + e.length) op T → gCd S T u e → Fr (fl fRd) S T → t ≤ i2 → V (D + 1) 0 0 m_Reader_readAnd 6 [some R0v, some (.inl (nI t))] [] T Q := by
    intro m
    induction m with
    | zero => intro i2 hi; exact key i2 (fun q => by omega)
    | succ m ih => intro i2 hi; exact key i2 (fun _ i3 h3 => ih i3 (by omega))
  refine ct_of (xmok_all (by decide)) rfl (V_go (pc := 0) pk_25 [6] 20 ?_)
  refine h1 D i u S _ (by omega) f0 hA hu (fun i2 e T r a k f => ?_) (fun j T n d f => ?_)
  · exact loop 160 i2 (by omega) e T 0 (r.so hl) a k f (Nat.zero_le _)
  · exact dead j _ T (n.so hl) d f
theorem rd_And_d {P : GP} {c : Nat} (hd : gRD P m_Reader_readNot c) : gRD P m_Reader_readAnd (c + 1) := by
  intro D j S Q hD h hq
  obtain ⟨D, rfl⟩ : ∃ E, D = E + 1 := ⟨D - 1, by omega⟩
  refine ct_of (xmok_all (by decide)) rfl (V_go (pc := 0) pk_25 [] 60 ?_)
  refine hd D j S _ (by omega) h (fun T f d => ?_)
  refine And.intro (fun q => absurd (show (160 : Int32) ≤ 0 from q) (by decide)) (fun _ => ?_)
  refine And.intro (fun _ => hq T f d) (fun q => ?_)
  have q : T.1 23 0 3 = nI 132 := q
  rw [d.1] at q
  exact absurd q (by decide)
theorem rd_Or {K : GT} {P : GP} {S0 : xS} {c cn op : Nat} (hT : gTs K P) (hN : gNx K P cn S0) (hc : cn ≤ c) (h1 : gRX K P S0 m_Reader_readAnd 2 c op) (hd : gRD P m_Reader_readAnd c) : gRX K P S0 m_Reader_readOr 1 (c + 1) op := by
  intro D i u S Q hD f0 hA hu hok hno
  obtain ⟨D, rfl⟩ : ∃ E, D = E + 1 := ⟨D - 1, by omega⟩
  have hl : 1 = 1 ∨ 1 = 2 ∨ 1 = 5 ∨ 1 = 6 := by decide
  have dead : ∀ j t T, gNo K 1 i op j → gDd P j T → Fr (fl fRd) S T → V (D + 1) 0 0 m_Reader_readOr 6 [some R0v, some (.inl t)] [] T Q := by
    intro j t T g1 g2 g3
    refine V_go pk_24 [6] 60 ?_
    refine And.intro (fun _ => hno j T g1 g2 g3) (fun _ => ?_)
    refine And.intro (fun _ => hno j T g1 g2 g3) (fun q => ?_)
    have q : T.1 23 0 3 = nI 131 := q
    rw [g2.1] at q
    exact absurd q (by decide)
  have key : ∀ i2, (i2 < 160 → ∀ i3, i2 < i3 → ∀ e T t, gSrs K 1 i op i3 e → gAl K P i3 (u + e.length) op T → gCd S T u e → Fr (fl fRd) S T → t ≤ i3 → V (D + 1) 0 0 m_Reader_readOr 6 [some R0v, some (.inl (nI t))] [] T Q) → ∀ e T t, gSrs K 1 i op i2 e → gAl K P i2 (u + e.length) op T → gCd S T u e → Fr (fl fRd) S T → t ≤ i2 → V (D + 1) 0 0 m_Reader_readOr 6 [some R0v, some (.inl (nI t))] [] T Q := by
    intro i2 ih e T t gS gA gC gF ht
    have kk := (hT.1 i2).2.2.1
    have le := gA.le hT
    have fin : ¬ K.1 i2 = 131 → Q none T := fun hn => hok i2 e T ⟨gS.1.fi hl (fun q => hn (rk_1 q)), gS.2⟩ gA gC gF
    have hk : S.1 23 0 3 = S.1 23 0 3 := rfl
    refine V_go pk_24 [6] 60 ?_
    refine And.intro (fun q => ?_) (fun _ => ?_)
    · refine fin (fun e => ?_)
      have := gA.lt hT (by omega)
      exact absurd ((nI_leI (a := 160) (by omega) (by omega)).mp q) (by omega)
    refine And.intro (fun q => ?_) (fun q => ?_)
    · have q : ¬ T.1 23 0 3 = nI 131 := q
      rw [gA.1.2.1] at q
      exact fin (fun e => q (by rw [e]))
    · have q : T.1 23 0 3 = nI 131 := q
      rw [gA.1.2.1] at q
      have ek : K.1 i2 = 131 := (nI_eq (by omega) (by decide)).mp q
      have lt := gA.lt hT (by omega)
      have ih := ih lt
      refine hN D (i2 + 1) T _ (by omega) (f0.tr gF) gA.1.1 (fun T2 f2 g2 => ?_)
      have gA2 := gA.step hT (by omega) f2 g2
      have c2 : ∀ j, T2.1 26 0 j = T.1 26 0 j := fun j => f2.1 26 0 j rfl
      have lS := gS.2.2
      refine h1 D (i2 + 1) (u + e.length) T2 _ (by omega) (f0.tr (gF.tr (f2.wk (by decide)))) gA2 (by omega) (fun i3 e2 T3 r3 a3 k3 f3 => ?_) (fun j T3 n3 d3 f3 => ?_)
      · have l3 := r3.2.2
        have le3 := a3.le hT
        refine ct_emit (u := u + e.length + e2.length) (by omega) a3.2.1 ?_
        have s3 := gS.op hl (by rw [ek]; rfl) (by rw [ek]; exact it_131) r3
        rw [ek] at s3
        have k4 : gCd S T3 u (e ++ e2) := gC.ap (gCd.kp0 c2 k3)
        have k5 := k4.em (x := -(nI 131))
        have a5 := a3.em (x := -(nI 131))
        rw [List.length_append, ← Nat.add_assoc] at k5
        have a6 : gAl K P i3 (u + ((e ++ e2) ++ [-(nI 131)]).length) op (xupd (xupd T3 26 0 (u + e.length + e2.length) (-(nI 131))) 25 0 3 (nI (u + e.length + e2.length + 1))) := by
          rw [List.length_append, List.length_append, List.length_singleton, ← Nat.add_assoc, ← Nat.add_assoc]
          exact a5
        have g := ih i3 (by omega) _ _ (t + 1) s3 a6 k5 ((gF.tr (f2.wk (by decide))).tr (f3.tr ((Fr.up (S := T3) Fr.rf rfl).up rfl))) (by omega)
        rw [← nI_1 t] at g
        exact g
      · refine ct_emit_d d3 (fun T4 f4 d4 => ?_)
        exact dead j _ T4 (gS.1.no hl (by rw [ek]; rfl) n3) d4 ((gF.tr (f2.wk (by decide))).tr (f3.tr (f4.wk (by decide))))
  have loop : ∀ m i2, 160 ≤ i2 + m → ∀ e T t, gSrs K 1 i op i2 e → gAl K P i2 (u + e.length) op T → gCd S T u e → Fr (fl fRd) S T → t ≤ i2 → V (D + 1) 0 0 m_Reader_readOr 6 [some R0v, some (.inl (nI t))] [] T Q := by
    intro m
    induction m with
    | zero => intro i2 hi; exact key i2 (fun q => by omega)
    | succ m ih => intro i2 hi; exact key i2 (fun _ i3 h3 => ih i3 (by omega))
  refine ct_of (xmok_all (by decide)) rfl (V_go (pc := 0) pk_24 [6] 20 ?_)
  refine h1 D i u S _ (by omega) f0 hA hu (fun i2 e T r a k f => ?_) (fun j T n d f => ?_)
  · exact loop 160 i2 (by omega) e T 0 (r.so hl) a k f (Nat.zero_le _)
  · exact dead j _ T (n.so hl) d f
theorem rd_Or_d {P : GP} {c : Nat} (hd : gRD P m_Reader_readAnd c) : gRD P m_Reader_readOr (c + 1) := by
  intro D j S Q hD h hq
  obtain ⟨D, rfl⟩ : ∃ E, D = E + 1 := ⟨D - 1, by omega⟩
  refine ct_of (xmok_all (by decide)) rfl (V_go (pc := 0) pk_24 [] 60 ?_)
  refine hd D j S _ (by omega) h (fun T f d => ?_)
  refine And.intro (fun q => absurd (show (160 : Int32) ≤ 0 from q) (by decide)) (fun _ => ?_)
  refine And.intro (fun _ => hq T f d) (fun q => ?_)
  have q : T.1 23 0 3 = nI 131 := q
  rw [d.1] at q
  exact absurd q (by decide)
