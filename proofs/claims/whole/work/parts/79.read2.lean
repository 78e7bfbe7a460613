/-! text: the class's reader, level by level -/
def hL : List Int32 → Nat → Nat
  | [], n => n
  | c :: e, n => hL e (hS c n)
def okHs : List Int32 → Nat → Prop
  | [], _ => True
  | c :: e, n => ndP c ≤ n ∧ okHs e (hS c n)
theorem hL_ap : ∀ (a b : List Int32) (n : Nat), hL (a ++ b) n = hL b (hL a n)
  | [], _, _ => rfl
  | c :: a, b, n => hL_ap a b (hS c n)
theorem okHs_ap : ∀ (a b : List Int32) (n : Nat), okHs a n → okHs b (hL a n) → okHs (a ++ b) n
  | [], _, _, _, h => h
  | c :: a, b, n, h1, h2 => ⟨h1.1, okHs_ap a b (hS c n) h1.2 h2⟩
/-- code that leaves one number more -/
def wLs (e : List Int32) : Prop := (∀ n, okHs e n ∧ hL e n = n + 1) ∧ ∀ x, x ∈ e → okI_ x
theorem wLs.item {x : Int32} (h : ∀ n, ndP x ≤ n ∧ hS x n = n + 1) (hk : okI_ x) : wLs [x] := ⟨fun n => ⟨⟨(h n).1, trivial⟩, (h n).2⟩, fun y hy => by rw [List.mem_singleton.mp hy]; exact hk⟩
theorem wLs.one {e : List Int32} {x : Int32} (h : wLs e) (hx : ndP x = 1 ∧ ∀ n, hS x n = n) (hk : okI_ x) : wLs (e ++ [x]) := by
  refine ⟨fun n => ⟨okHs_ap e [x] n (h.1 n).1 ?_, ?_⟩, fun y hy => ?_⟩
  · rw [(h.1 n).2]
    exact ⟨by rw [hx.1]; omega, trivial⟩
  · rw [hL_ap, (h.1 n).2]
    exact hx.2 _
  · rcases List.mem_append.mp hy with q | q
    · exact h.2 y q
    · rw [List.mem_singleton.mp q]; exact hk
theorem wLs.two {e e2 : List Int32} {x : Int32} (h : wLs e) (h2 : wLs e2) (hx : ndP x = 2 ∧ ∀ n, hS x n = n - 1) (hk : okI_ x) : wLs ((e ++ e2) ++ [x]) := by
  refine ⟨fun n => ⟨okHs_ap _ [x] n (okHs_ap e e2 n (h.1 n).1 ?_) ?_, ?_⟩, fun y hy => ?_⟩
  · exact (h2.1 _).1
  · rw [hL_ap, (h.1 n).2, (h2.1 _).2]
    exact ⟨by rw [hx.1]; omega, trivial⟩
  · rw [hL_ap, hL_ap, (h.1 n).2, (h2.1 _).2]
    exact hx.2 _
  · rcases List.mem_append.mp hy with q | q
    · rcases List.mem_append.mp q with q | q
      · exact h.2 y q
      · exact h2.2 y q
    · rw [List.mem_singleton.mp q]; exact hk
theorem it_131 : (ndP (-(nI 131)) = 2 ∧ ∀ n, hS (-(nI 131)) n = n - 1) ∧ okI_ (-(nI 131)) := ⟨⟨rfl, fun _ => rfl⟩, Or.inr (Or.inr (Or.inr (Or.inr (Or.inl rfl))))⟩
theorem it_132 : (ndP (-(nI 132)) = 2 ∧ ∀ n, hS (-(nI 132)) n = n - 1) ∧ okI_ (-(nI 132)) := ⟨⟨rfl, fun _ => rfl⟩, Or.inr (Or.inr (Or.inr (Or.inr (Or.inr (Or.inl rfl)))))⟩
theorem it_60 : (ndP (-(nI 60)) = 2 ∧ ∀ n, hS (-(nI 60)) n = n - 1) ∧ okI_ (-(nI 60)) := ⟨⟨rfl, fun _ => rfl⟩, Or.inr (Or.inr (Or.inr (Or.inr (Or.inr (Or.inr (Or.inl rfl))))))⟩
theorem it_61 : (ndP (-(nI 61)) = 2 ∧ ∀ n, hS (-(nI 61)) n = n - 1) ∧ okI_ (-(nI 61)) := ⟨⟨rfl, fun _ => rfl⟩, Or.inr (Or.inr (Or.inr (Or.inr (Or.inr (Or.inr (Or.inr (Or.inl rfl)))))))⟩
theorem it_43 : (ndP (-(nI 43)) = 2 ∧ ∀ n, hS (-(nI 43)) n = n - 1) ∧ okI_ (-(nI 43)) := ⟨⟨rfl, fun _ => rfl⟩, Or.inr (Or.inr (Or.inr (Or.inr (Or.inr (Or.inr (Or.inr (Or.inr (Or.inl rfl))))))))⟩
theorem it_45 : (ndP (-(nI 45)) = 2 ∧ ∀ n, hS (-(nI 45)) n = n - 1) ∧ okI_ (-(nI 45)) := ⟨⟨rfl, fun _ => rfl⟩, Or.inr (Or.inr (Or.inr (Or.inr (Or.inr (Or.inr (Or.inr (Or.inr (Or.inr (Or.inl rfl)))))))))⟩
theorem it_42 : (ndP (-(nI 42)) = 2 ∧ ∀ n, hS (-(nI 42)) n = n - 1) ∧ okI_ (-(nI 42)) := ⟨⟨rfl, fun _ => rfl⟩, Or.inr (Or.inr (Or.inr (Or.inr (Or.inr (Or.inr (Or.inr (Or.inr (Or.inr (Or.inr rfl)))))))))⟩
theorem it_133 : (ndP (-(nI 133)) = 1 ∧ ∀ n, hS (-(nI 133)) n = n) ∧ okI_ (-(nI 133)) := ⟨⟨rfl, fun _ => rfl⟩, Or.inr (Or.inr (Or.inl rfl))⟩
theorem it_3 : (ndP (-(nI 3)) = 1 ∧ ∀ n, hS (-(nI 3)) n = n) ∧ okI_ (-(nI 3)) := ⟨⟨rfl, fun _ => rfl⟩, Or.inr (Or.inr (Or.inr (Or.inl rfl)))⟩
def gRes (K : GT) (lv i op i2 : Nat) (e : List Int32) : Prop := gOk K lv i op i2 e ∧ wLs e ∧ i + e.length ≤ i2
def gSrs (K : GT) (lv i op i2 : Nat) (e : List Int32) : Prop := gSo K lv i op i2 e ∧ wLs e ∧ i + e.length ≤ i2
/-- the code of e stands behind u -/
def gCd (S S' : xS) (u : Nat) (e : List Int32) : Prop := (∀ j, j < u → S'.1 26 0 j = S.1 26 0 j) ∧ ∀ j, j < e.length → S'.1 26 0 (u + j) = e.getD j 0
theorem gCd.rf {S S' : xS} {u : Nat} (h : ∀ j, S'.1 26 0 j = S.1 26 0 j) : gCd S S' u [] := ⟨fun j _ => h j, fun j h => absurd h (Nat.not_lt_zero _)⟩
theorem gCd.kp {S S' T : xS} {u : Nat} {e : List Int32} (h : gCd S S' u e) (ht : ∀ j, T.1 26 0 j = S'.1 26 0 j) : gCd S T u e := ⟨fun j hj => (ht j).trans (h.1 j hj), fun j hj => (ht _).trans (h.2 j hj)⟩
theorem gCd.kp0 {S S' T : xS} {u : Nat} {e : List Int32} (ht : ∀ j, S'.1 26 0 j = S.1 26 0 j) (h : gCd S' T u e) : gCd S T u e := ⟨fun j hj => (h.1 j hj).trans (ht j), h.2⟩
theorem gCd.ap {S S' T : xS} {u : Nat} {e e2 : List Int32} (h : gCd S S' u e) (h2 : gCd S' T (u + e.length) e2) : gCd S T u (e ++ e2) := by
  refine ⟨fun j hj => (h2.1 j (by omega)).trans (h.1 j hj), fun j hj => ?_⟩
  rw [List.length_append] at hj
  by_cases c : j < e.length
  · rw [h2.1 (u + j) (by omega), h.2 j c, List.getD_eq_getElem?_getD, List.getD_eq_getElem?_getD, List.getElem?_append_left c]
  · have := h2.2 (j - e.length) (by omega)
    rw [show u + e.length + (j - e.length) = u + j by omega] at this
    rw [this, List.getD_eq_getElem?_getD, List.getD_eq_getElem?_getD, List.getElem?_append_right (by omega)]
theorem gCd.em {S S' : xS} {u : Nat} {e : List Int32} {x : Int32} (h : gCd S S' u e) : gCd S (xupd (xupd S' 26 0 (u + e.length) x) 25 0 3 (nI (u + e.length + 1))) u (e ++ [x]) := by
  refine h.ap ⟨fun j hj => if_neg (fun q => by have := q.2.1; omega), fun j hj => ?_⟩
  have : j = 0 := by have : j < 1 := hj; omega
  subst this
  exact if_pos ⟨rfl, rfl, rfl⟩
theorem gAl.em {K : GT} {P : GP} {i u op : Nat} {x : Int32} {S : xS} (h : gAl K P i u op S) : gAl K P i (u + 1) op (xupd (xupd S 26 0 u x) 25 0 3 (nI (u + 1))) := ⟨h.1, rfl, h.2.2.1, h.2.2.2.1, h.2.2.2.2⟩
def gRX (K : GT) (P : GP) (S0 : xS) (m lv c op : Nat) : Prop := ∀ D i u (S : xS) (Q : xQ), c ≤ D → Fr (fl fRd) S0 S → gAl K P i u op S → u ≤ i → (∀ i2 e S', gRes K lv i op i2 e → gAl K P i2 (u + e.length) op S' → gCd S S' u e → Fr (fl fRd) S S' → Q none S') → (∀ j S', gNo K lv i op j → gDd P j S' → Fr (fl fRd) S S' → Q none S') → CT D 0 0 m [R0v] S Q
def gRD (P : GP) (m c : Nat) : Prop := ∀ D j (S : xS) (Q : xQ), c ≤ D → gDd P j S → (∀ S', Fr (fl fRd) S S' → gDd P j S' → Q none S') → CT D 0 0 m [R0v] S Q
theorem gRes.so {K : GT} {lv i op i2 : Nat} {e : List Int32} (hl : lv = 1 ∨ lv = 2 ∨ lv = 5 ∨ lv = 6) (h : gRes K (lv + 1) i op i2 e) : gSrs K lv i op i2 e := ⟨h.1.so hl, h.2⟩
theorem gSrs.op {K : GT} {lv i op i1 i2 : Nat} {e1 e2 : List Int32} (hl : lv = 1 ∨ lv = 2 ∨ lv = 5 ∨ lv = 6) (h : gSrs K lv i op i1 e1) (hw : gRk (K.1 i1) = lv) (hx : (ndP (-(nI (K.1 i1))) = 2 ∧ ∀ n, hS (-(nI (K.1 i1))) n = n - 1) ∧ okI_ (-(nI (K.1 i1)))) (h2 : gRes K (lv + 1) (i1 + 1) op i2 e2) : gSrs K lv i op i2 ((e1 ++ e2) ++ [-(nI (K.1 i1))]) := by
  refine ⟨h.1.op hl hw h2.1, h.2.1.two h2.2.1 hx.1 hx.2, ?_⟩
  have := h.2.2
  have := h2.2.2
  rw [List.length_append, List.length_append, List.length_singleton]
  omega
theorem gAl.lt {K : GT} {P : GP} {i u op : Nat} {S : xS} (hT : gTs K P) (h : gAl K P i u op S) (hk : ¬ K.1 i = 0) : i < 160 := by
  have := hT.2.1 i hk
  have := (hT.1 (i + 1)).1
  have := h.2.2.2.2
  omega
theorem gAl.le {K : GT} {P : GP} {i u op : Nat} {S : xS} (hT : gTs K P) (h : gAl K P i u op S) : i ≤ 160 := by
  have := (hT.1 i).1
  have := h.2.2.2.2
  omega
theorem rk_1 {t : Nat} (h : gRk t = 1) : t = 131 := by
  unfold gRk at h
  repeat' (split at h; first | assumption | (exfalso; omega) | skip)
  all_goals (first | assumption | (exfalso; omega))
theorem rk_2 {t : Nat} (h : gRk t = 2) : t = 132 := by
  unfold gRk at h
  repeat' (split at h; first | assumption | (exfalso; omega) | skip)
  all_goals (first | assumption | (exfalso; omega))
theorem rk_6 {t : Nat} (h : gRk t = 6) : t = 42 := by
  unfold gRk at h
  repeat' (split at h; first | assumption | (exfalso; omega) | skip)
  all_goals (first | assumption | (exfalso; omega))
theorem rk_5 {t : Nat} (h : gRk t = 5) : t = 43 ∨ t = 45 := by
  by_cases c : t = 43
  · exact Or.inl c
  · by_cases c2 : t = 45
    · exact Or.inr c2
    · exfalso
      unfold gRk at h
      rw [if_neg c, if_neg c2] at h
      repeat' (split at h; first | (exfalso; omega) | skip)
      all_goals (first | contradiction | omega)
theorem rd_Term {K : GT} {P : GP} {S0 : xS} {c cn op : Nat} (hT : gTs K P) (hN : gNx K P cn S0) (hc : cn ≤ c) (h1 : gRX K P S0 m_Reader_readOne 7 c op) (hd : gRD P m_Reader_readOne c) : gRX K P S0 m_Reader_readTerm 6 (c + 1) op := by
  intro D i u S Q hD f0 hA hu hok hno
  obtain ⟨D, rfl⟩ : ∃ E, D = E + 1 := ⟨D - 1, by omega⟩
  have hl : 6 = 1 ∨ 6 = 2 ∨ 6 = 5 ∨ 6 = 6 := by decide
  have dead : ∀ j t T, gNo K 6 i op j → gDd P j T → Fr (fl fRd) S T → V (D + 1) 0 0 m_Reader_readTerm 6 [some R0v, some (.inl t)] [] T Q := by
    intro j t T g1 g2 g3
    refine V_go pk_29 [6] 60 ?_
    refine And.intro (fun _ => hno j T g1 g2 g3) (fun _ => ?_)
    refine And.intro (fun _ => hno j T g1 g2 g3) (fun q => ?_)
    have q : T.1 23 0 3 = nI 42 := q
    rw [g2.1] at q
    exact absurd q (by decide)
  have key : ∀ i2, (i2 < 160 → ∀ i3, i2 < i3 → ∀ e T t, gSrs K 6 i op i3 e → gAl K P i3 (u + e.length) op T → gCd S T u e → Fr (fl fRd) S T → t ≤ i3 → V (D + 1) 0 0 m_Reader_readTerm 6 [some R0v, some (.inl (nI t))] [] T Q) → ∀ e T t, gSrs K 6 i op i2 e → gAl K P i2 (u + e.length) op T → gCd S T u e → Fr (fl fRd) S T → t ≤ i2 → V (D + 1) 0 0 m_Reader_readTerm 6 [some R0v, some (.inl (nI t))] [] T Q := by
    intro i2 ih e T t gS gA gC gF ht
    have kk := (hT.1 i2).2.2.1
    have le := gA.le hT
    have fin : ¬ K.1 i2 = 42 → Q none T := fun hn => hok i2 e T ⟨gS.1.fi hl (fun q => hn (rk_6 q)), gS.2⟩ gA gC gF
    have hk : S.1 23 0 3 = S.1 23 0 3 := rfl
    refine V_go pk_29 [6] 60 ?_
    refine And.intro (fun q => ?_) (fun _ => ?_)
    · refine fin (fun e => ?_)
      have := gA.lt hT (by omega)
      exact absurd ((nI_leI (a := 160) (by omega) (by omega)).mp q) (by omega)
    refine And.intro (fun q => ?_) (fun q => ?_)
    · have q : ¬ T.1 23 0 3 = nI 42 := q
      rw [gA.1.2.1] at q
      exact fin (fun e => q (by rw [e]))
    · have q : T.1 23 0 3 = nI 42 := q
      rw [gA.1.2.1] at q
      have ek : K.1 i2 = 42 := (nI_eq (by omega) (by decide)).mp q
      have lt := gA.lt hT (by omega)
      have ih := ih lt
      refine hN D (i2 + 1) T _ (by omega) (f0.tr gF) gA.1.1 (fun T2 f2 g2 => ?_)
      have gA2 := gA.step hT (by omega) f2 g2
      have c2 : ∀ j, T2.1 26 0 j = T.1 26 0 j := fun j => f2.1 26 0 j rfl
      have lS := gS.2.2
      refine h1 D (i2 + 1) (u + e.length) T2 _ (by omega) (f0.tr (gF.tr (f2.wk (by decide)))) gA2 (by omega) (fun i3 e2 T3 r3 a3 k3 f3 => ?_) (fun j T3 n3 d3 f3 => ?_)
      · have l3 := r3.2.2
        have le3 := a3.le hT
        refine ct_emit (u := u + e.length + e2.length) (by omega) a3.2.1 ?_
        have s3 := gS.op hl (by rw [ek]; rfl) (by rw [ek]; exact it_42) r3
        rw [ek] at s3
        have k4 : gCd S T3 u (e ++ e2) := gC.ap (gCd.kp0 c2 k3)
        have k5 := k4.em (x := -(nI 42))
        have a5 := a3.em (x := -(nI 42))
        rw [List.length_append, ← Nat.add_assoc] at k5
        have a6 : gAl K P i3 (u + ((e ++ e2) ++ [-(nI 42)]).length) op (xupd (xupd T3 26 0 (u + e.length + e2.length) (-(nI 42))) 25 0 3 (nI (u + e.length + e2.length + 1))) := by
          rw [List.length_append, List.length_append, List.length_singleton, ← Nat.add_assoc, ← Nat.add_assoc]
          exact a5
        have g := ih i3 (by omega) _ _ (t + 1) s3 a6 k5 ((gF.tr (f2.wk (by decide))).tr (f3.tr ((Fr.up (S := T3) Fr.rf rfl).up rfl))) (by omega)
        rw [← nI_1 t] at g
        exact g
      · refine ct_emit_d d3 (fun T4 f4 d4 => ?_)
        exact dead j _ T4 (gS.1.no hl (by rw [ek]; rfl) n3) d4 ((gF.tr (f2.wk (by decide))).tr (f3.tr (f4.wk (by decide))))
  have loop : ∀ m i2, 160 ≤ i2 + m → ∀ e T t, gSrs K 6 i op i2 e → gAl K P i2 (u + e.length) op T → gCd S T u e → Fr (fl fRd) S T → t ≤ i2 → V (D + 1) 0 0 m_Reader_readTerm 6 [some R0v, some (.inl (nI t))] [] T Q := by
    intro m
    induction m with
    | zero => intro i2 hi; exact key i2 (fun q => by omega)
    | succ m ih => intro i2 hi; exact key i2 (fun _ i3 h3 => ih i3 (by omega))
  refine ct_of (xmok_all (by decide)) rfl (V_go (pc := 0) pk_29 [6] 20 ?_)
  refine h1 D i u S _ (by omega) f0 hA hu (fun i2 e T r a k f => ?_) (fun j T n d f => ?_)
  · exact loop 160 i2 (by omega) e T 0 (r.so hl) a k f (Nat.zero_le _)
  · exact dead j _ T (n.so hl) d f
theorem rd_Term_d {P : GP} {c : Nat} (hd : gRD P m_Reader_readOne c) : gRD P m_Reader_readTerm (c + 1) := by
  intro D j S Q hD h hq
  obtain ⟨D, rfl⟩ : ∃ E, D = E + 1 := ⟨D - 1, by omega⟩
  refine ct_of (xmok_all (by decide)) rfl (V_go (pc := 0) pk_29 [] 60 ?_)
  refine hd D j S _ (by omega) h (fun T f d => ?_)
  refine And.intro (fun q => absurd (show (160 : Int32) ≤ 0 from q) (by decide)) (fun _ => ?_)
  refine And.intro (fun _ => hq T f d) (fun q => ?_)
  have q : T.1 23 0 3 = nI 42 := q
  rw [d.1] at q
  exact absurd q (by decide)
