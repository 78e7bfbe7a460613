/-! the class's planner -/
def opI (o : Option Nat) : Int32 := match o with
  | none => -1
  | some x => nI x
def PCd (D : PlD) (S : xS) : Prop :=
  (D.np ≤ 6 ∧ D.hd ≤ 99 ∧ D.la ≤ 9999) ∧ S.1 1 0 2 = nI D.np ∧ S.1 31 0 7 = nI D.hd ∧ S.1 31 0 8 = nI D.la ∧
  (∀ q, q < 6 → (S.1 9 10 q = -1 ↔ D.kn q = false)) ∧
  (∀ q, q < 6 → D.kn q = true → ∀ g, g < 4 → S.1 10 10 (4 * q + g) = nI (D.pr q g) ∧ D.pr q g ≤ 99) ∧
  ∀ a b t, a < 6 → b < 6 → t ≤ 9999 → (D.wy a b t = none ∧ cCross S a b (t / 30 % 12) = -1) ∨ ∃ w, w ≤ 198 ∧ D.wy a b t = some w ∧ cCross S a b (t / 30 % 12) = nI w
abbrev suppPC : List Nat := [2002, 32007, 32008, 9, 10, 5000, 5001, 3]
theorem PCd.fr {D : PlD} {l : List Nat} {S S2 : xS} (f : Fr (fl l) S S2) (hd : suppPC.all (fun q => !l.elem q) = true) (h : PCd D S) : PCd D S2 := by
  have e0 : ∀ i, S2.1 1 i 2 = S.1 1 i 2 := fun i => f.off hd rfl
  have e1 : ∀ i, S2.1 31 i 7 = S.1 31 i 7 := fun i => f.off hd rfl
  have e2 : ∀ i, S2.1 31 i 8 = S.1 31 i 8 := fun i => f.off hd rfl
  have e3 : ∀ i j, S2.1 9 i j = S.1 9 i j := fun i j => f.off hd rfl
  have e4 : ∀ i j, S2.1 10 i j = S.1 10 i j := fun i j => f.off hd rfl
  have e5 : ∀ i, S2.1 4 i 0 = S.1 4 i 0 := fun i => f.off hd rfl
  have e6 : ∀ i, S2.1 4 i 1 = S.1 4 i 1 := fun i => f.off hd rfl
  have e7 : ∀ i j, S2.1 3 i j = S.1 3 i j := fun i j => f.off hd rfl
  unfold PCd cCross at h ⊢
  simp only [e0, e1, e2, e3, e4, e5, e6, e7]
  exact h
abbrev P0 : xV := .inr (.inr (31, 0))
theorem inC_nI {a c : Nat} (h : a < c) : inC c (nI a) := ⟨a, h, rfl⟩
theorem PlD.arr_kn {D : PlD} {a b t t1 : Nat} (h : D.arr a b t = some t1) : D.kn b = true ∧ t1 ≤ D.la := by
  unfold PlD.arr at h
  by_cases c : b = a ∨ ¬ b < D.np ∨ D.kn b = false
  · rw [if_pos c] at h; cases h
  · rw [if_neg c] at h
    refine ⟨Bool.not_eq_false _ ▸ (fun q => c (Or.inr (Or.inr q))), ?_⟩
    cases e : D.wy a b t with
    | none => rw [e] at h; cases h
    | some w =>
      rw [e] at h
      have h : (if t + w ≤ D.la then some (t + w) else none) = some t1 := h
      by_cases c2 : t + w ≤ D.la
      · rw [if_pos c2] at h; cases h; exact c2
      · rw [if_neg c2] at h; cases h
theorem ct_arrival {d a b t : Nat} {D : PlD} {S : xS} {Q : xQ} (hP : PCd D S) (ha : a < 6) (hb : b < D.np) (ht : t ≤ 9999) (h : Q (some (.inl (opI (D.arr a b t)))) S) : CT (d + 2) 0 0 m_Planner_arrival [P0, .inl (nI a), .inl (nI b), .inl (nI t)] S Q := by
  obtain ⟨⟨h1, h2, h3⟩, h4, h5, h6, h7, h8, h9⟩ := hP
  have eb : (nI b).toNatClampNeg = b := nI_clamp (by omega)
  have ea : (nI a).toNatClampNeg = a := nI_clamp (by omega)
  have hk := h7 b (by omega)
  have hw := h9 a b t ha (by omega) ht
  unfold PlD.arr at h
  obtain ⟨em, hm⟩ := mo_N (t := t) (by omega)
  refine ct_of (xmok_all (by decide)) rfl (V_go (pc := 0) pk_14 [] 60 ?_)
  refine And.intro (fun q => ?_) (fun q => ?_)
  · have q : a = b := (nI_eq (by omega) (by omega)).mp q
    rw [if_pos (Or.inl q.symm)] at h
    exact h
  · have q : ¬ b = a := fun g => q (by rw [g])
    refine ct_knows (vi (N := 6) (by omega)) (fun k => ?_) (fun k => ?_)
    · rw [eb] at k
      have kb : ¬ (b = a ∨ ¬ b < D.np ∨ D.kn b = false) := fun g => g.elim q (fun g => g.elim (fun g => g hb) (fun g => k (hk.mpr g)))
      rw [if_neg kb] at h
      (repeat' first | (refine And.intro (fun q => absurd q (by decide)) (fun _ => ?_)) | (refine And.intro (fun _ => ?_) (fun q => absurd q (by decide))) | fail)
      refine ct_crossing (inC_nI ha) (inC_nI (by omega)) hm ?_
      rw [ea, eb, em]
      rcases hw with ⟨w1, w2⟩ | ⟨w, w0, w1, w2⟩
      · rw [w1] at h
        rw [w2]
        (repeat' first | (refine And.intro (fun q => absurd q (by decide)) (fun _ => ?_)) | (refine And.intro (fun _ => ?_) (fun q => absurd q (by decide))) | fail)
        exact h
      · rw [w1] at h
        rw [w2]
        refine And.intro (fun g => absurd g (nI_m (by omega))) (fun _ => ?_)
        refine And.intro (fun g => ?_) (fun g => ?_)
        · have g : nI t + nI w ≤ S.1 31 0 8 := g
          rw [nI_add, h6] at g
          have g := (nI_leI (by omega) (by omega)).mp g
          have h : Q (some (.inl (opI (if t + w ≤ D.la then some (t + w) else none)))) S := h
          rw [if_pos g] at h
          refine qi h ?_ rfl
          rw [nI_add]; rfl
        · have g : ¬ nI t + nI w ≤ S.1 31 0 8 := g
          rw [nI_add, h6] at g
          have h : Q (some (.inl (opI (if t + w ≤ D.la then some (t + w) else none)))) S := h
          rw [if_neg (fun c => g ((nI_leI (by omega) (by omega)).mpr c))] at h
          exact h
    · rw [eb] at k
      rw [if_pos (Or.inr (Or.inr (hk.mp k)))] at h
      (repeat' first | (refine And.intro (fun q => absurd q (by decide)) (fun _ => ?_)) | (refine And.intro (fun _ => ?_) (fun q => absurd q (by decide))) | fail)
      exact h
theorem aft_I {c n p q : Nat} (h : n * p ≤ c) (hc : c < 2 ^ 31) : nI c + nI n * (nI q - nI p) = nI (c - n * p + n * q) := by
  rw [← nI_add, ← nI_sb h hc, ← nI_mul, ← nI_mul, Int32.mul_sub, Int32.sub_eq_add_neg, Int32.sub_eq_add_neg, Int32.add_assoc, Int32.add_comm (-(nI n * nI p))]
theorem ct_coinsAfter {d a b g c : Nat} {D : PlD} {S : xS} {Q : xQ} (hP : PCd D S) (ha : a < 6) (hb : b < 6) (ka : D.kn a = true) (kb : D.kn b = true) (hc : c < 2 ^ 31) (hg : g ≤ 4) (h : Q (some (.inl (nI (D.aft a b g c)))) S) : CT (d + 1) 0 0 m_Planner_coinsAfter [P0, .inl (nI a), .inl (nI b), .inl (nI g), .inl (nI c)] S Q := by
  obtain ⟨⟨h1, h2, h3⟩, h4, h5, h6, h7, h8, h9⟩ := hP
  have eb : (nI b).toNatClampNeg = b := nI_clamp (by omega)
  have ea : (nI a).toNatClampNeg = a := nI_clamp (by omega)
  have eg : (nI g).toNatClampNeg = g := nI_clamp (by omega)
  unfold PlD.aft at h
  refine ct_of (xmok_all (by decide)) rfl (V_go (pc := 0) pk_16 [] 60 ?_)
  refine And.intro (fun q => ?_) (fun q => ?_)
  · have q : g < 4 := (nI_ltI (b := 4) (by omega) (by omega)).mp q
    rw [if_pos q] at h
    obtain ⟨pa, pa9⟩ := h8 a ha ka g q
    obtain ⟨pb, pb9⟩ := h8 b hb kb g q
    refine ct_News_priceOf (inC_nI ha) (inC_nI q) ?_
    rw [ea, eg, pa]
    have e1 : nI (D.pr a g) + 1 = nI (D.pr a g + 1) := nI_1 _
    refine And.intro (fun k => ?_) (fun k => absurd ?_ k)
    · rw [e1]
      refine And.intro (nI_ne0 (by omega) (by omega)) ?_
      have em : (if nI c / nI (D.pr a g + 1) < S.1 31 0 7 then nI c / nI (D.pr a g + 1) else S.1 31 0 7) = nI (D.cnt a g c) := by
        rw [h5, nI_div hc (by omega) (by omega)]
        have hd : c / (D.pr a g + 1) < 2 ^ 31 := Nat.lt_of_le_of_lt (Nat.div_le_self _ _) hc
        unfold PlD.cnt
        by_cases z : c / (D.pr a g + 1) < D.hd
        · rw [if_pos (nI_lt z (by omega)), Nat.min_eq_right (by omega)]
        · rw [if_neg (fun y => z ((nI_ltI hd (by omega)).mp y)), Nat.min_eq_left (by omega)]
      refine ct_News_priceOf (inC_nI hb) (inC_nI q) ?_
      rw [eb, eg, pb]
      refine qi h ?_ rfl
      show nI c + (if nI c / nI (D.pr a g + 1) < S.1 31 0 7 then nI c / nI (D.pr a g + 1) else S.1 31 0 7) * (nI (D.pr b g) - nI (D.pr a g + 1)) = _
      rw [em]
      exact aft_I PlD.cnt_le hc
    · show 0 < nI (D.pr a g) + 1
      rw [e1]
      exact nI_lt (a := 0) (by omega) (by omega)
  · have q : ¬ g < 4 := fun k => q ((nI_ltI (b := 4) (by omega) (by omega)).mpr k)
    rw [if_neg q] at h
    exact h
theorem PlD.aft_le {D : PlD} {a b g c : Nat} (h : D.hd ≤ 99) (hp : g < 4 → D.pr b g ≤ 99) : D.aft a b g c ≤ c + 9801 := by
  unfold PlD.aft
  by_cases q : g < 4
  · rw [if_pos q]
    have h1 : D.cnt a g c ≤ 99 := Nat.le_trans (Nat.min_le_left _ _) h
    have h2 := Nat.mul_le_mul h1 (hp q)
    omega
  · rw [if_neg q]; omega
theorem ct_mostByOneLeg {d a b c : Nat} {D : PlD} {S : xS} {Q : xQ} (hP : PCd D S) (ha : a < 6) (hb : b < 6) (ka : D.kn a = true) (kb : D.kn b = true) (hc : c < 2 ^ 30) (h : Q (some (.inl (nI (D.one a b c)))) S) : CT (d + 2) 0 0 m_Planner_mostByOneLeg [P0, .inl (nI a), .inl (nI b), .inl (nI c)] S Q := by
  have hp : ∀ g, g < 4 → D.pr b g ≤ 99 := fun g hg => (hP.2.2.2.2.2.1 b hb kb g hg).2
  have bd : ∀ g, g ≤ 4 → D.oneP a b c g ≤ c + 9801 := by
    intro g
    induction g with
    | zero => intro _; show c ≤ c + 9801; omega
    | succ g ih =>
      intro hg
      show max (D.oneP a b c g) (D.aft a b g c) ≤ c + 9801
      have h1 := ih (by omega)
      have h2 := PlD.aft_le (D := D) (a := a) (b := b) (g := g) (c := c) hP.1.2.1 (hp g)
      exact Nat.max_le.mpr ⟨h1, h2⟩
  have loop : ∀ k j, j + k = 4 → V (d + 2) 0 0 m_Planner_mostByOneLeg 6 [some P0, some (.inl (nI a)), some (.inl (nI b)), some (.inl (nI c)), some (.inl (nI (D.oneP a b c j))), some (.inl (nI j))] [] S Q := by
    intro k
    induction k with
    | zero =>
      intro j hj
      obtain rfl : j = 4 := by omega
      refine V_go pk_15 [6] 40 ?_
      refine And.intro (fun _ => h) (fun q => absurd ?_ q)
      exact Int32.le_refl (nI 4)
    | succ k ih =>
      intro j hj
      have ih := ih (j + 1) (by omega)
      have e : D.oneP a b c (j + 1) = max (D.oneP a b c j) (D.aft a b j c) := rfl
      have b1 := bd j (by omega)
      have b2 := PlD.aft_le (D := D) (a := a) (b := b) (g := j) (c := c) hP.1.2.1 (hp j)
      rw [e, ← nI_1] at ih
      refine V_go pk_15 [6] 40 ?_
      refine And.intro (fun q => ?_) (fun _ => ?_)
      · have q : nI 4 ≤ nI j := q
        exact absurd ((nI_leI (by omega) (by omega)).mp q) (by omega)
      · refine ct_coinsAfter hP ha hb ka kb (by omega) (by omega) ?_
        have em : (if nI (D.oneP a b c j) < nI (D.aft a b j c) then nI (D.aft a b j c) else nI (D.oneP a b c j)) = nI (max (D.oneP a b c j) (D.aft a b j c)) := by
          by_cases z : D.oneP a b c j < D.aft a b j c
          · rw [if_pos (nI_lt z (by omega)), Nat.max_eq_right (by omega)]
          · rw [if_neg (fun y => z ((nI_ltI (by omega) (by omega)).mp y)), Nat.max_eq_left (by omega)]
        rw [← em] at ih
        exact ih
  refine ct_of (xmok_all (by decide)) rfl (V_go (pc := 0) pk_15 [6] 20 ?_)
  exact loop 4 0 (by omega)
