def exC (S : xS) (P D : Nat) : xS := hrC (hrC (ntC S P (S.1 0 0 13)) (D + 6) P 6) P (D + 6) 6
theorem ct_exch {d D P : Nat} {S : xS} {Q : xQ} (hP : P < 6) (hp : S.1 12 D 0 = nI P) (h : Q none (exC S P D)) : CT (d + 4) 0 0 m_C_exchangeNews [.inr (.inr (0, 0)), .inr (.inr (12, D))] S Q := by
  refine ct_of (xmok_all (by decide)) rfl (V_go (pc := 0) pk_88 [] 60 ?_)
  show CT (d + 3) 0 0 m_Sea_tellItself [.inr (.inr (1, 0)), .inl (S.1 12 D 0), .inl (S.1 0 0 13)] S _
  rw [hp]
  refine ct_tellItself hP ?_
  refine And.intro (by show vp_in (S.1 12 D 0) 6; rw [hp]; exact vi hP) ?_
  have ep : ((ntC S P (S.1 0 0 13)).1 12 D 0).toNatClampNeg = P := by
    show (S.1 12 D 0).toNatClampNeg = P
    rw [hp]; exact nI_clamp (by omega)
  show CT (d + 3) 0 0 m_News_hear [.inr (.inr (8, D + 6)), .inr (.inr (8, ((ntC S P (S.1 0 0 13)).1 12 D 0).toNatClampNeg))] (ntC S P (S.1 0 0 13)) _
  rw [ep]
  refine ct_hear ?_
  refine ct_hear ?_
  exact h
/-! the model's talk -/
def knM (S : xS) (P : Nat) : xS := xupd (xupd (xupd (xupd (xupd S 51 0 (7 * P) (S.1 36 0 0)) 52 0 (28 * P + 0) (mPrice S (nI P) (nI 0))) 52 0 (28 * P + 1) (mPrice S (nI P) (nI 1))) 52 0 (28 * P + 2) (mPrice S (nI P) (nI 2))) 52 0 (28 * P + 3) (mPrice S (nI P) (nI 3))
theorem ixk {k a g N : Nat} (h : k * a + g < N) (hk : k < 1000 := by decide) (hN : N < 2 ^ 31 := by decide) : nI k * nI a + nI g = nI (k * a + g) ∧ vp_in (nI k * nI a + nI g) N ∧ (nI k * nI a + nI g).toNatClampNeg = k * a + g := by
  have e : nI k * nI a + nI g = nI (k * a + g) := by rw [nI_mul, nI_add]
  rw [e]
  exact ⟨rfl, vi h hN, nI_clamp (by omega)⟩
theorem ct_know {d P : Nat} {p : Int32} {S : xS} {Q : xQ} (hP : P < 6) (hp : p = nI P) (h : Q none (knM S P)) : CT (d + 1) 0 0 m_M_know [.inr (.inr (36, 0)), .inl p] S Q := by
  subst hp
  have e7 : (7 : Int32) * nI P = nI (7 * P) := by rw [show (7 : Int32) = nI 7 from rfl, nI_mul]
  refine ct_of (xmok_all (by decide)) rfl (V_go (pc := 0) pk_139 [15] 20 ?_)
  refine And.intro (by show vp_in (7 * nI P) 60; rw [e7]; exact vi (by omega)) ?_
  have step : ∀ (S' : xS) (g : Nat), g < 4 → (∀ j, S'.1 39 0 j = S.1 39 0 j ∧ S'.1 40 0 j = S.1 40 0 j ∧ S'.1 41 0 j = S.1 41 0 j) → V (d + 1) 0 0 m_M_know 15 [some M0, some (.inl (nI P)), some (.inl (nI (g + 1)))] [] (xupd S' 52 0 (28 * P + g) (mPrice S (nI P) (nI g))) Q → V (d + 1) 0 0 m_M_know 15 [some M0, some (.inl (nI P)), some (.inl (nI g))] [] S' Q := by
    intro S' g hg hS hn
    have ig := ixk (k := 28) (a := P) (g := g) (N := 240) (by omega)
    refine V_go pk_139 [15] 30 ?_
    refine And.intro (fun q => absurd ((nI_leI (a := 4) (by decide) (by omega)).mp q) (by omega)) (fun _ => ?_)
    refine cM_price ⟨P, hP, rfl⟩ ⟨g, hg, rfl⟩ ?_
    refine And.intro ig.2.1 ?_
    show V (d + 1) 0 0 m_M_know 15 [some M0, some (.inl (nI P)), some (.inl (nI g + 1))] [] (xupd S' 52 0 (nI 28 * nI P + nI g).toNatClampNeg (mPrice S' (nI P) (nI g))) Q
    rw [ig.2.2, nI_1]
    have ep : mPrice S' (nI P) (nI g) = mPrice S (nI P) (nI g) := by
      unfold mPrice
      rw [(hS _).1, (hS _).2.1, (hS _).2.2]
    rw [ep]
    exact hn
  show V (d + 1) 0 0 m_M_know 15 [some M0, some (.inl (nI P)), some (.inl 0)] [] (xupd S 51 0 (7 * nI P).toNatClampNeg (S.1 36 0 0)) Q
  rw [e7, nI_clamp (show 7 * P < 2 ^ 31 by omega)]
  refine step _ 0 (by omega) (fun j => ⟨rfl, rfl, rfl⟩) ?_
  refine step _ 1 (by omega) (fun j => ⟨rfl, rfl, rfl⟩) ?_
  refine step _ 2 (by omega) (fun j => ⟨rfl, rfl, rfl⟩) ?_
  refine step _ 3 (by omega) (fun j => ⟨rfl, rfl, rfl⟩) ?_
  refine V_go pk_139 [15] 30 ?_
  exact And.intro (fun _ => h) (fun q => absurd (Int32.le_refl _) q)
def cpM (S : xS) (t f : Nat) : Nat → xS
  | 0 => S
  | g + 1 => xupd (cpM S t f g) 52 0 (4 * t + g) ((cpM S t f g).1 52 0 (4 * f + g))
def mh (S : xS) (t f : Nat) : xS := if S.1 51 0 t < S.1 51 0 f then cpM (xupd S 51 0 t (S.1 51 0 f)) t f 4 else S
theorem ct_M_hear {d t f : Nat} {x y : Int32} {S : xS} {Q : xQ} (hx : x = nI t) (hy : y = nI f) (ht : t < 60) (hf : f < 60) (h : Q none (mh S t f)) : CT d 0 0 m_M_hear [.inr (.inr (36, 0)), .inl x, .inl y] S Q := by
  subst hx; subst hy
  have et : (nI t).toNatClampNeg = t := nI_clamp (by omega)
  have ef : (nI f).toNatClampNeg = f := nI_clamp (by omega)
  refine ct_of (xmok_all (by decide)) rfl (V_go (pc := 0) pk_140 [29] 30 ?_)
  refine And.intro (vi (N := 60) hf) ?_
  refine And.intro (vi (N := 60) ht) ?_
  refine And.intro (fun c => ?_) (fun c => ?_)
  · have c : S.1 51 0 (nI f).toNatClampNeg ≤ S.1 51 0 (nI t).toNatClampNeg := c
    rw [et, ef] at c
    have : mh S t f = S := if_neg (Int32.not_lt.mpr c)
    rw [this] at h
    exact h
  · have c : ¬ S.1 51 0 (nI f).toNatClampNeg ≤ S.1 51 0 (nI t).toNatClampNeg := c
    rw [et, ef] at c
    have : mh S t f = cpM (xupd S 51 0 t (S.1 51 0 f)) t f 4 := if_pos (Int32.not_le.mp c)
    rw [this] at h
    refine And.intro (vi (N := 60) hf) ?_
    refine And.intro (vi (N := 60) ht) ?_
    have loop : ∀ m j, j + m = 4 → V d 0 0 m_M_hear 29 [some M0, some (.inl (nI t)), some (.inl (nI f)), some (.inl (nI j))] [] (cpM (xupd S 51 0 t (S.1 51 0 f)) t f j) Q := by
      intro m
      induction m with
      | zero =>
        intro j hj
        obtain rfl : j = 4 := by omega
        refine V_go pk_140 [29] 40 ?_
        exact And.intro (fun _ => h) (fun q => absurd (Int32.le_refl _) q)
      | succ m ih =>
        intro j hj
        have ih := ih (j + 1) (by omega)
        have it := ixk (k := 4) (a := t) (g := j) (N := 240) (by omega)
        have if_ := ixk (k := 4) (a := f) (g := j) (N := 240) (by omega)
        refine V_go pk_140 [29] 40 ?_
        refine And.intro (fun q => absurd ((nI_leI (a := 4) (by decide) (by omega)).mp q) (by omega)) (fun _ => ?_)
        refine And.intro if_.2.1 ?_
        refine And.intro it.2.1 ?_
        show V d 0 0 m_M_hear 29 [some M0, some (.inl (nI t)), some (.inl (nI f)), some (.inl (nI j + 1))] [] (xupd (cpM (xupd S 51 0 t (S.1 51 0 f)) t f j) 52 0 (nI 4 * nI t + nI j).toNatClampNeg ((cpM (xupd S 51 0 t (S.1 51 0 f)) t f j).1 52 0 (nI 4 * nI f + nI j).toNatClampNeg)) Q
        rw [nI_1, it.2.2, if_.2.2]
        exact ih
    show V d 0 0 m_M_hear 29 [some M0, some (.inl (nI t)), some (.inl (nI f)), some (.inl 0)] [] (xupd S 51 0 (nI t).toNatClampNeg (S.1 51 0 (nI f).toNatClampNeg)) Q
    rw [et, ef]
    exact loop 4 0 (by omega)
/-- talking with the first m ports' words: of the port P and of the dhow D -/
def tkM (S : xS) (P D : Nat) : Nat → xS
  | 0 => S
  | m + 1 => if (tkM S P D m).1 51 0 (36 + 6 * D + m) < (tkM S P D m).1 51 0 (6 * P + m) then mh (tkM S P D m) (36 + 6 * D + m) (6 * P + m) else mh (tkM S P D m) (6 * P + m) (36 + 6 * D + m)
theorem ixm {D q : Nat} (hD : D < 4) (hq : q < 6) : (36 : Int32) + 6 * nI D + nI q = nI (36 + 6 * D + q) := by rw [show (36 : Int32) = nI 36 from rfl, show (6 : Int32) = nI 6 from rfl, nI_mul, nI_add, nI_add]
def Kp (S S' : xS) : Prop := ∀ k i j, k ≠ 51 → k ≠ 52 → S'.1 k i j = S.1 k i j
theorem cpM_kp (S : xS) (t f : Nat) : ∀ g, Kp S (cpM S t f g)
  | 0, _, _, _, _, _ => rfl
  | g + 1, k, i, j, h1, h2 => by
    show (if k = 52 ∧ j = 4 * t + g ∧ i = 0 then _ else (cpM S t f g).1 k i j) = _
    rw [if_neg (fun q => h2 q.1)]
    exact cpM_kp S t f g k i j h1 h2
theorem mh_kp (S : xS) (t f : Nat) : Kp S (mh S t f) := by
  intro k i j h1 h2
  unfold mh
  by_cases c : S.1 51 0 t < S.1 51 0 f
  · rw [if_pos c, cpM_kp _ t f 4 k i j h1 h2]
    show (if k = 51 ∧ j = t ∧ i = 0 then _ else S.1 k i j) = _
    rw [if_neg (fun q => h1 q.1)]
  · rw [if_neg c]
theorem tkM_kp (S : xS) (P D : Nat) : ∀ m, Kp S (tkM S P D m)
  | 0, _, _, _, _, _ => rfl
  | m + 1, k, i, j, h1, h2 => by
    have ih := tkM_kp S P D m k i j h1 h2
    show (if (tkM S P D m).1 51 0 (36 + 6 * D + m) < (tkM S P D m).1 51 0 (6 * P + m) then mh (tkM S P D m) (36 + 6 * D + m) (6 * P + m) else mh (tkM S P D m) (6 * P + m) (36 + 6 * D + m)).1 k i j = _
    by_cases c : (tkM S P D m).1 51 0 (36 + 6 * D + m) < (tkM S P D m).1 51 0 (6 * P + m)
    · rw [if_pos c, mh_kp _ _ _ k i j h1 h2]; exact ih
    · rw [if_neg c, mh_kp _ _ _ k i j h1 h2]; exact ih
theorem ct_talk {d D P np : Nat} {x : Int32} {S : xS} {Q : xQ} (hx : x = nI D) (hD : D < 4) (hP : P < 6) (hp : S.1 43 0 D = nI P) (hn : S.1 36 0 1 = nI np) (hnp : np ≤ 6) (h : Q none (tkM (knM S P) P D np)) : CT (d + 2) 0 0 m_M_talk [.inr (.inr (36, 0)), .inl x] S Q := by
  subst hx
  have eD : (nI D).toNatClampNeg = D := nI_clamp (by omega)
  refine ct_of (xmok_all (by decide)) rfl (V_go (pc := 0) pk_138 [12] 20 ?_)
  refine And.intro (vi (N := 4) hD) ?_
  refine ct_know hP (by show S.1 43 0 (nI D).toNatClampNeg = nI P; rw [eD, hp]) ?_
  have k43 : ∀ m, (tkM (knM S P) P D m).1 43 0 D = nI P := fun m => (tkM_kp _ P D m 43 0 D (by decide) (by decide)).trans hp
  have k1 : ∀ m, (tkM (knM S P) P D m).1 36 0 1 = nI np := fun m => (tkM_kp _ P D m 36 0 1 (by decide) (by decide)).trans hn
  have loop : ∀ m j, j + m = np → ∀ o1 o2, V (d + 2) 0 0 m_M_talk 12 [some M0, some (.inl (nI D)), some (.inl (nI j)), o1, o2] [] (tkM (knM S P) P D j) Q := by
    intro m
    induction m with
    | zero =>
      intro j hj o1 o2
      obtain rfl : j = np := by omega
      refine V_go pk_138 [12] 40 ?_
      refine And.intro (fun _ => h) (fun q => absurd ?_ q)
      show (tkM (knM S P) P D j).1 36 0 1 ≤ nI j
      rw [k1]; exact Int32.le_refl _
    | succ m ih =>
      intro j hj o1 o2
      have ih := ih (j + 1) (by omega)
      have em : (36 : Int32) + 6 * nI D + nI j = nI (36 + 6 * D + j) := ixm hD (by omega)
      have ei : (6 : Int32) * (tkM (knM S P) P D j).1 43 0 (nI D).toNatClampNeg + nI j = nI (6 * P + j) := by rw [eD, k43, show (6 : Int32) = nI 6 from rfl, nI_mul, nI_add]
      have vm : vp_in (36 + 6 * nI D + nI j) 60 := by rw [em]; exact vi (by omega)
      have vit : vp_in (6 * (tkM (knM S P) P D j).1 43 0 (nI D).toNatClampNeg + nI j) 60 := by rw [ei]; exact vi (by omega)
      have cm : (nI (36 + 6 * D + j)).toNatClampNeg = 36 + 6 * D + j := nI_clamp (by omega)
      have ci : (nI (6 * P + j)).toNatClampNeg = 6 * P + j := nI_clamp (by omega)
      refine V_go pk_138 [12] 60 ?_
      refine And.intro (fun q => ?_) (fun _ => ?_)
      · have q : (tkM (knM S P) P D j).1 36 0 1 ≤ nI j := q
        rw [k1] at q
        exact absurd ((nI_leI (by omega) (by omega)).mp q) (by omega)
      · refine And.intro (vi (N := 4) hD) ?_
        refine And.intro vit ?_
        refine And.intro vm ?_
        refine And.intro (fun c => ?_) (fun c => ?_)
        · have c : (tkM (knM S P) P D j).1 51 0 (6 * (tkM (knM S P) P D j).1 43 0 (nI D).toNatClampNeg + nI j).toNatClampNeg ≤ (tkM (knM S P) P D j).1 51 0 (36 + 6 * nI D + nI j).toNatClampNeg := c
          rw [ei, em, cm, ci] at c
          have e : tkM (knM S P) P D (j + 1) = mh (tkM (knM S P) P D j) (6 * P + j) (36 + 6 * D + j) := if_neg (Int32.not_lt.mpr c)
          rw [e] at ih
          refine ct_M_hear (t := 6 * P + j) (f := 36 + 6 * D + j) ei em (by omega) (by omega) ?_
          show V (d + 2) 0 0 m_M_talk 12 [some M0, some (.inl (nI D)), some (.inl (nI j + 1)), some (.inl (36 + 6 * nI D + nI j)), some (.inl (6 * (tkM (knM S P) P D j).1 43 0 (nI D).toNatClampNeg + nI j))] [] (mh (tkM (knM S P) P D j) (6 * P + j) (36 + 6 * D + j)) Q
          rw [nI_1]
          exact ih _ _
        · have c : ¬ (tkM (knM S P) P D j).1 51 0 (6 * (tkM (knM S P) P D j).1 43 0 (nI D).toNatClampNeg + nI j).toNatClampNeg ≤ (tkM (knM S P) P D j).1 51 0 (36 + 6 * nI D + nI j).toNatClampNeg := c
          rw [ei, em, cm, ci] at c
          have e : tkM (knM S P) P D (j + 1) = mh (tkM (knM S P) P D j) (36 + 6 * D + j) (6 * P + j) := if_pos (Int32.not_le.mp c)
          rw [e] at ih
          refine ct_M_hear (t := 36 + 6 * D + j) (f := 6 * P + j) em ei (by omega) (by omega) ?_
          show V (d + 2) 0 0 m_M_talk 12 [some M0, some (.inl (nI D)), some (.inl (nI j + 1)), some (.inl (36 + 6 * nI D + nI j)), some (.inl (6 * (tkM (knM S P) P D j).1 43 0 (nI D).toNatClampNeg + nI j))] [] (mh (tkM (knM S P) P D j) (36 + 6 * D + j) (6 * P + j)) Q
          rw [nI_1]
          exact ih _ _
  exact loop np 0 (by omega) none none
