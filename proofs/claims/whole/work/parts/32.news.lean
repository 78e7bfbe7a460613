/-! news of the class: a port's own word, and hearing -/
def ntC (S : xS) (p : Nat) (y : Int32) : xS := xupd (xupd (xupd (xupd (xupd S 9 p p y) 10 p (4 * p) (pPrice S p 0)) 10 p (4 * p + 1) (pPrice S p 1)) 10 p (4 * p + 2) (pPrice S p 2)) 10 p (4 * p + 3) (pPrice S p 3)
theorem ix4r {a g N : Nat} (h : 4 * a + g < N) (hN : N < 2 ^ 31 := by decide) : nI a * (4 : Int32) + nI g = nI (4 * a + g) ∧ vp_in (nI a * 4 + nI g) N ∧ (nI a * (4 : Int32) + nI g).toNatClampNeg = 4 * a + g := by
  have e : nI a * (4 : Int32) + nI g = nI (4 * a + g) := by rw [show (4 : Int32) = nI 4 from rfl, nI_mul, nI_add, Nat.mul_comm a 4]
  rw [e]
  exact ⟨rfl, vi h hN, nI_clamp (by omega)⟩
theorem ct_tellItself {d P : Nat} {y : Int32} {S : xS} {Q : xQ} (hP : P < 6) (h : Q none (ntC S P y)) : CT (d + 3) 0 0 m_Sea_tellItself [.inr (.inr (1, 0)), .inl (nI P), .inl y] S Q := by
  have e : (nI P).toNatClampNeg = P := nI_clamp (by omega)
  have nt : ∀ {Q' : xQ}, Q' none (ntC S P y) → CT (d + 2) 0 0 m_News_note [.inr (.inr (8, P)), .inl (nI P), .inl y, .inr (.inr (4, P))] S Q' := by
    intro Q' hq
    have i0 := ix4r (a := P) (g := 0) (N := 24) (by omega)
    have i1 := ix4r (a := P) (g := 1) (N := 24) (by omega)
    have i2 := ix4r (a := P) (g := 2) (N := 24) (by omega)
    have i3 := ix4r (a := P) (g := 3) (N := 24) (by omega)
    refine ct_of (xmok_all (by decide)) rfl (V_go (pc := 0) pk_7 [10] 20 ?_)
    refine And.intro (vi (N := 6) hP) ?_
    have step : ∀ (S' : xS) (g : Nat), g < 4 → (∀ j, S'.1 5 P j = S.1 5 P j ∧ S'.1 6 P j = S.1 6 P j ∧ S'.1 7 P j = S.1 7 P j) → V (d + 2) 0 0 m_News_note 10 [some (.inr (.inr (8, P))), some (.inl (nI P)), some (.inl y), some (.inr (.inr (4, P))), some (.inl (nI (g + 1)))] [] (xupd S' 10 P (4 * P + g) (pPrice S P (nI g))) Q' → V (d + 2) 0 0 m_News_note 10 [some (.inr (.inr (8, P))), some (.inl (nI P)), some (.inl y), some (.inr (.inr (4, P))), some (.inl (nI g))] [] S' Q' := by
      intro S' g hg hS hn
      have ig := ix4r (a := P) (g := g) (N := 24) (by omega)
      refine V_go pk_7 [10] 30 ?_
      refine And.intro (fun q => absurd ((nI_leI (a := 4) (by decide) (by omega)).mp q) (by omega)) (fun _ => ?_)
      refine ct_Port_priceOf (vi (N := 4) hg) ?_
      refine And.intro ig.2.1 ?_
      show V (d + 2) 0 0 m_News_note 10 [some (.inr (.inr (8, P))), some (.inl (nI P)), some (.inl y), some (.inr (.inr (4, P))), some (.inl (nI g + 1))] [] (xupd S' 10 P (nI P * 4 + nI g).toNatClampNeg (pPrice S' P (nI g))) Q'
      rw [ig.2.2, nI_1]
      have ep : pPrice S' P (nI g) = pPrice S P (nI g) := by
        unfold pPrice
        rw [(hS _).1, (hS _).2.1, (hS _).2.2]
      rw [ep]
      exact hn
    show V (d + 2) 0 0 m_News_note 10 [some (.inr (.inr (8, P))), some (.inl (nI P)), some (.inl y), some (.inr (.inr (4, P))), some (.inl 0)] [] (xupd S 9 P (nI P).toNatClampNeg y) Q'
    rw [e]
    refine step _ 0 (by omega) (fun j => ⟨rfl, rfl, rfl⟩) ?_
    refine step _ 1 (by omega) (fun j => ⟨rfl, rfl, rfl⟩) ?_
    refine step _ 2 (by omega) (fun j => ⟨rfl, rfl, rfl⟩) ?_
    refine step _ 3 (by omega) (fun j => ⟨rfl, rfl, rfl⟩) ?_
    refine V_go pk_7 [10] 30 ?_
    exact And.intro (fun _ => hq) (fun q => absurd (Int32.le_refl _) q)
  refine ct_of (xmok_all (by decide)) rfl (V_go (pc := 0) pk_45 [] 40 ?_)
  refine And.intro (vi (N := 6) hP) ?_
  refine And.intro (vi (N := 6) hP) ?_
  show CT (d + 2) 0 0 m_News_note [.inr (.inr (8, (nI P).toNatClampNeg)), .inl (nI P), .inl y, .inr (.inr (4, (nI P).toNatClampNeg))] S _
  rw [e]
  exact nt h
/-- hearing the first m ports' words: news a from news o -/
def hrC (S : xS) (a o : Nat) : Nat → xS
  | 0 => S
  | m + 1 => if (hrC S a o m).1 9 a m < (hrC S a o m).1 9 o m then xcpy (xupd (hrC S a o m) 9 a m ((hrC S a o m).1 9 o m)) 10 o (4 * m) 10 a (4 * m) 4 else hrC S a o m
theorem ix4l {a N : Nat} (h : 4 * a < N) (hN : N < 2 ^ 31 := by decide) : nI a * (4 : Int32) = nI (4 * a) := by rw [show (4 : Int32) = nI 4 from rfl, nI_mul, Nat.mul_comm a 4]
theorem ct_hear {d a o : Nat} {S : xS} {Q : xQ} (h : Q none (hrC S a o 6)) : CT (d + 1) 0 0 m_News_hear [.inr (.inr (8, a)), .inr (.inr (8, o))] S Q := by
  have loop : ∀ m j, j + m = 6 → V (d + 1) 0 0 m_News_hear 2 [some (.inr (.inr (8, a))), some (.inr (.inr (8, o))), some (.inl (nI j))] [] (hrC S a o j) Q := by
    intro m
    induction m with
    | zero =>
      intro j hj
      obtain rfl : j = 6 := by omega
      refine V_go pk_8 [2] 40 ?_
      exact And.intro (fun _ => h) (fun q => absurd (Int32.le_refl _) q)
    | succ m ih =>
      intro j hj
      have ih := ih (j + 1) (by omega)
      have e : (nI j).toNatClampNeg = j := nI_clamp (by omega)
      have hv : vp_in (nI j) 6 := vi (by omega)
      have e4 := ix4l (a := j) (N := 24) (by omega)
      refine V_go pk_8 [2] 40 ?_
      refine And.intro (fun q => absurd ((nI_leI (a := 6) (by decide) (by omega)).mp q) (by omega)) (fun _ => ?_)
      refine And.intro hv ?_
      refine And.intro hv ?_
      refine And.intro (fun c => ?_) (fun c => ?_)
      · have c : (hrC S a o j).1 9 o (nI j).toNatClampNeg ≤ (hrC S a o j).1 9 a (nI j).toNatClampNeg := c
        rw [e] at c
        have eh : hrC S a o (j + 1) = hrC S a o j := if_neg (Int32.not_lt.mpr c)
        rw [eh] at ih
        show V (d + 1) 0 0 m_News_hear 2 [some (.inr (.inr (8, a))), some (.inr (.inr (8, o))), some (.inl (nI j + 1))] [] (hrC S a o j) Q
        rw [nI_1]; exact ih
      · have c : ¬ (hrC S a o j).1 9 o (nI j).toNatClampNeg ≤ (hrC S a o j).1 9 a (nI j).toNatClampNeg := c
        rw [e] at c
        have eh : hrC S a o (j + 1) = xcpy (xupd (hrC S a o j) 9 a j ((hrC S a o j).1 9 o j)) 10 o (4 * j) 10 a (4 * j) 4 := if_pos (Int32.not_le.mp c)
        rw [eh] at ih
        refine And.intro hv ?_
        refine And.intro hv ?_
        have n0 : ¬ nI j * 4 < 0 := by rw [e4]; exact nI_pos (by omega)
        have c4 : (nI j * 4).toNatClampNeg = 4 * j := by rw [e4]; exact nI_clamp (by omega)
        refine And.intro n0 (And.intro n0 (And.intro (by decide) (And.intro ?_ (And.intro ?_ ?_))))
        · show (nI j * 4).toNatClampNeg + 4 ≤ 24
          rw [c4]; omega
        · show (nI j * 4).toNatClampNeg + 4 ≤ 24
          rw [c4]; omega
        · show V (d + 1) 0 0 m_News_hear 2 [some (.inr (.inr (8, a))), some (.inr (.inr (8, o))), some (.inl (nI j + 1))] [] (xcpy (xupd (hrC S a o j) 9 a (nI j).toNatClampNeg ((hrC S a o j).1 9 o (nI j).toNatClampNeg)) 10 o (nI j * 4).toNatClampNeg 10 a (nI j * 4).toNatClampNeg 4) Q
          rw [nI_1, c4, e]; exact ih
  refine ct_of (xmok_all (by decide)) rfl (V_go (pc := 0) pk_8 [2] 20 ?_)
  exact loop 6 0 (by omega)
theorem hrC_off (S : xS) (a o : Nat) : ∀ m k i j, ¬ (k = 9 ∧ i = a) → ¬ (k = 10 ∧ i = a) → (hrC S a o m).1 k i j = S.1 k i j
  | 0, _, _, _, _, _ => rfl
  | m + 1, k, i, j, h1, h2 => by
    have ih := hrC_off S a o m k i j h1 h2
    show (if (hrC S a o m).1 9 a m < (hrC S a o m).1 9 o m then xcpy (xupd (hrC S a o m) 9 a m ((hrC S a o m).1 9 o m)) 10 o (4 * m) 10 a (4 * m) 4 else hrC S a o m).1 k i j = _
    by_cases c : (hrC S a o m).1 9 a m < (hrC S a o m).1 9 o m
    · rw [if_pos c]
      show (if k = 10 ∧ i = a ∧ 4 * m ≤ j ∧ j < 4 * m + 4 then _ else if k = 9 ∧ j = m ∧ i = a then _ else (hrC S a o m).1 k i j) = _
      rw [if_neg (fun q => h2 ⟨q.1, q.2.1⟩), if_neg (fun q => h1 ⟨q.1, q.2.2⟩)]
      exact ih
    · rw [if_neg c]; exact ih
theorem hrC_2 (S : xS) (a o : Nat) : ∀ m, (hrC S a o m).2 = S.2
  | 0 => rfl
  | m + 1 => by
    show (if (hrC S a o m).1 9 a m < (hrC S a o m).1 9 o m then xcpy (xupd (hrC S a o m) 9 a m ((hrC S a o m).1 9 o m)) 10 o (4 * m) 10 a (4 * m) 4 else hrC S a o m).2 = _
    by_cases c : (hrC S a o m).1 9 a m < (hrC S a o m).1 9 o m
    · rw [if_pos c]; exact hrC_2 S a o m
    · rw [if_neg c]; exact hrC_2 S a o m
theorem hrC_9 {S : xS} {a o : Nat} (h : a ≠ o) : ∀ m p, (hrC S a o m).1 9 a p = if p < m ∧ S.1 9 a p < S.1 9 o p then S.1 9 o p else S.1 9 a p
  | 0, p => by rw [if_neg (fun q => absurd q.1 (by omega))]; rfl
  | m + 1, p => by
    have ih := hrC_9 (S := S) h m
    have io : ∀ q, (hrC S a o m).1 9 o q = S.1 9 o q := fun q => hrC_off S a o m 9 o q (fun g => h g.2.symm) (fun g => absurd g.1 (by decide))
    have em : (hrC S a o m).1 9 a m = S.1 9 a m := by rw [ih m, if_neg (fun q => absurd q.1 (by omega))]
    show (if (hrC S a o m).1 9 a m < (hrC S a o m).1 9 o m then xcpy (xupd (hrC S a o m) 9 a m ((hrC S a o m).1 9 o m)) 10 o (4 * m) 10 a (4 * m) 4 else hrC S a o m).1 9 a p = _
    rw [em, io m]
    by_cases c : S.1 9 a m < S.1 9 o m
    · rw [if_pos c]
      show (if 9 = 9 ∧ p = m ∧ a = a then S.1 9 o m else (hrC S a o m).1 9 a p) = _
      by_cases e : p = m
      · subst e
        rw [if_pos ⟨rfl, rfl, rfl⟩, if_pos ⟨by omega, c⟩]
      · rw [if_neg (fun q => e q.2.1), ih p]
        by_cases c2 : p < m ∧ S.1 9 a p < S.1 9 o p
        · rw [if_pos c2, if_pos ⟨by omega, c2.2⟩]
        · rw [if_neg c2, if_neg (fun q => c2 ⟨by omega, q.2⟩)]
    · rw [if_neg c, ih p]
      by_cases c2 : p < m ∧ S.1 9 a p < S.1 9 o p
      · rw [if_pos c2, if_pos ⟨by omega, c2.2⟩]
      · rw [if_neg c2, if_neg (fun q => ?_)]
        by_cases e : p = m
        · subst e; exact c q.2
        · exact c2 ⟨by omega, q.2⟩
theorem hrC_10 {S : xS} {a o : Nat} (h : a ≠ o) : ∀ m j, (hrC S a o m).1 10 a j = if j / 4 < m ∧ S.1 9 a (j / 4) < S.1 9 o (j / 4) then S.1 10 o j else S.1 10 a j
  | 0, p => by rw [if_neg (fun q => absurd q.1 (by omega))]; rfl
  | m + 1, j => by
    have ih := hrC_10 (S := S) h m j
    have io : ∀ q, (hrC S a o m).1 9 o q = S.1 9 o q := fun q => hrC_off S a o m 9 o q (fun g => h g.2.symm) (fun g => absurd g.1 (by decide))
    have io2 : ∀ q, (hrC S a o m).1 10 o q = S.1 10 o q := fun q => hrC_off S a o m 10 o q (fun g => absurd g.1 (by decide)) (fun g => h g.2.symm)
    have em : (hrC S a o m).1 9 a m = S.1 9 a m := by rw [hrC_9 h m m, if_neg (fun q => absurd q.1 (by omega))]
    show (if (hrC S a o m).1 9 a m < (hrC S a o m).1 9 o m then xcpy (xupd (hrC S a o m) 9 a m ((hrC S a o m).1 9 o m)) 10 o (4 * m) 10 a (4 * m) 4 else hrC S a o m).1 10 a j = _
    rw [em, io m]
    by_cases c : S.1 9 a m < S.1 9 o m
    · rw [if_pos c]
      show (if 10 = 10 ∧ a = a ∧ 4 * m ≤ j ∧ j < 4 * m + 4 then (hrC S a o m).1 10 o (4 * m + (j - 4 * m)) else (hrC S a o m).1 10 a j) = _
      by_cases e : j / 4 = m
      · have c5 : 4 * m ≤ j ∧ j < 4 * m + 4 := by omega
        rw [if_pos ⟨rfl, rfl, c5⟩, show 4 * m + (j - 4 * m) = j by omega, io2, e, if_pos ⟨by omega, c⟩]
      · rw [if_neg (fun q => e (by omega)), ih]
        by_cases c2 : j / 4 < m ∧ S.1 9 a (j / 4) < S.1 9 o (j / 4)
        · rw [if_pos c2, if_pos ⟨by omega, c2.2⟩]
        · rw [if_neg c2, if_neg (fun q => c2 ⟨by omega, q.2⟩)]
    · rw [if_neg c, ih]
      by_cases c2 : j / 4 < m ∧ S.1 9 a (j / 4) < S.1 9 o (j / 4)
      · rw [if_pos c2, if_pos ⟨by omega, c2.2⟩]
      · rw [if_neg c2, if_neg (fun q => ?_)]
        by_cases e : j / 4 = m
        · rw [e] at q; exact c q.2
        · exact c2 ⟨by omega, q.2⟩
