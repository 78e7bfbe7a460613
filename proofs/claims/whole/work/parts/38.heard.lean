/-! heard -/
def okH (np nd : Nat) (w n p a : Int32) : Prop := ((w = 0 ∧ inC nd n) ∨ (w = 1 ∧ inC np n)) ∧ inC np p ∧ (-1 ≤ a ∧ a ≤ 3)
def rdC (S : xS) (X P : Nat) (a : Int32) : Int32 := if a = -1 ∨ S.1 9 X P = -1 then S.1 9 X P else S.1 10 X (4 * P + a.toNatClampNeg)
def rdM (S : xS) (W : Nat) (a : Int32) : Int32 := if S.1 51 0 W < 0 then -1 else if a = -1 then S.1 51 0 W else S.1 52 0 (4 * W + a.toNatClampNeg)
theorem good4 {a : Int32} (h : -1 ≤ a ∧ a ≤ 3) (h1 : ¬ a = -1) : inC 4 a := by
  have h0 : ¬ a < 0 := fun q => h1 ((ge_m1 h.1).mp q)
  exact (inC_iff' (c := 4) (by decide)).mp ⟨Int32.not_lt.mp h0, h.2⟩
theorem ct_knows {d X : Nat} {p : Int32} {S : xS} {Q : xQ} (hp : vp_in p 6) (h1 : ¬ S.1 9 X p.toNatClampNeg = -1 → Q (some (.inl 1)) S) (h0 : S.1 9 X p.toNatClampNeg = -1 → Q (some (.inl 0)) S) : CT d 0 0 m_News_knows [.inr (.inr (8, X)), .inl p] S Q := by
  refine ct_of (xmok_all (by decide)) rfl (V_go (pc := 0) pk_9 [] 40 ?_)
  refine And.intro hp ?_
  exact And.intro (fun c => And.intro (Or.inl rfl) (h0 c)) (fun c => And.intro (Or.inr rfl) (h1 c))
theorem ixp {c N : Nat} {x g : Int32} (hx : inC c x) (hg : inC 4 g) (hN : 4 * c ≤ N) (hN2 : N < 2 ^ 31 := by decide) : vp_in (x * 4 + g) N ∧ (x * 4 + g).toNatClampNeg = 4 * x.toNatClampNeg + g.toNatClampNeg := by
  obtain ⟨a, h1, rfl⟩ := hx
  obtain ⟨b, h2, rfl⟩ := hg
  have := ix4r (a := a) (g := b) (N := N) (by omega) hN2
  rw [nI_clamp (n := a) (by omega), nI_clamp (n := b) (by omega)]
  exact ⟨this.2.1, this.2.2⟩
theorem ct_News_priceOf {d X : Nat} {p g : Int32} {S : xS} {Q : xQ} (hp : inC 6 p) (hg : inC 4 g) (h : Q (some (.inl (S.1 10 X (4 * p.toNatClampNeg + g.toNatClampNeg)))) S) : CT d 0 0 m_News_priceOf [.inr (.inr (8, X)), .inl p, .inl g] S Q := by
  have i := ixp (N := 24) hp hg (by decide)
  rw [← i.2] at h
  refine ct_of (xmok_all (by decide)) rfl (V_go (pc := 0) pk_10 [] 40 ?_)
  exact And.intro i.1 h
theorem rd_go {d X : Nat} {w n p a : Int32} {S : xS} {Q : xQ} (hp : inC 6 p) (ha : -1 ≤ a ∧ a ≤ 3) (h : Q (some (.inl (rdC S X p.toNatClampNeg a))) S) : V (d + 1) 0 0 m_C_heard 129 [some C0, some (.inl w), some (.inl n), some (.inl p), some (.inl a), some (.inl 1), some (.inr (.inr (8, X)))] [] S Q := by
  unfold rdC at h
  have hp6 := hp.vp (N := 6) (by decide)
  refine V_go pk_92 [] 40 ?_
  refine And.intro (fun c => ?_) (fun c => ?_)
  · rw [if_pos (Or.inl c)] at h
    exact And.intro hp6 h
  · refine ct_knows hp6 (fun c2 => ?_) (fun c2 => ?_)
    · rw [if_neg (fun g => g.elim c c2)] at h
      (repeat' first | (refine And.intro (fun q => absurd q (by decide)) (fun _ => ?_)) | (refine And.intro (fun _ => ?_) (fun q => absurd q (by decide))) | fail)
      exact ct_News_priceOf hp (good4 ha c) h
    · rw [if_pos (Or.inr c2)] at h
      (repeat' first | (refine And.intro (fun q => absurd q (by decide)) (fun _ => ?_)) | (refine And.intro (fun _ => ?_) (fun q => absurd q (by decide))) | fail)
      exact And.intro hp6 h
theorem IC.note {n np t P : Nat} {S : xS} (hA : IA n S) (hn : n ≤ 600) (h : IC np t S) (hP : P < np) (hnp : np ≤ 6) : IC np t (ntC S P (nI t)) := by
  obtain ⟨h1, h2, h3⟩ := h
  refine ⟨fun p q hp hq hpq => ?_, fun d q hd hq => ?_, fun a q ha hq => ?_⟩
  · have e9 : (ntC S P (nI t)).1 9 p q = S.1 9 p q := by
      rw [ntC_9]
      by_cases e : p = P
      · subst e; rw [if_pos rfl]; exact if_neg (Ne.symm hpq)
      · rw [if_neg e]
    have e10 : ∀ g, g < 4 → (ntC S P (nI t)).1 10 p (4 * q + g) = S.1 10 p (4 * q + g) := fun g hg => by
      rw [ntC_10 _ _ _ _ _ _ hg]
      by_cases e : p = P
      · subst e; rw [if_pos rfl]; exact if_neg (Ne.symm hpq)
      · rw [if_neg e]
    rw [e9]
    exact ⟨(h1 p q hp hq hpq).1, fun g hg => by rw [e10 g hg]; exact (h1 p q hp hq hpq).2 g hg⟩
  · rw [ntC_9, if_neg (by omega)]
    exact ⟨(h2 d q hd hq).1, fun g hg => by rw [ntC_10 _ _ _ _ _ _ hg, if_neg (by omega)]; exact (h2 d q hd hq).2 g hg⟩
  · by_cases e : a = P
    · subst e
      rw [ntC_9, if_pos rfl]
      unfold aW
      by_cases e2 : q = a
      · subst e2
        rw [if_pos rfl]
        refine ⟨Or.inr ⟨hP, t, Nat.le_refl _, rfl⟩, fun g hg => ?_⟩
        rw [ntC_10 _ _ _ _ _ _ hg, if_pos rfl]
        unfold aP
        rw [if_pos rfl]
        obtain ⟨c, -, c2, c3⟩ := pr_b hA hn (P := q) (G := g) (by omega) hg
        exact ⟨c, c2, c3⟩
      · rw [if_neg e2]
        refine ⟨(h3 a q ha hq).1, fun g hg => ?_⟩
        rw [ntC_10 _ _ _ _ _ _ hg, if_pos rfl]
        unfold aP
        rw [if_neg e2]
        exact (h3 a q ha hq).2 g hg
    · rw [ntC_9, if_neg e]
      exact ⟨(h3 a q ha hq).1, fun g hg => by rw [ntC_10 _ _ _ _ _ _ hg, if_neg e]; exact (h3 a q ha hq).2 g hg⟩
theorem ntC_fr (S : xS) (P : Nat) (y : Int32) : Fr (fl [9, 10]) S (ntC S P y) := ((((Fr.rf.up rfl).up rfl).up rfl).up rfl).up rfl
theorem ct_M_heard {d np nd : Nat} {w n p a : Int32} {S : xS} {Q : xQ} (f8 : S.1 36 0 8 = nI nd) (f1 : S.1 36 0 1 = nI np) (b1 : np ≤ 6) (b2 : nd ≤ 4) (hb : ¬ okH np nd w n p a → Q (some (.inl (-2))) S) (hl : okH np nd w n p a → w = 0 → ¬ S.1 49 0 n.toNatClampNeg = 0 → Q (some (.inl (-1))) S) (h0 : okH np nd w n p a → w = 0 → S.1 49 0 n.toNatClampNeg = 0 → Q (some (.inl (rdM S (36 + 6 * n.toNatClampNeg + p.toNatClampNeg) a))) S)
    (hs : okH np nd w n p a → w = 1 → n = p → Q (some (.inl (if a = -1 then S.1 36 0 0 else mPrice S p a))) S) (h1 : okH np nd w n p a → w = 1 → ¬ n = p → Q (some (.inl (rdM S (6 * n.toNatClampNeg + p.toNatClampNeg) a))) S) : CT (d + 3) 0 0 m_M_heard [M0, .inl w, .inl n, .inl p, .inl a] S Q := by
  have bad : V (d + 3) 0 0 m_M_heard 60 [some M0, some (.inl w), some (.inl n), some (.inl p), some (.inl a), none, none] [] S Q ∨ okH np nd w n p a := by
    by_cases ok : okH np nd w n p a
    · exact Or.inr ok
    · refine Or.inl ?_
      refine V_go pk_143 [] 40 ?_
      (repeat' first | (refine And.intro (fun q => absurd q (by decide)) (fun _ => ?_)) | (refine And.intro (fun _ => ?_) (fun q => absurd q (by decide))) | fail)
      exact hb ok
  have go : ∀ (W : Nat) (x : Int32), x = nI W → W < 60 → (-1 ≤ a ∧ a ≤ 3) → Q (some (.inl (rdM S W a))) S → V (d + 3) 0 0 m_M_heard 140 [some M0, some (.inl w), some (.inl n), some (.inl p), some (.inl a), some (.inl 1), none] [.inl x] S Q := by
    intro W x hx hW ha hq
    have cW : x.toNatClampNeg = W := by rw [hx]; exact nI_clamp (by omega)
    have vW : vp_in x 60 := by rw [hx]; exact vi hW
    unfold rdM at hq
    refine V_go pk_143 [] 40 ?_
    refine And.intro vW ?_
    refine And.intro (fun c => ?_) (fun c => ?_)
    · have c : ¬ S.1 51 0 x.toNatClampNeg < 0 := Int32.not_lt.mpr c
      rw [cW] at c
      rw [if_neg c] at hq
      refine And.intro (fun c2 => ?_) (fun c2 => ?_)
      · rw [if_neg c2] at hq
        have i := ixg (c := 60) (N := 240) ⟨W, hW, hx⟩ (good4 ha c2) (by decide)
        refine And.intro i.1 ?_
        refine qi hq ?_ rfl
        show S.1 52 0 (4 * x + a).toNatClampNeg = _
        rw [i.2, cW]
      · rw [if_pos c2] at hq
        refine And.intro vW ?_
        refine qi hq ?_ rfl
        show S.1 51 0 x.toNatClampNeg = _
        rw [cW]
    · have c : S.1 51 0 x.toNatClampNeg < 0 := Int32.not_le.mp c
      rw [cW] at c
      rw [if_pos c] at hq
      exact hq
  have main : okH np nd w n p a → V (d + 3) 0 0 m_M_heard 71 [some M0, some (.inl w), some (.inl n), some (.inl p), some (.inl a), some (.inl 1), none] [] S Q := by
    intro ok
    have hl := hl ok
    have h0 := h0 ok
    have hs := hs ok
    have h1 := h1 ok
    obtain ⟨hw, hp, ha⟩ := ok
    rcases hw with ⟨rfl, hn⟩ | ⟨rfl, hn⟩
    · have hn4 := hn.vp (N := 4) b2
      have eW : (36 : Int32) + 6 * n + p = nI (36 + 6 * n.toNatClampNeg + p.toNatClampNeg) := by
        have := ixm (D := n.toNatClampNeg) (q := p.toNatClampNeg) (by have := hn.lt; omega) (by have := hp.lt; omega)
        rw [← hn.eq, ← hp.eq] at this
        exact this
      refine V_go pk_143 [140] 40 ?_
      (repeat' first | (refine And.intro (fun q => absurd q (by decide)) (fun _ => ?_)) | (refine And.intro (fun _ => ?_) (fun q => absurd q (by decide))) | fail)
      refine And.intro hn4 ?_
      refine And.intro (fun c => ?_) (fun c => hl rfl c)
      (repeat' first | (refine And.intro (fun q => absurd q (by decide)) (fun _ => ?_)) | (refine And.intro (fun _ => ?_) (fun q => absurd q (by decide))) | fail)
      exact go _ _ eW (by have := hn.lt; have := hp.lt; omega) ha (h0 rfl c)
    · have eW : (6 : Int32) * n + p = nI (6 * n.toNatClampNeg + p.toNatClampNeg) := by
        rw [show (6 : Int32) * n + p = nI 6 * nI n.toNatClampNeg + nI p.toNatClampNeg by rw [← hn.eq, ← hp.eq]; rfl, nI_mul, nI_add]
      refine V_go pk_143 [140] 40 ?_
      (repeat' first | (refine And.intro (fun q => absurd q (by decide)) (fun _ => ?_)) | (refine And.intro (fun _ => ?_) (fun q => absurd q (by decide))) | fail)
      refine And.intro (fun c => ?_) (fun c => ?_)
      · (repeat' first | (refine And.intro (fun q => absurd q (by decide)) (fun _ => ?_)) | (refine And.intro (fun _ => ?_) (fun q => absurd q (by decide))) | fail)
        exact go _ _ eW (by have := hn.lt; have := hp.lt; omega) ha (h1 rfl c)
      · have hs := hs rfl c
        refine And.intro (fun c2 => ?_) (fun c2 => ?_)
        · rw [if_neg c2] at hs
          exact cM_price (hp.mono b1) (good4 ha c2) hs
        · rw [if_pos c2] at hs
          exact hs
  have tail : ((w = 0 ∧ inC nd n) ∨ (w = 1 ∧ inC np n)) → V (d + 3) 0 0 m_M_heard 33 [some M0, some (.inl w), some (.inl n), some (.inl p), some (.inl a), none, none] [] S Q := by
    intro hw
    refine V_go pk_143 [60, 71] 40 ?_
    refine cM_isPort f1 (by omega) (fun hp => ?_) (fun q => ?_)
    · (repeat' first | (refine And.intro (fun q => absurd q (by decide)) (fun _ => ?_)) | (refine And.intro (fun _ => ?_) (fun q => absurd q (by decide))) | fail)
      refine ct_M_isIn32 (a := -1) (b := 3) rfl rfl (fun g1 g2 => ?_) (fun q => ?_)
      · (repeat' first | (refine And.intro (fun q => absurd q (by decide)) (fun _ => ?_)) | (refine And.intro (fun _ => ?_) (fun q => absurd q (by decide))) | fail)
        exact main ⟨hw, hp, g1, g2⟩
      · (repeat' first | (refine And.intro (fun q => absurd q (by decide)) (fun _ => ?_)) | (refine And.intro (fun _ => ?_) (fun q => absurd q (by decide))) | fail)
        exact bad.resolve_right (fun g => q g.2.2)
    · (repeat' first | (refine And.intro (fun q => absurd q (by decide)) (fun _ => ?_)) | (refine And.intro (fun _ => ?_) (fun q => absurd q (by decide))) | fail)
      exact bad.resolve_right (fun g => q g.2.1)
  refine ct_of (xmok_all (by decide)) rfl (V_go (pc := 0) pk_143 [60, 33] 40 ?_)
  refine cM_w 0 1 rfl rfl (by decide) (by decide) (fun hw => ?_) (fun q => ?_)
  · (repeat' first | (refine And.intro (fun q => absurd q (by decide)) (fun _ => ?_)) | (refine And.intro (fun _ => ?_) (fun q => absurd q (by decide))) | fail)
    obtain ⟨W, -, w2, rfl⟩ := hw
    have : W = 0 ∨ W = 1 := by omega
    rcases this with rfl | rfl
    · refine And.intro (fun g => absurd (show nI 0 = 0 from rfl) g) (fun _ => ?_)
      refine cM_isDhow f8 (by omega) (fun hn => ?_) (fun q => ?_)
      · (repeat' first | (refine And.intro (fun q => absurd q (by decide)) (fun _ => ?_)) | (refine And.intro (fun _ => ?_) (fun q => absurd q (by decide))) | fail)
        exact tail (Or.inl ⟨rfl, hn⟩)
      · (repeat' first | (refine And.intro (fun q => absurd q (by decide)) (fun _ => ?_)) | (refine And.intro (fun _ => ?_) (fun q => absurd q (by decide))) | fail)
        exact bad.resolve_right (fun g => g.1.elim (fun g => q g.2) (fun g => absurd g.1 (by decide)))
    · refine And.intro (fun _ => ?_) (fun g => absurd g (by decide))
      refine cM_isPort f1 (by omega) (fun hn => ?_) (fun q => ?_)
      · (repeat' first | (refine And.intro (fun q => absurd q (by decide)) (fun _ => ?_)) | (refine And.intro (fun _ => ?_) (fun q => absurd q (by decide))) | fail)
        exact tail (Or.inr ⟨rfl, hn⟩)
      · (repeat' first | (refine And.intro (fun q => absurd q (by decide)) (fun _ => ?_)) | (refine And.intro (fun _ => ?_) (fun q => absurd q (by decide))) | fail)
        exact bad.resolve_right (fun g => g.1.elim (fun g => absurd g.1 (by decide)) (fun g => q g.2))
  · (repeat' first | (refine And.intro (fun q => absurd q (by decide)) (fun _ => ?_)) | (refine And.intro (fun _ => ?_) (fun q => absurd q (by decide))) | fail)
    exact bad.resolve_right (fun g => q (g.1.elim (fun g => ⟨0, by omega, by omega, g.1⟩) (fun g => ⟨1, by omega, by omega, g.1⟩)))
theorem cT_tell {d : Nat} {x y : Int32} {S : xS} {Q : xQ} (hx : inC 6 x) (h : Q none (ntC S x.toNatClampNeg y)) : CT (d + 3) 0 0 m_Sea_tellItself [.inr (.inr (1, 0)), .inl x, .inl y] S Q := by
  obtain ⟨k, hk, rfl⟩ := hx
  rw [nI_clamp (show k < 2 ^ 31 by omega)] at h
  exact ct_tellItself hk h
theorem cm_heard {dp n0 np nd nv nt r t : Nat} {S : xS} (hn0 : n0 ≤ 600) (hN : IN np nd nv nt r t S) (hA : IA n0 S) (hB : IB n0 np nd t S) (hC : IC np t S) {w n p a : Int32} : CT (dp + 5) 0 0 m_C_heard [C0, .inl w, .inl n, .inl p, .inl a] S (fun q S1 => CT (dp + 5) 0 0 m_M_heard [M0, .inl w, .inl n, .inl p, .inl a] S1 (fun q' S2 => q' = q ∧ IC np t S2 ∧ Fr (fl [9, 10]) S S2)) := by
  obtain ⟨⟨b1, b2, b3, b4, b5, b6⟩, ⟨e1, e2⟩, ⟨e3, e4⟩, e7, e9, e11, e13, e14⟩ := id hN
  have hl : ∀ D, D < nd → IBl n0 np t D S := fun D hD => (hB D (by omega)).1 hD
  -- a word, read on both sides
  have rd : ∀ (S' : xS) X W, X < 10 → p.toNatClampNeg < 6 → (-1 ≤ a ∧ a ≤ 3) → IC np t S' → S'.1 51 0 W = S'.1 9 X p.toNatClampNeg → (∀ g, g < 4 → S'.1 52 0 (4 * W + g) = S'.1 10 X (4 * p.toNatClampNeg + g)) → rdM S' W a = rdC S' X p.toNatClampNeg a := by
    intro S' X W hX hp ha hC' g1 g2
    unfold rdM rdC
    rw [g1]
    rcases (hC'.2.2 X p.toNatClampNeg hX hp).1 with q | ⟨-, c, hc, q⟩
    · rw [q, if_pos (by decide), if_pos (Or.inr rfl)]
    · rw [q, if_neg (nI_pos (by omega))]
      have qm : ¬ nI c = -1 := fun g => by
        have := congrArg Int32.toInt g
        rw [nI_toInt (by omega), show (-1 : Int32).toInt = -1 from rfl] at this
        omega
      by_cases c2 : a = -1
      · rw [if_pos c2, if_pos (Or.inl c2)]
      · rw [if_neg c2, if_neg (fun g => g.elim c2 qm)]
        exact g2 _ (good4 ha c2).lt
  have bad : V (dp + 5) 0 0 m_C_heard 61 [some C0, some (.inl w), some (.inl n), some (.inl p), some (.inl a), some (.inl 1), none] [] S (fun q S1 => CT (dp + 5) 0 0 m_M_heard [M0, .inl w, .inl n, .inl p, .inl a] S1 (fun q' S2 => q' = q ∧ IC np t S2 ∧ Fr (fl [9, 10]) S S2)) ∨ okH np nd w n p a := by
    by_cases ok : okH np nd w n p a
    · exact Or.inr ok
    · refine Or.inl ?_
      refine V_go pk_92 [] 40 ?_
      exact ct_M_heard e4 e2 b1 b2 (fun _ => ⟨rfl, hC, Fr.rf⟩) (fun g => absurd g ok) (fun g => absurd g ok) (fun g => absurd g ok) (fun g => absurd g ok)
  have bad0 : V (dp + 5) 0 0 m_C_heard 32 [some C0, some (.inl w), some (.inl n), some (.inl p), some (.inl a), none, none] [] S (fun q S1 => CT (dp + 5) 0 0 m_M_heard [M0, .inl w, .inl n, .inl p, .inl a] S1 (fun q' S2 => q' = q ∧ IC np t S2 ∧ Fr (fl [9, 10]) S S2)) ∨ okH np nd w n p a := by
    by_cases ok : okH np nd w n p a
    · exact Or.inr ok
    · refine Or.inl ?_
      refine V_go pk_92 [] 40 ?_
      (repeat' first | (refine And.intro (fun q => absurd q (by decide)) (fun _ => ?_)) | (refine And.intro (fun _ => ?_) (fun q => absurd q (by decide))) | fail)
      exact ct_M_heard e4 e2 b1 b2 (fun _ => ⟨rfl, hC, Fr.rf⟩) (fun g => absurd g ok) (fun g => absurd g ok) (fun g => absurd g ok) (fun g => absurd g ok)
  have main : okH np nd w n p a → V (dp + 5) 0 0 m_C_heard 64 [some C0, some (.inl w), some (.inl n), some (.inl p), some (.inl a), some (.inl 1), none] [] S (fun q S1 => CT (dp + 5) 0 0 m_M_heard [M0, .inl w, .inl n, .inl p, .inl a] S1 (fun q' S2 => q' = q ∧ IC np t S2 ∧ Fr (fl [9, 10]) S S2)) := by
    intro ok
    obtain ⟨hw, hp, ha⟩ := id ok
    have hp6 := hp.mono b1
    rcases hw with ⟨rfl, hn⟩ | ⟨rfl, hn⟩
    · have hn4 := hn.vp (N := 4) b2
      have hb := hl _ hn.lt
      refine V_go pk_92 [129] 40 ?_
      (repeat' first | (refine And.intro (fun q => absurd q (by decide)) (fun _ => ?_)) | (refine And.intro (fun _ => ?_) (fun q => absurd q (by decide))) | fail)
      refine And.intro hn4 ?_
      refine And.intro (fun c => ?_) (fun c => ?_)
      · (repeat' first | (refine And.intro (fun q => absurd q (by decide)) (fun _ => ?_)) | (refine And.intro (fun _ => ?_) (fun q => absurd q (by decide))) | fail)
        refine And.intro hn4 ?_
        refine rd_go (X := n.toNatClampNeg + 6) hp6 ha ?_
        refine ct_M_heard e4 e2 b1 b2 (fun g => absurd ok g) (fun _ _ g => absurd (hb.lost.trans c) g) (fun _ _ _ => ⟨?_, hC, Fr.rf⟩) (fun _ g => absurd g (by decide)) (fun _ g => absurd g (by decide))
        have := hC.2.1 n.toNatClampNeg p.toNatClampNeg (by have := hn.lt; omega) hp6.lt
        rw [rd S (n.toNatClampNeg + 6) (36 + 6 * n.toNatClampNeg + p.toNatClampNeg) (by have := hn.lt; omega) hp6.lt ha hC (by rw [Nat.add_comm n.toNatClampNeg 6]; exact this.1) (fun g hg => by rw [Nat.add_comm n.toNatClampNeg 6]; exact this.2 g hg)]
      · exact ct_M_heard e4 e2 b1 b2 (fun g => absurd ok g) (fun _ _ _ => ⟨rfl, hC, Fr.rf⟩) (fun _ _ g => absurd (hb.lost.symm.trans g) c) (fun _ g => absurd g (by decide)) (fun _ g => absurd g (by decide))
    · have hn6 := hn.vp (N := 6) b1
      have hP6 : n.toNatClampNeg < 6 := by have := hn.lt; omega
      refine V_go pk_92 [129] 40 ?_
      (repeat' first | (refine And.intro (fun q => absurd q (by decide)) (fun _ => ?_)) | (refine And.intro (fun _ => ?_) (fun q => absurd q (by decide))) | fail)
      show CT (dp + 4) 0 0 m_Sea_tellItself [.inr (.inr (1, 0)), .inl n, .inl (S.1 0 0 13)] S _
      rw [e13]
      refine cT_tell (hn.mono b1) ?_
      (repeat' first | (refine And.intro (fun q => absurd q (by decide)) (fun _ => ?_)) | (refine And.intro (fun _ => ?_) (fun q => absurd q (by decide))) | fail)
      refine And.intro hn6 ?_
      have hC1 : IC np t (ntC S n.toNatClampNeg (nI t)) := hC.note hA hn0 hn.lt b1
      have f1 := ntC_fr S n.toNatClampNeg (nI t)
      refine rd_go (X := n.toNatClampNeg) hp6 ha ?_
      refine ct_M_heard (by exact e4) (by exact e2) b1 b2 (fun g => absurd ok g) (fun _ g => absurd g (by decide)) (fun _ g => absurd g (by decide)) (fun _ _ g => ⟨?_, hC1, f1⟩) (fun _ _ g => ⟨?_, hC1, f1⟩)
      · subst g
        have w9 : (ntC S n.toNatClampNeg (nI t)).1 9 n.toNatClampNeg n.toNatClampNeg = nI t := by rw [ntC_9, if_pos rfl]; exact if_pos rfl
        have tm : ¬ nI t = -1 := fun g => by
          have := congrArg Int32.toInt g
          rw [nI_toInt (by omega), show (-1 : Int32).toInt = -1 from rfl] at this
          omega
        unfold rdC
        rw [w9]
        by_cases c : a = -1
        · rw [if_pos c, if_pos (Or.inl c)]
          show some (Sum.inl (S.1 36 0 0)) = _
          rw [e14]
        · rw [if_neg c, if_neg (fun g => g.elim c tm)]
          have hg := good4 ha c
          rw [ntC_10 _ _ _ _ _ _ hg.lt, if_pos rfl]
          show some (Sum.inl (mPrice S n a)) = some (Sum.inl (aP S n.toNatClampNeg n.toNatClampNeg a.toNatClampNeg))
          unfold aP
          rw [if_pos rfl]
          have := pm_N hA (P := n.toNatClampNeg) (G := a.toNatClampNeg) hP6 hg.lt
          rw [← hp.eq, ← hg.eq] at this
          rw [this, ← hg.eq]
      · have hne : n.toNatClampNeg ≠ p.toNatClampNeg := fun q => g (by rw [hn.eq, hp.eq, q])
        have := hC1.1 n.toNatClampNeg p.toNatClampNeg hP6 hp6.lt hne
        rw [rd (ntC S n.toNatClampNeg (nI t)) n.toNatClampNeg (6 * n.toNatClampNeg + p.toNatClampNeg) (by omega) hp6.lt ha hC1 this.1 this.2]
  have tail : ((w = 0 ∧ inC nd n) ∨ (w = 1 ∧ inC np n)) → V (dp + 5) 0 0 m_C_heard 28 [some C0, some (.inl w), some (.inl n), some (.inl p), some (.inl a), none, none] [] S (fun q S1 => CT (dp + 5) 0 0 m_M_heard [M0, .inl w, .inl n, .inl p, .inl a] S1 (fun q' S2 => q' = q ∧ IC np t S2 ∧ Fr (fl [9, 10]) S S2)) := by
    intro hw
    refine V_go pk_92 [61, 64] 40 ?_
    (repeat' first | (refine And.intro (fun q => absurd q (by decide)) (fun _ => ?_)) | (refine And.intro (fun _ => ?_) (fun q => absurd q (by decide))) | fail)
    refine cC_hasPort e1 (by omega) (fun hp => ?_) (fun q => ?_)
    · (repeat' first | (refine And.intro (fun q => absurd q (by decide)) (fun _ => ?_)) | (refine And.intro (fun _ => ?_) (fun q => absurd q (by decide))) | fail)
      refine ct_within (fun g1 g2 => ?_) (fun q => ?_)
      · (repeat' first | (refine And.intro (fun q => absurd q (by decide)) (fun _ => ?_)) | (refine And.intro (fun _ => ?_) (fun q => absurd q (by decide))) | fail)
        exact main ⟨hw, hp, g1, g2⟩
      · (repeat' first | (refine And.intro (fun q => absurd q (by decide)) (fun _ => ?_)) | (refine And.intro (fun _ => ?_) (fun q => absurd q (by decide))) | fail)
        exact bad.resolve_right (fun g => q g.2.2)
    · (repeat' first | (refine And.intro (fun q => absurd q (by decide)) (fun _ => ?_)) | (refine And.intro (fun _ => ?_) (fun q => absurd q (by decide))) | fail)
      exact bad.resolve_right (fun g => q g.2.1)
  refine ct_of (xmok_all (by decide)) rfl (V_go (pc := 0) pk_92 [28, 32] 40 ?_)
  refine And.intro (fun w0 => ?_) (fun w0 => ?_)
  · refine And.intro (fun w1 => ?_) (fun w1 => ?_)
    · exact bad0.resolve_right (fun g => g.1.elim (fun g => w0 g.1) (fun g => w1 g.1))
    · refine cC_hasPort e1 (by omega) (fun hn => ?_) (fun q => ?_)
      · (repeat' first | (refine And.intro (fun q => absurd q (by decide)) (fun _ => ?_)) | (refine And.intro (fun _ => ?_) (fun q => absurd q (by decide))) | fail)
        exact tail (Or.inr ⟨w1, hn⟩)
      · (repeat' first | (refine And.intro (fun q => absurd q (by decide)) (fun _ => ?_)) | (refine And.intro (fun _ => ?_) (fun q => absurd q (by decide))) | fail)
        exact bad0.resolve_right (fun g => g.1.elim (fun g => w0 g.1) (fun g => q g.2))
  · have w0 : w = 0 := w0
    subst w0
    refine cC_isDhow e3 (by omega) (fun hn => ?_) (fun q => ?_)
    · (repeat' first | (refine And.intro (fun q => absurd q (by decide)) (fun _ => ?_)) | (refine And.intro (fun _ => ?_) (fun q => absurd q (by decide))) | fail)
      exact tail (Or.inl ⟨rfl, hn⟩)
    · (repeat' first | (refine And.intro (fun q => absurd q (by decide)) (fun _ => ?_)) | (refine And.intro (fun _ => ?_) (fun q => absurd q (by decide))) | fail)
      exact bad0.resolve_right (fun g => g.1.elim (fun g => q g.2) (fun g => absurd g.1 (by decide)))
