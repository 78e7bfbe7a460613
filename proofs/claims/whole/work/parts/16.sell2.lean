/-! the same checks, with the numbers as they are -/
theorem inC.lt {c : Nat} {x : Int32} (h : inC c x) (hc : c < 2 ^ 31 := by omega) : x.toNatClampNeg < c := by
  obtain ⟨k, h1, rfl⟩ := h
  rw [nI_clamp (by omega)]; exact h1
theorem inC.vp {c N : Nat} {x : Int32} (h : inC c x) (hc : c ≤ N) (hN : N < 2 ^ 31 := by decide) : vp_in x N := by
  obtain ⟨k, h1, rfl⟩ := h
  exact vi (by omega) hN
theorem inC.eq {c : Nat} {x : Int32} (h : inC c x) (hc : c < 2 ^ 31 := by omega) : x = nI x.toNatClampNeg := by
  obtain ⟨k, h1, rfl⟩ := h
  rw [nI_clamp (by omega)]
theorem cC_isDhow {d c : Nat} {x : Int32} {S : xS} {Q : xQ} (hc : S.1 0 0 9 = nI c) (hh : c < 2 ^ 31) (h1 : inC c x → Q (some (.inl 1)) S) (h0 : ¬ inC c x → Q (some (.inl 0)) S) : CT (d + 1) 0 0 m_C_isDhow [.inr (.inr (0, 0)), .inl x] S Q := ct_C_isDhow hc hh (fun k a b => h1 ⟨k, a, b⟩) h0
theorem cC_isVenture {d c : Nat} {x : Int32} {S : xS} {Q : xQ} (hc : S.1 0 0 10 = nI c) (hh : c < 2 ^ 31) (h1 : inC c x → Q (some (.inl 1)) S) (h0 : ¬ inC c x → Q (some (.inl 0)) S) : CT (d + 1) 0 0 m_C_isVenture [.inr (.inr (0, 0)), .inl x] S Q := ct_C_isVenture hc hh (fun k a b => h1 ⟨k, a, b⟩) h0
theorem cC_isText {d c : Nat} {x : Int32} {S : xS} {Q : xQ} (hc : S.1 0 0 11 = nI c) (hh : c < 2 ^ 31) (h1 : inC c x → Q (some (.inl 1)) S) (h0 : ¬ inC c x → Q (some (.inl 0)) S) : CT (d + 1) 0 0 m_C_isText [.inr (.inr (0, 0)), .inl x] S Q := ct_C_isText hc hh (fun k a b => h1 ⟨k, a, b⟩) h0
theorem cC_hasPort {d c : Nat} {x : Int32} {S : xS} {Q : xQ} (hc : S.1 1 0 2 = nI c) (hh : c < 2 ^ 31) (h1 : inC c x → Q (some (.inl 1)) S) (h0 : ¬ inC c x → Q (some (.inl 0)) S) : CT (d + 1) 0 0 m_Sea_has [.inr (.inr (1, 0)), .inl x] S Q := ct_C_hasPort hc hh (fun k a b => h1 ⟨k, a, b⟩) h0
theorem cC_good {d : Nat} {x : Int32} {S : xS} {Q : xQ} (h1 : inC 4 x → Q (some (.inl 1)) S) (h0 : ¬ inC 4 x → Q (some (.inl 0)) S) : CT (d + 1) 0 0 m_C_isGood [.inl x] S Q := ct_C_good (fun k a b => h1 ⟨k, a, b⟩) h0
theorem cC_sheet {d : Nat} {x : Int32} {S : xS} {Q : xQ} (h1 : inC 4 x → Q (some (.inl 1)) S) (h0 : ¬ inC 4 x → Q (some (.inl 0)) S) : CT (d + 1) 0 0 m_C_isSheet [.inl x] S Q := ct_C_sheet (fun k a b => h1 ⟨k, a, b⟩) h0
theorem cM_isDhow {d c : Nat} {x : Int32} {S : xS} {Q : xQ} (hc : S.1 36 0 8 = nI c) (hh : c < 2 ^ 31) (h1 : inC c x → Q (some (.inl 1)) S) (h0 : ¬ inC c x → Q (some (.inl 0)) S) : CT d 0 0 m_M_isDhow [.inr (.inr (36, 0)), .inl x] S Q := ct_M_isDhow hc hh (fun k a b => h1 ⟨k, a, b⟩) h0
theorem cM_isVenture {d c : Nat} {x : Int32} {S : xS} {Q : xQ} (hc : S.1 36 0 19 = nI c) (hh : c < 2 ^ 31) (h1 : inC c x → Q (some (.inl 1)) S) (h0 : ¬ inC c x → Q (some (.inl 0)) S) : CT d 0 0 m_M_isVenture [.inr (.inr (36, 0)), .inl x] S Q := ct_M_isVenture hc hh (fun k a b => h1 ⟨k, a, b⟩) h0
theorem cM_isPort {d c : Nat} {x : Int32} {S : xS} {Q : xQ} (hc : S.1 36 0 1 = nI c) (hh : c < 2 ^ 31) (h1 : inC c x → Q (some (.inl 1)) S) (h0 : ¬ inC c x → Q (some (.inl 0)) S) : CT d 0 0 m_M_isPort [.inr (.inr (36, 0)), .inl x] S Q := ct_M_port_is hc hh (fun k a b => h1 ⟨k, a, b⟩) h0
theorem cM_good {d : Nat} {x : Int32} {S : xS} {Q : xQ} (h1 : inC 4 x → Q (some (.inl 1)) S) (h0 : ¬ inC 4 x → Q (some (.inl 0)) S) : CT (d + 1) 0 0 m_M_isGood [.inl x] S Q := ct_M_good (fun k a b => h1 ⟨k, a, b⟩) h0
theorem cC_w {d : Nat} {x a b : Int32} {S : xS} {Q : xQ} (lo hi : Nat) (ha : a = nI lo) (hb : b = nI hi) (hh : hi < 2 ^ 31) (hl : lo ≤ hi) (h1 : inR lo hi x → Q (some (.inl 1)) S) (h0 : ¬ inR lo hi x → Q (some (.inl 0)) S) : CT d 0 0 m_C_within [.inl x, .inl a, .inl b] S Q := ct_w lo hi ha hb hh hl (fun k a b c => h1 ⟨k, a, b, c⟩) h0
theorem cM_w {d : Nat} {x : Int32} {a b : Int64} {S : xS} {Q : xQ} (lo hi : Nat) (ha : (nI lo).toInt64 = a) (hb : (nI hi).toInt64 = b) (hh : hi < 2 ^ 31) (hl : lo ≤ hi) (h1 : inR lo hi x → Q (some (.inl 1)) S) (h0 : ¬ inR lo hi x → Q (some (.inl 0)) S) : CT d 0 0 m_M_isIn [.inr (.inl x.toInt64), .inr (.inl a), .inr (.inl b)] S Q := ct_mw lo hi ha hb hh hl (fun k a b c => h1 ⟨k, a, b, c⟩) h0
theorem cM_isThere {d : Nat} {x : Int32} (hx : inC 4 x) {S : xS} {Q : xQ} (h1 : S.1 49 0 x.toNatClampNeg = 0 → S.1 44 0 x.toNatClampNeg = -1 → Q (some (.inl 1)) S) (h0 : ¬ (S.1 49 0 x.toNatClampNeg = 0 ∧ S.1 44 0 x.toNatClampNeg = -1) → Q (some (.inl 0)) S) : CT d 0 0 m_M_isThere [.inr (.inr (36, 0)), .inl x] S Q := by
  refine ct_of (xmok_all (by decide)) rfl (V_go (pc := 0) pk_135 [] 50 ?_)
  refine And.intro (hx.vp (N := 4) (by decide)) ?_
  refine And.intro (fun c1 => And.intro (Or.inl rfl) (h0 (fun g => c1 g.1))) (fun c1 => ?_)
  refine And.intro (hx.vp (N := 4) (by decide)) ?_
  refine And.intro (fun c2 => And.intro (Or.inl rfl) (h0 (fun g => c2 g.2))) (fun c2 => And.intro (Or.inr rfl) (h1 c1 c2))
theorem inC.mono {c c' : Nat} {x : Int32} (h : inC c x) (hc : c ≤ c') : inC c' x := by
  obtain ⟨k, h1, e⟩ := h
  exact ⟨k, by omega, e⟩
/-- the place of x, g in rows of four -/
theorem ixg {c N : Nat} {x g : Int32} (hx : inC c x) (hg : inC 4 g) (hN : 4 * c ≤ N) (hN2 : N < 2 ^ 31 := by decide) : vp_in (4 * x + g) N ∧ (4 * x + g).toNatClampNeg = 4 * x.toNatClampNeg + g.toNatClampNeg := by
  obtain ⟨a, h1, rfl⟩ := hx
  obtain ⟨b, h2, rfl⟩ := hg
  have := ix4 (a := a) (g := b) (N := N) (by omega) hN2
  rw [nI_clamp (n := a) (by omega), nI_clamp (n := b) (by omega)]
  exact ⟨this.2.1, this.2.2⟩
theorem cM_price {d : Nat} {p g : Int32} {S : xS} {Q : xQ} (hp : inC 6 p) (hg : inC 4 g) (h : Q (some (.inl (mPrice S p g))) S) : CT d 0 0 m_M_priceOf [.inr (.inr (36, 0)), .inl p, .inl g] S Q := ct_M_priceOf (ixg hp hg (by decide)).1 h
/-! sell -/
def okSell (nd : Nat) (x g k : Int32) : Prop := inC nd x ∧ inC 4 g ∧ 1 ≤ k
def cThere (S : xS) (D : Nat) : Prop := ¬ S.1 12 D 0 = -1 ∧ S.1 12 D 1 = -1
def mThere (S : xS) (D : Nat) : Prop := S.1 49 0 D = 0 ∧ S.1 44 0 D = -1
theorem ct_C_sell {d nd : Nat} {x g k : Int32} {S : xS} {Q : xQ} (e3 : S.1 0 0 9 = nI nd) (b : nd ≤ 4) (hP : ∀ D, D < nd → ¬ S.1 12 D 0 = -1 → inC 6 (S.1 12 D 0)) (hb : ¬ okSell nd x g k → Q (some (.inl (-2))) S)
    (hs : okSell nd x g k → ¬ (cThere S x.toNatClampNeg ∧ k ≤ S.1 13 x.toNatClampNeg g.toNatClampNeg) → Q (some (.inl (-3))) S)
    (hk : okSell nd x g k → cThere S x.toNatClampNeg → k ≤ S.1 13 x.toNatClampNeg g.toNatClampNeg → Q (some (.inl (S.1 12 x.toNatClampNeg 4 + k * pPrice S (S.1 12 x.toNatClampNeg 0).toNatClampNeg g)))
      (xupd (xupd (xupd S 12 x.toNatClampNeg 4 (S.1 12 x.toNatClampNeg 4 + k * pPrice S (S.1 12 x.toNatClampNeg 0).toNatClampNeg g)) 13 x.toNatClampNeg g.toNatClampNeg (S.1 13 x.toNatClampNeg g.toNatClampNeg - k)) 7 (S.1 12 x.toNatClampNeg 0).toNatClampNeg g.toNatClampNeg (S.1 7 (S.1 12 x.toNatClampNeg 0).toNatClampNeg g.toNatClampNeg + k))) : CT (d + 3) 0 0 m_C_sell [C0, .inl x, .inl g, .inl k] S Q := by
  refine ct_of (xmok_all (by decide)) rfl (V_go (pc := 0) pk_85 [] 100 ?_)
  refine cC_isDhow e3 (by omega) (fun hx => ?_) (fun q => ?_)
  · (repeat' first | (refine And.intro (fun q => absurd q (by decide)) (fun _ => ?_)) | (refine And.intro (fun _ => ?_) (fun q => absurd q (by decide))) | fail)
    refine cC_good (fun hg => ?_) (fun q => ?_)
    · (repeat' first | (refine And.intro (fun q => absurd q (by decide)) (fun _ => ?_)) | (refine And.intro (fun _ => ?_) (fun q => absurd q (by decide))) | fail)
      refine And.intro (fun c3 => ?_) (fun c3 => ?_)
      · have ok : okSell nd x g k := ⟨hx, hg, c3⟩
        refine And.intro (hx.vp b) ?_
        refine ct_inPort (fun p1 p2 => ?_) (fun p => ?_)
        · (repeat' first | (refine And.intro (fun q => absurd q (by decide)) (fun _ => ?_)) | (refine And.intro (fun _ => ?_) (fun q => absurd q (by decide))) | fail)
          have hg4 := hg.vp (N := 4) (by decide)
          refine And.intro hg4 ?_
          refine And.intro (fun c4 => ?_) (fun c4 => ?_)
          · refine And.intro ((hP _ hx.lt p1).vp (by decide)) ?_
            refine ct_Port_priceOf hg4 ?_
            refine And.intro hg4 ?_
            refine And.intro hg4 ?_
            refine And.intro hg4 ?_
            refine And.intro hg4 ?_
            refine qi (hk ok ⟨p1, p2⟩ c4) ?_ rfl
            show (xupd (xupd (xupd S 12 x.toNatClampNeg 4 _) _ _ _ _) _ _ _ _).1 12 x.toNatClampNeg 4 = _
            simp (decide := true) only [xu, true_and, false_and, and_true, and_false, if_true, if_false]
          · exact hs ok (fun q => c4 q.2)
        · (repeat' first | (refine And.intro (fun q => absurd q (by decide)) (fun _ => ?_)) | (refine And.intro (fun _ => ?_) (fun q => absurd q (by decide))) | fail)
          exact hs ok (fun q => p q.1)
      · exact hb (fun q => c3 q.2.2)
    · (repeat' first | (refine And.intro (fun q => absurd q (by decide)) (fun _ => ?_)) | (refine And.intro (fun _ => ?_) (fun q => absurd q (by decide))) | fail)
      exact hb (fun g => q g.2.1)
  · (repeat' first | (refine And.intro (fun q => absurd q (by decide)) (fun _ => ?_)) | (refine And.intro (fun _ => ?_) (fun q => absurd q (by decide))) | fail)
    exact hb (fun g => q g.1)
theorem ct_M_sell {d nd : Nat} {x g k : Int32} {S : xS} {Q : xQ} (e3 : S.1 36 0 8 = nI nd) (b : nd ≤ 4) (hP : ∀ D, D < nd → mThere S D → inC 6 (S.1 43 0 D)) (hb : ¬ okSell nd x g k → Q (some (.inl (-2))) S)
    (hs : okSell nd x g k → ¬ (mThere S x.toNatClampNeg ∧ k ≤ S.1 50 0 (4 * x.toNatClampNeg + g.toNatClampNeg)) → Q (some (.inl (-3))) S)
    (hk : okSell nd x g k → mThere S x.toNatClampNeg → k ≤ S.1 50 0 (4 * x.toNatClampNeg + g.toNatClampNeg) → Q (some (.inl (S.1 46 0 x.toNatClampNeg + k * mPrice S (S.1 43 0 x.toNatClampNeg) g)))
      (xupd (xupd (xupd S 46 0 x.toNatClampNeg (S.1 46 0 x.toNatClampNeg + k * mPrice S (S.1 43 0 x.toNatClampNeg) g)) 50 0 (4 * x.toNatClampNeg + g.toNatClampNeg) (S.1 50 0 (4 * x.toNatClampNeg + g.toNatClampNeg) - k)) 41 0 (4 * (S.1 43 0 x.toNatClampNeg).toNatClampNeg + g.toNatClampNeg) (S.1 41 0 (4 * (S.1 43 0 x.toNatClampNeg).toNatClampNeg + g.toNatClampNeg) + k))) : CT (d + 3) 0 0 m_M_sell [M0, .inl x, .inl g, .inl k] S Q := by
  refine ct_of (xmok_all (by decide)) rfl (V_go (pc := 0) pk_134 [] 120 ?_)
  refine cM_isDhow e3 (by omega) (fun hx => ?_) (fun q => ?_)
  · (repeat' first | (refine And.intro (fun q => absurd q (by decide)) (fun _ => ?_)) | (refine And.intro (fun _ => ?_) (fun q => absurd q (by decide))) | fail)
    refine cM_good (fun hg => ?_) (fun q => ?_)
    · (repeat' first | (refine And.intro (fun q => absurd q (by decide)) (fun _ => ?_)) | (refine And.intro (fun _ => ?_) (fun q => absurd q (by decide))) | fail)
      refine And.intro (fun c3 => ?_) (fun c3 => ?_)
      · have ok : okSell nd x g k := ⟨hx, hg, c3⟩
        have hx4 := hx.vp (N := 4) b
        have i1 := ixg (N := 16) hx hg (by omega)
        have hs := hs ok
        have hk := hk ok
        rw [← i1.2] at hs hk
        refine cM_isThere (hx.mono b) (fun p1 p2 => ?_) (fun p => ?_)
        · (repeat' first | (refine And.intro (fun q => absurd q (by decide)) (fun _ => ?_)) | (refine And.intro (fun _ => ?_) (fun q => absurd q (by decide))) | fail)
          refine And.intro i1.1 ?_
          refine And.intro (fun c4 => ?_) (fun c4 => ?_)
          · have hp := hP _ hx.lt ⟨p1, p2⟩
            have i2 := ixg (N := 24) hp hg (by decide)
            rw [← i2.2] at hk
            refine And.intro hx4 ?_
            refine And.intro hx4 ?_
            refine cM_price hp hg ?_
            refine And.intro hx4 ?_
            refine And.intro i1.1 ?_
            refine And.intro i1.1 ?_
            refine And.intro hx4 ?_
            refine And.intro i2.1 ?_
            refine And.intro i2.1 ?_
            refine And.intro hx4 ?_
            refine qi (hk ⟨p1, p2⟩ c4) ?_ rfl
            show (xupd (xupd (xupd S 46 0 x.toNatClampNeg _) 50 _ _ _) 41 _ _ _).1 46 0 x.toNatClampNeg = _
            simp (decide := true) only [xu, true_and, false_and, and_true, and_false, if_true, if_false]
          · exact hs (fun q => c4 q.2)
        · (repeat' first | (refine And.intro (fun q => absurd q (by decide)) (fun _ => ?_)) | (refine And.intro (fun _ => ?_) (fun q => absurd q (by decide))) | fail)
          exact hs (fun q => p q.1)
      · exact hb (fun q => c3 q.2.2)
    · (repeat' first | (refine And.intro (fun q => absurd q (by decide)) (fun _ => ?_)) | (refine And.intro (fun _ => ?_) (fun q => absurd q (by decide))) | fail)
      exact hb (fun g => q g.2.1)
  · (repeat' first | (refine And.intro (fun q => absurd q (by decide)) (fun _ => ?_)) | (refine And.intro (fun _ => ?_) (fun q => absurd q (by decide))) | fail)
    exact hb (fun g => q g.1)
theorem IBl.P {n np t D : Nat} {S : xS} (h : IBl n np t D S) (hp : np ≤ 6) (q : ¬ S.1 12 D 0 = -1) : inC 6 (S.1 12 D 0) ∧ S.1 43 0 D = S.1 12 D 0 := by
  obtain ⟨p, q2, q3, q4⟩ := there_P h q
  exact ⟨⟨p, by omega, q3⟩, q4.trans q3.symm⟩
theorem there_eq {n np t D : Nat} {S : xS} (h : IBl n np t D S) (hp : np ≤ 6) : mThere S D ↔ cThere S D := there_iff h hp
theorem inC_of_le {a : Int32} {c : Nat} (h1 : 1 ≤ a) (h2 : a ≤ nI c) (hc : c < 2 ^ 31) : ∃ j, 1 ≤ j ∧ j ≤ c ∧ a = nI j := by
  obtain ⟨j, q1, q2, q3⟩ := (inR_iff (lo := 0) (hi := c) rfl rfl hc (by omega)).mp ⟨Int32.le_trans (by decide) h1, h2⟩
  subst q3
  exact ⟨j, (nI_leI (a := 1) (by decide) (by omega)).mp h1, q2, rfl⟩
theorem nI_sb {a b : Nat} (h : b ≤ a) (ha : a < 2 ^ 31) : nI a - nI b = nI (a - b) := by
  apply Int32.toInt_inj.mp
  rw [sbI (by rw [nI_toInt ha, nI_toInt (by omega)]; omega) (by rw [nI_toInt ha, nI_toInt (by omega)]; omega), nI_toInt ha, nI_toInt (by omega), nI_toInt (by omega)]
  omega
theorem IB.succ {n np nd t : Nat} {S : xS} (h : IB n np nd t S) : IB (n + 1) np nd t S := fun d hd => ⟨fun q => by
  obtain ⟨a1, a7, a8, a9, ⟨c, a13, a14⟩, a15, a16⟩ := (h d hd).1 q
  exact ⟨a1, a7, a8, a9, ⟨c, by omega, a14⟩, a15.imp id (fun ⟨c, q1, q2⟩ => ⟨c, by omega, q2⟩), a16⟩, (h d hd).2⟩
theorem cm_sell {dp n np nd nv nt r t : Nat} {S : xS} (hn : n ≤ 600) (hN : IN np nd nv nt r t S) (hA : IA n S) (hB : IB n np nd t S) {x g k : Int32} : CT (dp + 3) 0 0 m_C_sell [C0, .inl x, .inl g, .inl k] S (fun a S1 => CT (dp + 3) 0 0 m_M_sell [M0, .inl x, .inl g, .inl k] S1 (fun a' S2 => a' = a ∧ (IA (n + 1) S2 ∧ IB (n + 1) np nd t S2) ∧ Fr (fl [13004, 13, 7, 46, 50, 41]) S S2)) := by
  obtain ⟨⟨b1, b2, b3⟩, ⟨e1, e2⟩, ⟨e3, e4⟩, e5⟩ := id hN
  have keep : IA (n + 1) S ∧ IB (n + 1) np nd t S := ⟨hA.succ, hB.succ⟩
  have hl : ∀ D, D < nd → IBl n np t D S := fun D hD => (hB D (by omega)).1 hD
  have hPm : ∀ D, D < nd → mThere S D → inC 6 (S.1 43 0 D) := fun D hD q => by
    have := (hl D hD).P b1 ((there_eq (hl D hD) b1).mp q).1
    rw [this.2]; exact this.1
  refine ct_C_sell e3 b2 (fun D hD q => ((hl D hD).P b1 q).1) (fun q => ?_) (fun ok q => ?_) (fun ok q1 q2 => ?_)
  · exact ct_M_sell e4 b2 hPm (fun _ => ⟨rfl, keep, Fr.rf⟩) (fun ok => absurd ok q) (fun ok => absurd ok q)
  · have hb := hl _ ok.1.lt
    obtain ⟨H, G0, -, -, a11, -⟩ := hb.2.2.2.1
    have eg := a11 _ ok.2.1.lt
    refine ct_M_sell e4 b2 hPm (fun g => absurd ok g) (fun _ _ => ⟨rfl, keep, Fr.rf⟩) (fun _ g1 g2 => absurd ⟨(there_eq hb b1).mp g1, ?_⟩ q)
    rw [eg.1, ← eg.2]; exact g2
  · have hb := hl _ ok.1.lt
    have hG := ok.2.1.lt
    obtain ⟨hp, ep⟩ := hb.P b1 q1.1
    obtain ⟨H, G0, h99, eH, a11, a12⟩ := id hb.2.2.2.1
    obtain ⟨A, hA1, eA⟩ := hb.2.2.2.2.1
    have e46 : S.1 46 0 x.toNatClampNeg = nI A := hb.1.2.2.2.1.trans eA
    have eg := a11 _ hG
    have hGle : G0 g.toNatClampNeg ≤ 99 := by
      have : g.toNatClampNeg = 0 ∨ g.toNatClampNeg = 1 ∨ g.toNatClampNeg = 2 ∨ g.toNatClampNeg = 3 := by omega
      rcases this with e | e | e | e <;> rw [e] <;> omega
    rw [eg.1] at q2
    obtain ⟨K, k1, k2, rfl⟩ := inC_of_le ok.2.2 q2 (by omega)
    obtain ⟨c, c1, c2, ec⟩ := pr_b hA hn (P := (S.1 12 x.toNatClampNeg 0).toNatClampNeg) (G := g.toNatClampNeg) hp.lt hG
    rw [← ok.2.1.eq] at ec
    have em : mPrice S (S.1 43 0 x.toNatClampNeg) g = nI c := by
      have := pm_N hA (P := (S.1 12 x.toNatClampNeg 0).toNatClampNeg) (G := g.toNatClampNeg) hp.lt hG
      rw [← ok.2.1.eq, ← hp.eq, ec] at this
      rw [ep]; exact this
    have hKc : K * c ≤ 99 * 99 := Nat.mul_le_mul (by omega) c2
    rw [ec, eA, nI_mul, nI_add, eg.1, nI_sb k2 (by omega)]
    obtain ⟨l, hl1, el⟩ : ∃ l, l ≤ 99 * n ∧ S.1 7 (S.1 12 x.toNatClampNeg 0).toNatClampNeg g.toNatClampNeg = nI l := by
      obtain ⟨-, -, -, h4, -⟩ := id hA
      obtain ⟨-, -, -, a5, a6⟩ := h4 _ _ hp.lt hG
      obtain ⟨l, hl, el⟩ := nI_of (Int32.not_lt.mpr a5)
      rw [el, nI_toInt hl] at a6
      exact ⟨l, by omega, el⟩
    have el2 : S.1 41 0 (4 * (S.1 12 x.toNatClampNeg 0).toNatClampNeg + g.toNatClampNeg) = nI l := by
      obtain ⟨-, -, -, h4, -⟩ := id hA
      exact (h4 _ _ hp.lt hG).1.2.2.trans el
    rw [el, nI_add]
    refine ct_M_sell (nd := nd) e4 b2 hPm (fun g0 => absurd ok g0) (fun _ g0 => absurd ⟨(there_eq hb b1).mpr q1, (by show nI K ≤ S.1 50 0 _; rw [eg.2]; exact q2)⟩ g0) (fun _ g1 g2 => ?_)
    · show _ ∧ _ ∧ _
      refine ⟨?_, ?_, ?_⟩
      · show some (Sum.inl (S.1 46 0 x.toNatClampNeg + nI K * mPrice S (S.1 43 0 x.toNatClampNeg) g)) = _
        rw [em, e46, nI_mul, nI_add]
      · show IA (n + 1) (xupd (xupd (xupd (xupd (xupd (xupd S 12 x.toNatClampNeg 4 (nI (A + K * c))) 13 x.toNatClampNeg g.toNatClampNeg (nI (G0 g.toNatClampNeg - K))) 7 (S.1 12 x.toNatClampNeg 0).toNatClampNeg g.toNatClampNeg (nI (l + K))) 46 0 x.toNatClampNeg (S.1 46 0 x.toNatClampNeg + nI K * mPrice S (S.1 43 0 x.toNatClampNeg) g)) 50 0 (4 * x.toNatClampNeg + g.toNatClampNeg) (S.1 50 0 (4 * x.toNatClampNeg + g.toNatClampNeg) - nI K)) 41 0 (4 * (S.1 43 0 x.toNatClampNeg).toNatClampNeg + g.toNatClampNeg) (S.1 41 0 (4 * (S.1 43 0 x.toNatClampNeg).toNatClampNeg + g.toNatClampNeg) + nI K)) ∧ IB (n + 1) np nd t (xupd (xupd (xupd (xupd (xupd (xupd S 12 x.toNatClampNeg 4 (nI (A + K * c))) 13 x.toNatClampNeg g.toNatClampNeg (nI (G0 g.toNatClampNeg - K))) 7 (S.1 12 x.toNatClampNeg 0).toNatClampNeg g.toNatClampNeg (nI (l + K))) 46 0 x.toNatClampNeg (S.1 46 0 x.toNatClampNeg + nI K * mPrice S (S.1 43 0 x.toNatClampNeg) g)) 50 0 (4 * x.toNatClampNeg + g.toNatClampNeg) (S.1 50 0 (4 * x.toNatClampNeg + g.toNatClampNeg) - nI K)) 41 0 (4 * (S.1 43 0 x.toNatClampNeg).toNatClampNeg + g.toNatClampNeg) (S.1 41 0 (4 * (S.1 43 0 x.toNatClampNeg).toNatClampNeg + g.toNatClampNeg) + nI K))
        rw [em, e46, nI_mul, nI_add, eg.2, nI_sb k2 (by omega), ep, el2, nI_add]
        refine ⟨hA.landed hG (nI_pos' (by omega)) (by rw [nI_toInt (by omega)]; omega), hB.trade ok.1.lt b2 hG (by omega) (fun H' G' f1 f2 f3 f4 => Or.inl ?_)⟩
        have := f3 _ hG
        rw [eg.1] at this
        have h9 : G' g.toNatClampNeg ≤ 99 := by
          have : g.toNatClampNeg = 0 ∨ g.toNatClampNeg = 1 ∨ g.toNatClampNeg = 2 ∨ g.toNatClampNeg = 3 := by omega
          rcases this with e | e | e | e <;> rw [e] <;> omega
        have := (nI_eq (by omega) (by omega)).mp this
        omega
      · exact (((((Fr.rf.up rfl).up rfl).up rfl).up rfl).up rfl).up rfl
