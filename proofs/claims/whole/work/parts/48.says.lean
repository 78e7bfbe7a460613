/-! texts' codes on both sides; says -/
def IGp (T P : Nat) (S : xS) : Prop := ∃ (a e : Nat) (c : Nat → Int32), (if P = 0 then 0 else S.1 19 T (P - 1)) = nI a ∧ S.1 19 T P = nI (a + e) ∧ a + e ≤ 160 ∧ a + e ≤ (S.1 18 T 65536).toNatClampNeg ∧ S.1 62 0 (3 * T + P) = nI e ∧ wfP c e ∧ ∀ i, i < e → okI_ (c i) ∧ S.1 18 T (a + i) = c i ∧ S.1 63 0 (160 * (3 * T + P) + i) = encM (c i) ∧ (0 ≤ c i → S.1 64 0 (160 * (3 * T + P) + i) = c i)
def IG (nt : Nat) (S : xS) : Prop := ∀ T P, T < nt → P < 3 → IGp T P S
abbrev suppIG : List Nat := [18, 19, 62, 63, 64]
theorem IG.fr {nt : Nat} {l : List Nat} {S S2 : xS} (f : Fr (fl l) S S2) (hd : suppIG.all (fun q => !l.elem q) = true) (h : IG nt S) : IG nt S2 := by
  have e0 : ∀ i j, S2.1 18 i j = S.1 18 i j := fun i j => f.off hd rfl
  have e1 : ∀ i j, S2.1 19 i j = S.1 19 i j := fun i j => f.off hd rfl
  have e2 : ∀ i j, S2.1 62 i j = S.1 62 i j := fun i j => f.off hd rfl
  have e3 : ∀ i j, S2.1 63 i j = S.1 63 i j := fun i j => f.off hd rfl
  have e4 : ∀ i j, S2.1 64 i j = S.1 64 i j := fun i j => f.off hd rfl
  unfold IG IGp at h ⊢
  simp only [e0, e1, e2, e3, e4]
  exact h
theorem ct_setVoyage {d : Nat} {g b m o : Int32} {S : xS} {Q : xQ} (h : Q none (xupd (xupd (xupd (xupd S 29 0 0 g) 29 0 1 b) 29 0 2 m) 29 0 5 o)) : CT d 0 0 m_Reckoner_setVoyage [.inr (.inr (28, 0)), .inl g, .inl b, .inl m, .inl o] S Q := by
  refine ct_of (xmok_all (by decide)) rfl (V_go (pc := 0) pk_35 [] 60 ?_)
  refine And.intro (vi (n := 0) (N := 6) (by decide)) ?_
  refine And.intro (vi (n := 1) (N := 6) (by decide)) ?_
  refine And.intro (vi (n := 2) (N := 6) (by decide)) ?_
  refine And.intro (vi (n := 5) (N := 6) (by decide)) ?_
  exact h
theorem ct_setOwn {d : Nat} {p o : Int32} {S : xS} {Q : xQ} (h : Q none (xupd (xupd S 29 0 3 p) 29 0 4 o)) : CT d 0 0 m_Reckoner_setOwn [.inr (.inr (28, 0)), .inl p, .inl o] S Q := by
  refine ct_of (xmok_all (by decide)) rfl (V_go (pc := 0) pk_36 [] 60 ?_)
  refine And.intro (vi (n := 3) (N := 6) (by decide)) ?_
  refine And.intro (vi (n := 4) (N := 6) (by decide)) ?_
  exact h
def okY (nt : Nat) (x p g b m s o : Int32) : Prop := inC nt x ∧ inR 0 2 p ∧ (-100000 ≤ g ∧ g ≤ 100000) ∧ inR 0 9999 b ∧ inR 0 16 m ∧ inR 0 9 s ∧ inR 0 99999 o
theorem cm_says {dp np nd nv nt r t : Nat} {S : xS} (hN : IN np nd nv nt r t S) (hG : IG nt S) {x p g b m s o : Int32} : CT (dp + 5) 0 0 m_C_says [C0, .inl x, .inl p, .inl g, .inl b, .inl m, .inl s, .inl o] S (fun a S1 => CT (dp + 5) 0 0 m_M_says [M0, .inl x, .inl p, .inl g, .inl b, .inl m, .inl s, .inl o] S1 (fun a' S2 => a' = a ∧ Fr (fl [29, 30, 29002, 69]) S S2)) := by
  obtain ⟨⟨b1, b2, b3, b4, b5, b6⟩, ⟨e1, e2⟩, ⟨e3, e4⟩, ⟨e7, e8⟩, ⟨e9, e10⟩, ⟨e11, e12⟩, e13, e14⟩ := id hN
  have mm : ∀ {S' : xS} {Q : xQ}, S'.1 36 0 33 = nI nt → (¬ okY nt x p g b m s o → Q (some (.inr (.inl (-4611686018427387904)))) S') → (okY nt x p g b m s o → CT (dp + 4) 0 0 m_M_value [M0, .inl x, .inl p, .inl g, .inl b, .inl m, .inl s, .inl o] S' (fun a S2 => ∃ v, a = some (.inl v) ∧ Q (some (.inr (.inl v.toInt64))) S2)) → CT (dp + 5) 0 0 m_M_says [M0, .inl x, .inl p, .inl g, .inl b, .inl m, .inl s, .inl o] S' Q := by
    intro S' Q h33 q1 q2
    have bad : ¬ okY nt x p g b m s o → V (dp + 5) 0 0 m_M_says 94 [some M0, some (.inl x), some (.inl p), some (.inl g), some (.inl b), some (.inl m), some (.inl s), some (.inl o), none] [] S' Q := by
      intro nn
      refine V_go pk_175 [] 40 ?_
      (repeat' first | (refine And.intro (fun q => absurd q (by decide)) (fun _ => ?_)) | (refine And.intro (fun _ => ?_) (fun q => absurd q (by decide))) | fail)
      exact q1 nn
    refine ct_of (xmok_all (by decide)) rfl (V_go (pc := 0) pk_175 [94] 60 ?_)
    refine And.intro (fun c => bad (fun k => absurd ((inC_iff (by omega)).mpr k.1).1 (Int32.not_le.mpr c))) (fun c => ?_)
    refine And.intro (fun c2 => bad (fun k => ?_)) (fun c2 => ?_)
    · have c2 : S'.1 36 0 33 ≤ x := c2
      rw [h33] at c2
      exact absurd ((inC_iff (by omega)).mpr k.1).2 (Int32.not_lt.mpr c2)
    · have c2 : ¬ S'.1 36 0 33 ≤ x := c2
      rw [h33] at c2
      have hx := (inC_iff (c := nt) (x := x) (by omega)).mp ⟨Int32.not_lt.mp c, Int32.not_le.mp c2⟩
      refine cM_w 0 2 rfl rfl (by decide) (by decide) (fun hp => ?_) (fun q => ?_)
      · (repeat' first | (refine And.intro (fun q => absurd q (by decide)) (fun _ => ?_)) | (refine And.intro (fun _ => ?_) (fun q => absurd q (by decide))) | fail)
        refine ct_M_isIn32 (a := -100000) (b := 100000) rfl rfl (fun g1 g2 => ?_) (fun q => ?_)
        · (repeat' first | (refine And.intro (fun q => absurd q (by decide)) (fun _ => ?_)) | (refine And.intro (fun _ => ?_) (fun q => absurd q (by decide))) | fail)
          refine cM_w 0 9999 rfl rfl (by decide) (by decide) (fun hb => ?_) (fun q => ?_)
          · (repeat' first | (refine And.intro (fun q => absurd q (by decide)) (fun _ => ?_)) | (refine And.intro (fun _ => ?_) (fun q => absurd q (by decide))) | fail)
            refine cM_w 0 16 rfl rfl (by decide) (by decide) (fun hm => ?_) (fun q => ?_)
            · (repeat' first | (refine And.intro (fun q => absurd q (by decide)) (fun _ => ?_)) | (refine And.intro (fun _ => ?_) (fun q => absurd q (by decide))) | fail)
              refine cM_w 0 9 rfl rfl (by decide) (by decide) (fun hs => ?_) (fun q => ?_)
              · (repeat' first | (refine And.intro (fun q => absurd q (by decide)) (fun _ => ?_)) | (refine And.intro (fun _ => ?_) (fun q => absurd q (by decide))) | fail)
                refine cM_w 0 99999 rfl rfl (by decide) (by decide) (fun ho => ?_) (fun q => ?_)
                · (repeat' first | (refine And.intro (fun q => absurd q (by decide)) (fun _ => ?_)) | (refine And.intro (fun _ => ?_) (fun q => absurd q (by decide))) | fail)
                  refine (q2 ⟨hx, hp, ⟨g1, g2⟩, hb, hm, hs, ho⟩).mono (fun a S2 hq => ?_)
                  obtain ⟨v, rfl, hq⟩ := hq
                  exact hq
                · (repeat' first | (refine And.intro (fun q => absurd q (by decide)) (fun _ => ?_)) | (refine And.intro (fun _ => ?_) (fun q => absurd q (by decide))) | fail)
                  exact bad (fun k => q k.2.2.2.2.2.2)
              · (repeat' first | (refine And.intro (fun q => absurd q (by decide)) (fun _ => ?_)) | (refine And.intro (fun _ => ?_) (fun q => absurd q (by decide))) | fail)
                exact bad (fun k => q k.2.2.2.2.2.1)
            · (repeat' first | (refine And.intro (fun q => absurd q (by decide)) (fun _ => ?_)) | (refine And.intro (fun _ => ?_) (fun q => absurd q (by decide))) | fail)
              exact bad (fun k => q k.2.2.2.2.1)
          · (repeat' first | (refine And.intro (fun q => absurd q (by decide)) (fun _ => ?_)) | (refine And.intro (fun _ => ?_) (fun q => absurd q (by decide))) | fail)
            exact bad (fun k => q k.2.2.2.1)
        · (repeat' first | (refine And.intro (fun q => absurd q (by decide)) (fun _ => ?_)) | (refine And.intro (fun _ => ?_) (fun q => absurd q (by decide))) | fail)
          exact bad (fun k => q k.2.2.1)
      · (repeat' first | (refine And.intro (fun q => absurd q (by decide)) (fun _ => ?_)) | (refine And.intro (fun _ => ?_) (fun q => absurd q (by decide))) | fail)
        exact bad (fun k => q k.2.1)
  have cb : ¬ okY nt x p g b m s o → CT (dp + 5) 0 0 m_M_says [M0, .inl x, .inl p, .inl g, .inl b, .inl m, .inl s, .inl o] S (fun a' S2 => a' = some (.inr (.inl (-4611686018427387904))) ∧ Fr (fl [29, 30, 29002, 69]) S S2) := fun nn => mm e10 (fun _ => ⟨rfl, Fr.rf⟩) (fun k => absurd k nn)
  refine ct_of (xmok_all (by decide)) rfl (V_go (pc := 0) pk_107 [] 60 ?_)
  refine cC_isText e9 (by omega) (fun hx => ?_) (fun q => ?_)
  · (repeat' first | (refine And.intro (fun q => absurd q (by decide)) (fun _ => ?_)) | (refine And.intro (fun _ => ?_) (fun q => absurd q (by decide))) | fail)
    refine cC_w 0 2 rfl rfl (by decide) (by decide) (fun hp => ?_) (fun q => ?_)
    · (repeat' first | (refine And.intro (fun q => absurd q (by decide)) (fun _ => ?_)) | (refine And.intro (fun _ => ?_) (fun q => absurd q (by decide))) | fail)
      refine ct_within (fun g1 g2 => ?_) (fun q => ?_)
      · (repeat' first | (refine And.intro (fun q => absurd q (by decide)) (fun _ => ?_)) | (refine And.intro (fun _ => ?_) (fun q => absurd q (by decide))) | fail)
        refine cC_w 0 9999 rfl rfl (by decide) (by decide) (fun hb => ?_) (fun q => ?_)
        · (repeat' first | (refine And.intro (fun q => absurd q (by decide)) (fun _ => ?_)) | (refine And.intro (fun _ => ?_) (fun q => absurd q (by decide))) | fail)
          refine cC_w 0 16 rfl rfl (by decide) (by decide) (fun hm => ?_) (fun q => ?_)
          · (repeat' first | (refine And.intro (fun q => absurd q (by decide)) (fun _ => ?_)) | (refine And.intro (fun _ => ?_) (fun q => absurd q (by decide))) | fail)
            refine cC_w 0 9 rfl rfl (by decide) (by decide) (fun hs => ?_) (fun q => ?_)
            · (repeat' first | (refine And.intro (fun q => absurd q (by decide)) (fun _ => ?_)) | (refine And.intro (fun _ => ?_) (fun q => absurd q (by decide))) | fail)
              refine cC_w 0 99999 rfl rfl (by decide) (by decide) (fun ho => ?_) (fun q => ?_)
              · (repeat' first | (refine And.intro (fun q => absurd q (by decide)) (fun _ => ?_)) | (refine And.intro (fun _ => ?_) (fun q => absurd q (by decide))) | fail)
                have ok : okY nt x p g b m s o := ⟨hx, hp, ⟨g1, g2⟩, hb, hm, hs, ho⟩
                refine ct_C_monthOf ?_
                refine ct_setVoyage ?_
                refine ct_setOwn ?_
                refine And.intro (hx.vp b4.2) ?_
                obtain ⟨P, -, p2, rfl⟩ := hp
                obtain ⟨a, e, c, h1, h2, h3, h4, h5, h6, h7⟩ := hG x.toNatClampNeg P hx.lt (by omega)
                have emo : S.1 0 0 13 / 30 - S.1 0 0 13 / 30 / 12 * 12 = nI (t / 30 % 12) := by rw [e13]; exact mon_N (by omega)
                refine ct_reckon (T := x.toNatClampNeg) (P := P) (a := a) (e := e) (c := c) (vals := fun i => (xupd (xupd (xupd (xupd (xupd (xupd S 29 0 0 g) 29 0 1 b) 29 0 2 m) 29 0 5 (S.1 0 0 13 / 30 - S.1 0 0 13 / 30 / 12 * 12)) 29 0 3 s) 29 0 4 o).1 29 0 i) (by omega) h1 h2 h3 h4 h6 (fun i hi => (h7 i hi).2.1) (fun i hi => rfl) (fun S1 f1 => ?_)
                have f0 : Fr (fl [29]) S (xupd (xupd (xupd (xupd (xupd (xupd S 29 0 0 g) 29 0 1 b) 29 0 2 m) 29 0 5 (S.1 0 0 13 / 30 - S.1 0 0 13 / 30 / 12 * 12)) 29 0 3 s) 29 0 4 o) := (((((Fr.rf.up rfl).up rfl).up rfl).up rfl).up rfl).up rfl
                have f2 : Fr (fl [29, 30, 29002]) S S1 := (f0.wk (by decide)).tr (f1.wk (by decide))
                refine mm ((f2.1 36 0 33 rfl).trans e10) (fun k => absurd ok k) (fun _ => ?_)
                rw [hx.eq]
                have hrow : 3 * x.toNatClampNeg + P < 18 := by have := hx.lt; omega
                refine ct_M_value (d := dp + 3) (T := x.toNatClampNeg) (P := P) (e := e) (c := c) (dy := t) (vals := fun i => (xupd (xupd (xupd (xupd (xupd (xupd S 29 0 0 g) 29 0 1 b) 29 0 2 m) 29 0 5 (S.1 0 0 13 / 30 - S.1 0 0 13 / 30 / 12 * 12)) 29 0 3 s) 29 0 4 o).1 29 0 i) hrow ((f2.1 62 0 _ rfl).trans h5) h6 (fun i hi => (h7 i hi).1) (fun i hi => ⟨(f2.1 63 0 _ rfl).trans (h7 i hi).2.2.1, fun k => (f2.1 64 0 _ rfl).trans ((h7 i hi).2.2.2 k)⟩) ((f2.1 36 0 0 rfl).trans e14) b6 ⟨rfl, rfl, rfl, rfl, rfl, emo⟩ (fun S2 f3 => ⟨_, rfl, rfl, ?_⟩)
                exact (f2.wk (by decide)).tr (f3.wk (by decide))
              · (repeat' first | (refine And.intro (fun q => absurd q (by decide)) (fun _ => ?_)) | (refine And.intro (fun _ => ?_) (fun q => absurd q (by decide))) | fail)
                exact cb (fun k => q k.2.2.2.2.2.2)
            · (repeat' first | (refine And.intro (fun q => absurd q (by decide)) (fun _ => ?_)) | (refine And.intro (fun _ => ?_) (fun q => absurd q (by decide))) | fail)
              exact cb (fun k => q k.2.2.2.2.2.1)
          · (repeat' first | (refine And.intro (fun q => absurd q (by decide)) (fun _ => ?_)) | (refine And.intro (fun _ => ?_) (fun q => absurd q (by decide))) | fail)
            exact cb (fun k => q k.2.2.2.2.1)
        · (repeat' first | (refine And.intro (fun q => absurd q (by decide)) (fun _ => ?_)) | (refine And.intro (fun _ => ?_) (fun q => absurd q (by decide))) | fail)
          exact cb (fun k => q k.2.2.2.1)
      · (repeat' first | (refine And.intro (fun q => absurd q (by decide)) (fun _ => ?_)) | (refine And.intro (fun _ => ?_) (fun q => absurd q (by decide))) | fail)
        exact cb (fun k => q k.2.2.1)
    · (repeat' first | (refine And.intro (fun q => absurd q (by decide)) (fun _ => ?_)) | (refine And.intro (fun _ => ?_) (fun q => absurd q (by decide))) | fail)
      exact cb (fun k => q k.2.1)
  · (repeat' first | (refine And.intro (fun q => absurd q (by decide)) (fun _ => ?_)) | (refine And.intro (fun _ => ?_) (fun q => absurd q (by decide))) | fail)
    exact cb (fun k => q k.1)
