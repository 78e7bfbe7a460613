/-! text: the class reads the three parts -/
def gPok (K : GT) (k i i2 : Nat) (e : List Int32) : Prop := K.1 i = k ∧ gTo K (true, true, i + 1, [], []) (.inr (.inl (i2, e)))
def gPno (K : GT) (k i j : Nat) : Prop := (¬ K.1 i = k ∧ j = i) ∨ (K.1 i = k ∧ gTo K (true, true, i + 1, [], []) (.inr (.inr j)))
theorem ct_readPart {K : GT} {P : GP} {S0 : xS} {cn D i u k p : Nat} {S : xS} {Q : xQ} (hT : gTs K P) (hD : cn + 51 ≤ D) (f0 : Fr (fl (27 :: fRd)) S0 S) (hN2 : ∀ T, Fr (fl (27 :: fRd)) S0 T → gNx K P cn T) (hk : 100 < k) (hk2 : k < 200) (hp : p < 3) (hA : gAl K P i u 0 S) (hu : u ≤ i) (hok : ∀ i2 e S', gPok K k i i2 e → wLs e → i + 2 + e.length ≤ i2 → gAl K P i2 (u + e.length) 0 S' → gCd S S' u e → S'.1 27 0 p = nI (u + e.length) → (∀ q, ¬ q = p → S'.1 27 0 q = S.1 27 0 q) → Fr (fl (27 :: fRd)) S S' → Q none S') (hno : ∀ j S', gPno K k i j → gDd P j S' → Fr (fl (27 :: fRd)) S S' → Q none S') : CT D 0 0 m_Reader_readPart [R0v, .inl (nI k), .inl (nI p)] S Q := by
  obtain ⟨D, rfl⟩ : ∃ E, D = E + 1 := ⟨D - 1, by omega⟩
  have ep : (nI p).toNatClampNeg = p := nI_clamp (by omega)
  have vp3 : vp_in (nI p) 3 := vi (by omega)
  have hNS := hN2 S f0
  have all := (rd_all hT hNS 5 (by decide)).1
  have alld : gRD P m_Reader_readOr 8 := rd_Or_d (rd_And_d (rd_Not_d (rd_Cmp_d (rd_Sum_d (rd_Term_d (rd_One_d (c := 1) (fun j => (hT.1 j).2.1)))))))
  have le := hA.le hT
  have dead : ∀ j T, gPno K k i j → gDd P j T → Fr (fl (27 :: fRd)) S T → ∀ l, V (D + 1) 0 0 m_Reader_readPart 15 [some R0v, l, some (.inl (nI p))] [] T Q := by
    intro j T h1 h2 h3 l
    refine V_go pk_21 [] 60 ?_
    refine And.intro vp3 ?_
    exact hno j _ h1 h2 (h3.tr (Fr.up Fr.rf rfl))
  refine ct_of (xmok_all (by decide)) rfl (V_go (pc := 0) pk_21 [15] 60 ?_)
  refine ct_require hT hNS (D := D) (by omega) Fr.rf hA (by omega) (by omega) hk2 (fun ek T f c a => ?_) (fun ek T f d => ?_)
  · refine all D (i + 1) u T _ (by omega) f a (by omega) (fun i2 e T2 r a2 k2 f2 => ?_) (fun j T2 n d f2 => ?_)
    · have le2 := a2.le hT
      have lr := r.2.2
      have lu : u + e.length ≤ 160 := by omega
      refine ct_require (k := 59) hT hNS (D := D) (by omega) (f.tr f2) a2 lu (by decide) (by decide) (fun e59 T3 f3 c3 a3 => ?_) (fun e59 T3 f3 d3 => ?_)
      · have F3 := (f.tr f2).tr f3
        have hok := hok (i2 + 1) e
        refine V_go pk_21 [] 60 ?_
        refine And.intro vp3 ?_
        show Q none (xupd T3 27 0 (nI p).toNatClampNeg (T3.1 25 0 3))
        rw [ep, a3.2.1]
        exact hok _ ⟨ek, gOk.fin r.1 e59⟩ r.2.1 (by omega) a3 (((gCd.kp0 c k2).kp c3).kp (fun j => rfl)) (if_pos ⟨rfl, rfl, rfl⟩) (fun q hq => (if_neg (fun z => hq z.2.1)).trans (F3.1 27 0 q rfl)) ((F3.wk (by decide)).tr (Fr.up Fr.rf rfl))
      · exact dead i2 T3 (Or.inr ⟨ek, gOk.bad hT.2.2 r.1 e59⟩) d3 (((f.tr f2).tr f3).wk (by decide)) _
    · obtain ⟨D, rfl⟩ : ∃ E, D = E + 1 := ⟨D - 1, by omega⟩
      refine ct_require_d (k := 59) (D := D) (hT.1 j).2.1 d (by decide) (by decide) (fun T4 f4 d4 => ?_)
      exact dead j T4 (Or.inr ⟨ek, n.fin⟩) d4 (((f.tr f2).tr f4).wk (by decide)) _
  · refine alld D i T _ (by omega) d (fun T2 f2 d2 => ?_)
    obtain ⟨D, rfl⟩ : ∃ E, D = E + 1 := ⟨D - 1, by omega⟩
    refine ct_require_d (k := 59) (D := D) (hT.1 i).2.1 d2 (by decide) (by decide) (fun T4 f4 d4 => ?_)
    exact dead i T4 (Or.inl ⟨ek, rfl⟩) d4 (((f.tr f2).tr f4).wk (by decide)) _
theorem ct_readPart_d {P : GP} {D j k p : Nat} {S : xS} {Q : xQ} (hP : ∀ j, P.2 j ≤ 160) (hD : 50 ≤ D) (hk : 100 < k) (hk2 : k < 200) (hp : p < 3) (h : gDd P j S) (hq : ∀ S', gDd P j S' → Fr (fl (27 :: fRd)) S S' → Q none S') : CT D 0 0 m_Reader_readPart [R0v, .inl (nI k), .inl (nI p)] S Q := by
  obtain ⟨D, rfl⟩ : ∃ E, D = E + 2 := ⟨D - 2, by omega⟩
  have vp3 : vp_in (nI p) 3 := vi (by omega)
  have alld : gRD P m_Reader_readOr 8 := rd_Or_d (rd_And_d (rd_Not_d (rd_Cmp_d (rd_Sum_d (rd_Term_d (rd_One_d (c := 1) hP))))))
  refine ct_of (xmok_all (by decide)) rfl (V_go (pc := 0) pk_21 [] 60 ?_)
  refine ct_require_d (D := D) (hP j) h (by omega) hk2 (fun T f d => ?_)
  refine alld (D + 1) j T _ (by omega) d (fun T2 f2 d2 => ?_)
  refine ct_require_d (k := 59) (D := D) (hP j) d2 (by decide) (by decide) (fun T4 f4 d4 => ?_)
  refine And.intro vp3 ?_
  exact hq _ d4 ((((f.tr f2).tr f4).wk (by decide)).up rfl)
/-- the text is faulty at token j -/
def gTno (K : GT) (j : Nat) : Prop := gPno K 128 0 j ∨ ∃ i1 e1, gPok K 128 0 i1 e1 ∧ (gPno K 129 i1 j ∨ ∃ i2 e2, gPok K 129 i1 i2 e2 ∧ (gPno K 130 i2 j ∨ ∃ i3 e3, gPok K 130 i2 i3 e3 ∧ ¬ K.1 i3 = 0 ∧ j = i3))
def gTok (K : GT) (e1 e2 e3 : List Int32) : Prop := ∃ i1 i2 i3, gPok K 128 0 i1 e1 ∧ gPok K 129 i1 i2 e2 ∧ gPok K 130 i2 i3 e3 ∧ K.1 i3 = 0
/-- the codes of the parts, one behind the other -/
def gC3 (S : xS) (k0 i0 k1 i1 : Nat) (e1 e2 e3 : List Int32) : Prop := (S.1 k1 i1 0 = nI e1.length ∧ S.1 k1 i1 1 = nI (e1.length + e2.length) ∧ S.1 k1 i1 2 = nI (e1.length + e2.length + e3.length)) ∧ e1.length + e2.length + e3.length ≤ 154 ∧ (∀ j, j < e1.length → S.1 k0 i0 (0 + j) = e1.getD j 0) ∧ (∀ j, j < e2.length → S.1 k0 i0 (e1.length + j) = e2.getD j 0) ∧ ∀ j, j < e3.length → S.1 k0 i0 (e1.length + e2.length + j) = e3.getD j 0
theorem ct_read {K : GT} {P : GP} {cn D : Nat} {S : xS} {Q : xQ} (hT : gTs K P) (hD : cn + 53 ≤ D) (hP0 : P.1 0 = 0) (hN : ∀ T, Fr (fl (27 :: fRd)) S T → gNx K P cn T) (hok : ∀ e1 e2 e3 S', gTok K e1 e2 e3 → wLs e1 → wLs e2 → wLs e3 → S'.1 25 0 3 = nI (e1.length + e2.length + e3.length) → gC3 S' 26 0 27 0 e1 e2 e3 → Fr (fl (27 :: fRd)) S S' → Q (some (.inl (-1))) S') (hno : ∀ j S', gTno K j → P.2 j ≤ 160 → Fr (fl (27 :: fRd)) S S' → Q (some (.inl (nI (P.2 j)))) S') : CT D 0 0 m_Reader_read [R0v] S Q := by
  obtain ⟨D, rfl⟩ : ∃ E, D = E + 2 := ⟨D - 2, by omega⟩
  have hP : ∀ j, P.2 j ≤ 160 := fun j => (hT.1 j).2.1
  have fin : ∀ j T, gTno K j → gDd P j T → Fr (fl (27 :: fRd)) S T → V (D + 2) 0 0 m_Reader_read 46 [some R0v] [] T Q := by
    intro j T h1 h2 h3
    obtain ⟨d1, d2, u, hu, d3⟩ := h2
    refine V_go pk_20 [] 60 ?_
    refine And.intro (fun q => ?_) (fun q => ?_)
    · have q : T.1 23 0 3 = 0 := q
      rw [d1] at q; exact absurd q (by decide)
    · refine ct_fail (P := P) (j := j) (hP j) hu d3 (Or.inr d2) (fun T2 f2 g2 => ?_)
      refine qi (hno j T2 h1 (hP j) (h3.tr (f2.wk (by decide)))) g2.2.1 rfl
  refine ct_of (xmok_all (by decide)) rfl (V_go (pc := 0) pk_20 [46] 60 ?_)
  have f0 : Fr (fl (27 :: fRd)) S (xupd (xupd (xupd S 25 0 3 0) 25 0 4 0) 25 0 5 (-1)) := ((Fr.rf.up rfl).up rfl).up rfl
  refine ct_of (xmok_all (by decide)) rfl (V_go (pc := 0) pk_54 [] 40 ?_)
  refine hN _ (f0.tr (Fr.up Fr.rf rfl)) D 0 _ _ (by omega) Fr.rf (by rw [hP0]; rfl) (fun T0 f1 g1 => ?_)
  have F0 : Fr (fl (27 :: fRd)) S T0 := (f0.tr (Fr.up Fr.rf rfl)).tr (f1.wk (by decide))
  have A0 : gAl K P 0 0 0 T0 := ⟨g1, f1.1 25 0 3 rfl, f1.1 25 0 4 rfl, f1.1 25 0 5 rfl, Nat.zero_le _⟩
  refine ct_readPart (k := 128) (p := 0) (S0 := S) hT (D := D + 1) (by omega) F0 hN (by decide) (by decide) (by decide) A0 (Nat.le_refl _) (fun i1 e1 T1 o1 w1 l1 a1 c1 n1 m1 f1 => ?_) (fun j T1 n1 d1 f1 => ?_)
  · have F1 := F0.tr f1
    rw [Nat.zero_add] at a1 n1
    refine ct_readPart (k := 129) (p := 1) (S0 := S) hT (D := D + 1) (by omega) F1 hN (by decide) (by decide) (by decide) a1 (by omega) (fun i2 e2 T2 o2 w2 l2 a2 c2 n2 m2 f2 => ?_) (fun j T2 n2 d2 f2 => ?_)
    · have F2 := F1.tr f2
      refine ct_readPart (k := 130) (p := 2) (S0 := S) hT (D := D + 1) (by omega) F2 hN (by decide) (by decide) (by decide) a2 (by omega) (fun i3 e3 T3 o3 w3 l3 a3 c3 n3 m3 f3 => ?_) (fun j T3 n3 d3 f3 => ?_)
      · have F3 := F2.tr f3
        have kk := (hT.1 i3).2.2.1
        have le3 := a3.le hT
        by_cases ek : K.1 i3 = 0
        · have hok := hok e1 e2 e3 T3 ⟨i1, i2, i3, o1, o2, o3, ek⟩ w1 w2 w3 a3.2.1 ⟨⟨?_, ?_, n3⟩, by omega, fun j hj => ?_, fun j hj => ?_, c3.2⟩ F3
          · refine V_go pk_20 [] 60 ?_
            refine And.intro (fun _ => ?_) (fun q => ?_)
            · exact qi hok a3.2.2.2.1 rfl
            · have q : ¬ T3.1 23 0 3 = 0 := q
              rw [a3.1.2.1, ek] at q
              exact absurd rfl q
          · rw [m3 0 (by decide), m2 0 (by decide)]; exact n1
          · rw [m3 1 (by decide)]; exact n2
          · rw [c3.1 _ (by omega), c2.1 _ (by omega)]; exact c1.2 j hj
          · rw [c3.1 _ (by omega)]; exact c2.2 j hj
        · refine V_go pk_20 [] 60 ?_
          refine And.intro (fun q => ?_) (fun q => ?_)
          · have q : T3.1 23 0 3 = 0 := q
            rw [a3.1.2.1] at q
            exact absurd ((nI_eq (b := 0) (by omega) (by decide)).mp q) ek
          · refine ct_fail (P := P) (j := i3) (hP i3) (by omega) a3.2.1 (Or.inl a3.dead) (fun T4 f4 g4 => ?_)
            exact qi (hno i3 T4 (Or.inr ⟨i1, e1, o1, Or.inr ⟨i2, e2, o2, Or.inr ⟨i3, e3, o3, ek, rfl⟩⟩⟩) (hP i3) (F3.tr (f4.wk (by decide)))) g4.2.1 rfl
      · exact fin j T3 (Or.inr ⟨i1, e1, o1, Or.inr ⟨i2, e2, o2, Or.inl n3⟩⟩) d3 (F2.tr f3)
    · refine ct_readPart_d (k := 130) (p := 2) (D := D + 1) hP (by omega) (by decide) (by decide) (by decide) d2 (fun T3 d3 f3 => ?_)
      exact fin j T3 (Or.inr ⟨i1, e1, o1, Or.inl n2⟩) d3 ((F1.tr f2).tr f3)
  · refine ct_readPart_d (k := 129) (p := 1) (D := D + 1) hP (by omega) (by decide) (by decide) (by decide) d1 (fun T2 d2 f2 => ?_)
    refine ct_readPart_d (k := 130) (p := 2) (D := D + 1) hP (by omega) (by decide) (by decide) (by decide) d2 (fun T3 d3 f3 => ?_)
    exact fin j T3 (Or.inl n1) d3 (((F0.tr f1).tr f2).tr f3)
