/-! text: the class's reader, One; all levels -/
theorem it_num {K : GT} {i : Nat} (hk : K.1 i = 2) (h9 : K.2 i ≤ 9999) : wLs [gItm K i] := by
  have e : gItm K i = nI (K.2 i) := if_pos hk
  rw [e]
  have h0 : 0 ≤ nI (K.2 i) := nI_pos' (by omega)
  refine wLs.item (fun n => ⟨?_, ?_⟩) (Or.inl h0)
  · unfold ndP; rw [if_pos h0]; omega
  · unfold hS; rw [if_pos h0]
theorem it_name {K : GT} {i : Nat} (h1 : 134 ≤ K.1 i) (h2 : K.1 i ≤ 139) : wLs [gItm K i] := by
  have e : gItm K i = -(nI (K.1 i)) := if_neg (by omega)
  rw [e]
  have hn : -(-(nI (K.1 i))) = nI (K.1 i) := Int32.neg_neg
  have h0 : ¬ 0 ≤ -(nI (K.1 i)) := by
    refine negc hn (by omega) (by omega)
  have hr : 134 ≤ -(-(nI (K.1 i))) ∧ -(-(nI (K.1 i))) ≤ 139 := by
    rw [hn]
    exact ⟨nI_le (a := 134) h1 (by omega), nI_le (b := 139) h2 (by decide)⟩
  refine wLs.item (fun n => ⟨?_, ?_⟩) (Or.inr (Or.inl ⟨K.1 i, h1, h2, hn⟩))
  · unfold ndP; rw [if_neg h0, if_pos hr]; omega
  · unfold hS; rw [if_neg h0, if_pos hr]
theorem rd_Neg {K : GT} {P : GP} {S0 : xS} {c cn op : Nat} (hT : gTs K P) (hN : gNx K P cn S0) (hc : cn + 1 ≤ c) (ho : op ≤ 5) (h2 : op < 5 → gRX K P S0 m_Reader_readOne 7 c (op + 1)) : ∀ D i u (S : xS) (Q : xQ), c + 1 ≤ D → Fr (fl fRd) S0 S → gAl K P i u op S → u ≤ i → K.1 i = 45 → (∀ i2 e S', gRes K 7 i op i2 e → gAl K P i2 (u + e.length) op S' → gCd S S' u e → Fr (fl fRd) S S' → Q none S') → (∀ j S', gNo K 7 i op j → gDd P j S' → Fr (fl fRd) S S' → Q none S') → CT D 0 0 m_Reader_readNegated [R0v] S Q := by
  intro D i u S Q hD f0 hA hu ek hok hno
  obtain ⟨D, rfl⟩ : ∃ E, D = E + 1 := ⟨D - 1, by omega⟩
  have le := hA.le hT
  refine ct_of (xmok_all (by decide)) rfl (V_go (pc := 0) pk_32 [] 60 ?_)
  refine ct_enter hT hN (D := D) (by omega) f0 hA (by omega) (by omega) ho (fun ho5 T f cT a => ?_) (fun ho5 T f d => ?_)
  · (repeat' first | (refine And.intro (fun q => absurd q (by decide)) (fun _ => ?_)) | (refine And.intro (fun _ => ?_) (fun q => absurd q (by decide))) | fail)
    refine h2 ho5 D (i + 1) u T _ (by omega) (f0.tr f) a (by omega) (fun i2 e T2 r a2 k2 f2 => ?_) (fun j T2 n d f2 => ?_)
    · have lr := r.2.2
      have le2 := a2.le hT
      refine ct_emit (u := u + e.length) (by omega) a2.2.1 ?_
      have a5 := (a2.em (x := -(nI 3))).cl
      have k5 := (gCd.kp0 cT k2).em (x := -(nI 3))
      have f5 : Fr (fl fRd) T2 (xupd (xupd (xupd T2 26 0 (u + e.length) (-(nI 3))) 25 0 3 (nI (u + e.length + 1))) 25 0 4 ((xupd (xupd T2 26 0 (u + e.length) (-(nI 3))) 25 0 3 (nI (u + e.length + 1))).1 25 0 4 - 1)) := ((Fr.rf.up rfl).up rfl).up rfl
      refine hok i2 (e ++ [-(nI 3)]) _ ⟨gOk.neg ek ho5 r.1, r.2.1.one it_3.1 it_3.2, ?_⟩ ?_ (k5.kp (fun j => rfl)) ((f.tr f2).tr f5)
      · rw [List.length_append, List.length_singleton]; omega
      · rw [List.length_append, List.length_singleton, ← Nat.add_assoc]; exact a5
    · refine ct_emit_d d (fun T4 f4 d4 => ?_)
      exact hno j _ (gNo.neg ek ho5 n) d4.cl (((f.tr f2).tr (f4.wk (by decide))).up rfl)
  · (repeat' first | (refine And.intro (fun q => absurd q (by decide)) (fun _ => ?_)) | (refine And.intro (fun _ => ?_) (fun q => absurd q (by decide))) | fail)
    exact hno i T (gNo.full (Or.inl ek) ho5) d f
theorem rd_Par {K : GT} {P : GP} {S0 : xS} {c cn op : Nat} (hT : gTs K P) (hN : gNx K P cn S0) (hc : cn + 1 ≤ c) (ho : op ≤ 5) (h2 : op < 5 → gRX K P S0 m_Reader_readOr 1 c (op + 1)) : ∀ D i u (S : xS) (Q : xQ), c + 1 ≤ D → Fr (fl fRd) S0 S → gAl K P i u op S → u ≤ i → K.1 i = 40 → (∀ i2 e S', gRes K 7 i op i2 e → gAl K P i2 (u + e.length) op S' → gCd S S' u e → Fr (fl fRd) S S' → Q none S') → (∀ j S', gNo K 7 i op j → gDd P j S' → Fr (fl fRd) S S' → Q none S') → CT D 0 0 m_Reader_readBracket [R0v] S Q := by
  intro D i u S Q hD f0 hA hu ek hok hno
  obtain ⟨D, rfl⟩ : ∃ E, D = E + 1 := ⟨D - 1, by omega⟩
  have le := hA.le hT
  refine ct_of (xmok_all (by decide)) rfl (V_go (pc := 0) pk_34 [] 60 ?_)
  refine ct_enter hT hN (D := D) (by omega) f0 hA (by omega) (by omega) ho (fun ho5 T f cT a => ?_) (fun ho5 T f d => ?_)
  · (repeat' first | (refine And.intro (fun q => absurd q (by decide)) (fun _ => ?_)) | (refine And.intro (fun _ => ?_) (fun q => absurd q (by decide))) | fail)
    refine h2 ho5 D (i + 1) u T _ (by omega) (f0.tr f) a (by omega) (fun i2 e T2 r a2 k2 f2 => ?_) (fun j T2 n d f2 => ?_)
    · have lr := r.2.2
      have le2 := a2.le hT
      refine ct_require (k := 41) hT hN (D := D) (by omega) (f0.tr (f.tr f2)) a2 (by omega) (by decide) (by decide) (fun e41 T3 f3 c3 a3 => ?_) (fun e41 T3 f3 d3 => ?_)
      · refine hok (i2 + 1) e _ ⟨gOk.par ek ho5 r.1 e41, r.2.1, by omega⟩ a3.cl (((gCd.kp0 cT k2).kp c3).kp (fun j => rfl)) (((f.tr f2).tr f3).up rfl)
      · exact hno i2 _ (gNo.par2 hT.2.2 ek ho5 r.1 e41) d3.cl (((f.tr f2).tr f3).up rfl)
    · obtain ⟨D, rfl⟩ : ∃ E, D = E + 1 := ⟨D - 1, by omega⟩
      refine ct_require_d (k := 41) (D := D) (hT.1 j).2.1 d (by decide) (by decide) (fun T4 f4 d4 => ?_)
      exact hno j _ (gNo.par ek ho5 n) d4.cl (((f.tr f2).tr f4).up rfl)
  · (repeat' first | (refine And.intro (fun q => absurd q (by decide)) (fun _ => ?_)) | (refine And.intro (fun _ => ?_) (fun q => absurd q (by decide))) | fail)
    exact hno i T (gNo.full (Or.inr ek) ho5) d f
theorem rd_One {K : GT} {P : GP} {S0 : xS} {c cn op : Nat} (hT : gTs K P) (hN : gNx K P cn S0) (hc : cn + 1 ≤ c) (ho : op ≤ 5) (h1 : op < 5 → gRX K P S0 m_Reader_readOr 1 c (op + 1)) (h2 : op < 5 → gRX K P S0 m_Reader_readOne 7 c (op + 1)) : gRX K P S0 m_Reader_readOne 7 (c + 2) op := by
  intro D i u S Q hD f0 hA hu hok hno
  obtain ⟨D, rfl⟩ : ∃ E, D = E + 1 := ⟨D - 1, by omega⟩
  have kk := (hT.1 i).2.2.1
  have le := hA.le hT
  have item : ∀ (x : Int32) (D : Nat), cn ≤ D → gItm K i = x → (K.1 i = 2 ∨ (134 ≤ K.1 i ∧ K.1 i ≤ 139)) → wLs [gItm K i] → u < 160 ∧ ∀ Q2 : xQ, (∀ T, Q none T → Q2 none T) → CT D 0 0 m_Tokens_next [K0v] (xupd (xupd S 26 0 u x) 25 0 3 (nI (u + 1))) Q2 := by
    intro x D hD ex hk hw
    have lt := hA.lt hT (by omega)
    refine ⟨by omega, fun Q2 hQ2 => ?_⟩
    have f1 : Fr (fl fRd) S (xupd (xupd S 26 0 u x) 25 0 3 (nI (u + 1))) := (Fr.rf.up rfl).up rfl
    refine hN D (i + 1) _ _ hD (f0.tr f1) hA.1.1 (fun T f g => ?_)
    have a1 : gAl K P i (u + 1) op (xupd (xupd S 26 0 u x) 25 0 3 (nI (u + 1))) := hA.em
    have a2 := a1.step hT (by omega) f g
    have k1 : gCd S (xupd (xupd S 26 0 u x) 25 0 3 (nI (u + 1))) u [x] := gCd.em (e := []) (gCd.rf (S := S) (S' := S) (fun _ => rfl))
    rw [ex] at hw
    refine hQ2 T (hok (i + 1) [x] T ⟨by rw [← ex]; exact gOk.item hk, hw, Nat.le_refl _⟩ a2 (k1.kp (fun j => f.1 26 0 j rfl)) (f1.tr (f.wk (by decide))))
  refine ct_of (xmok_all (by decide)) rfl (V_go (pc := 0) pk_30 [8] 60 ?_)
  show V (D + 1) 0 0 m_Reader_readOne 8 [some R0v, some (.inl (S.1 23 0 3))] [] S Q
  rw [hA.1.2.1]
  refine V_go pk_30 [] 60 ?_
  refine And.intro (fun q => ?_) (fun q => ?_)
  · have n2 : ¬ K.1 i = 2 := fun e => q (by rw [e]; rfl)
    refine ct_within (fun g1 g2 => ?_) (fun g => ?_)
    · have g1 := (nI_leI (a := 134) (by omega) (by omega)).mp g1
      have g2 := (nI_leI (b := 139) (by omega) (by omega)).mp g2
      (repeat' first | (refine And.intro (fun q => absurd q (by decide)) (fun _ => ?_)) | (refine And.intro (fun _ => ?_) (fun q => absurd q (by decide))) | fail)
      obtain ⟨h160, hn⟩ := item (-(nI (K.1 i))) D (by omega) (if_neg n2) (Or.inr ⟨g1, g2⟩) (it_name g1 g2)
      refine ct_emit h160 hA.2.1 ?_
      exact hn _ (fun T h => h)
    · have g : ¬ (134 ≤ K.1 i ∧ K.1 i ≤ 139) := fun z => g ⟨nI_le (a := 134) z.1 (by omega), nI_le (b := 139) z.2 (by decide)⟩
      (repeat' first | (refine And.intro (fun q => absurd q (by decide)) (fun _ => ?_)) | (refine And.intro (fun _ => ?_) (fun q => absurd q (by decide))) | fail)
      refine And.intro (fun q2 => ?_) (fun q2 => ?_)
      · have n45 : ¬ K.1 i = 45 := fun e => q2 (by rw [e]; rfl)
        refine And.intro (fun q3 => ?_) (fun q3 => ?_)
        · have n40 : ¬ K.1 i = 40 := fun e => q3 (by rw [e]; rfl)
          refine ct_fail (P := P) (j := i) (hT.1 i).2.1 (by omega) hA.2.1 (Or.inl hA.dead) (fun T f d => ?_)
          exact hno i T (gNo.item (fun z => z.elim n2 g) n40 n45) d (f.wk (by decide))
        · have e40 : K.1 i = 40 := (nI_eq (b := 40) (by omega) (by decide)).mp q3
          exact rd_Par hT hN hc ho h1 D i u S _ (by omega) f0 hA hu e40 hok hno
      · have e45 : K.1 i = 45 := (nI_eq (b := 45) (by omega) (by decide)).mp q2
        exact rd_Neg hT hN hc ho h2 D i u S _ (by omega) f0 hA hu e45 hok hno
  · have e2 : K.1 i = 2 := (nI_eq (b := 2) (by omega) (by decide)).mp q
    obtain ⟨h160, hn⟩ := item (S.1 23 0 5) D (by omega) ((if_pos e2).trans (hA.1.2.2.2 e2).symm) (Or.inl e2) (it_num e2 (hT.1 i).2.2.2)
    refine ct_emit h160 hA.2.1 ?_
    exact hn _ (fun T h => h)
theorem rd_One_d {P : GP} {c : Nat} (hP : ∀ j, P.2 j ≤ 160) : gRD P m_Reader_readOne (c + 1) := by
  intro D j S Q hD h hq
  obtain ⟨D, rfl⟩ : ∃ E, D = E + 1 := ⟨D - 1, by omega⟩
  obtain ⟨h1, h2, u, hu, h3⟩ := h
  refine ct_of (xmok_all (by decide)) rfl (V_go (pc := 0) pk_30 [8] 60 ?_)
  show V (D + 1) 0 0 m_Reader_readOne 8 [some R0v, some (.inl (S.1 23 0 3))] [] S Q
  rw [h1]
  refine V_go pk_30 [] 60 ?_
  (repeat' first | (refine And.intro (fun q => absurd q (by decide)) (fun _ => ?_)) | (refine And.intro (fun _ => ?_) (fun q => absurd q (by decide))) | fail)
  refine ct_within (fun g1 g2 => absurd g1 (by decide)) (fun g => ?_)
  (repeat' first | (refine And.intro (fun q => absurd q (by decide)) (fun _ => ?_)) | (refine And.intro (fun _ => ?_) (fun q => absurd q (by decide))) | fail)
  exact ct_fail (P := P) (j := j) (hP j) hu h3 (Or.inr h2) (fun T f d => hq T (f.wk (by decide)) d)
theorem gRX.mono {K : GT} {P : GP} {S0 : xS} {m lv c c2 op : Nat} (h : gRX K P S0 m lv c op) (hc : c ≤ c2) : gRX K P S0 m lv c2 op := fun D i u S Q hD => h D i u S Q (by omega)
theorem rd_all {K : GT} {P : GP} {S0 : xS} {cn : Nat} (hT : gTs K P) (hN : gNx K P cn S0) : ∀ k, k ≤ 5 → gRX K P S0 m_Reader_readOr 1 (cn + 1 + 8 * k + 8) (5 - k) ∧ gRX K P S0 m_Reader_readOne 7 (cn + 1 + 8 * k + 8) (5 - k) ∧ gRX K P S0 m_Reader_readNot 3 (cn + 1 + 8 * k + 8) (5 - k) := by
  have hP : ∀ j, P.2 j ≤ 160 := fun j => (hT.1 j).2.1
  have one : ∀ c k, cn + 1 ≤ c → k ≤ 5 → (k < 5 → gRX K P S0 m_Reader_readOr 1 c (k + 1) ∧ gRX K P S0 m_Reader_readOne 7 c (k + 1) ∧ gRX K P S0 m_Reader_readNot 3 c (k + 1)) → gRX K P S0 m_Reader_readOr 1 (c + 8) k ∧ gRX K P S0 m_Reader_readOne 7 (c + 8) k ∧ gRX K P S0 m_Reader_readNot 3 (c + 8) k := by
    intro c k hc hk h
    have o := rd_One hT hN hc hk (fun z => (h z).1) (fun z => (h z).2.1)
    have od : gRD P m_Reader_readOne (c + 2) := rd_One_d (c := c + 1) hP
    have t := rd_Term hT hN (by omega) o od
    have td := rd_Term_d od
    have s := rd_Sum hT hN (by omega) t
    have sd := rd_Sum_d td
    have p := rd_Cmp hT hN (by omega) s
    have pd := rd_Cmp_d sd
    have n := rd_Not hT hN (by omega) hk p (fun z => (h z).2.2.mono (by omega))
    have nd := rd_Not_d pd
    have a := rd_And hT hN (by omega) n nd
    have ad := rd_And_d nd
    have r := rd_Or hT hN (by omega) a ad
    exact ⟨r, o.mono (by omega), n.mono (by omega)⟩
  intro k
  induction k with
  | zero => intro _; exact one (cn + 1) 5 (Nat.le_refl _) (Nat.le_refl _) (fun z => absurd z (by decide))
  | succ k ih =>
    intro hk
    have ih := ih (by omega)
    have g := one (cn + 1 + 8 * k + 8) (5 - (k + 1)) (by omega) (by omega) (fun z => by rw [show 5 - (k + 1) + 1 = 5 - k by omega]; exact ih)
    exact g
