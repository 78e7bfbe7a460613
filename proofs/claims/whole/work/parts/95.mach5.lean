/-! text: the model reads the three parts -/
theorem ct_isText {D n nt : Nat} {b : Nat → Int32} {S : xS} {Q : xQ} (hnt : nt < 6) (e33 : S.1 36 0 33 = nI nt) (hb : gMb b n S) (hw : gMw S)
    (hok : ∀ e1 e2 e3 T, gTok (gK b n) e1 e2 e3 → gOu (3 * nt + 0) e1 T → gOu (3 * nt + 1) e2 T → gOu (3 * nt + 2) e3 T → gRg nt S T → Q (some (.inl 1)) T)
    (hno : ∀ j T, gTno (gK b n) j → T.1 36 0 42 = nI ((gP b n).2 j) → gRg nt S T → Q (some (.inl 0)) T) : CT (D + 4) 0 0 m_M_isText [M0] S Q := by
  have hT := gTs_of b hb.2.1
  have dead : ∀ j T p, gTno (gK b n) j → T.1 36 0 42 = nI ((gP b n).2 j) → gRg nt S T → V (D + 4) 0 0 m_M_isText 9 [some M0, some (.inl 0), some (.inl p)] [] T Q := by
    intro j T p h1 h2 h3
    have h := hno j T h1 h2 h3
    have s60 : V (D + 4) 0 0 m_M_isText 60 [some M0, some (.inl 0), some (.inl p)] [] T Q := by
      refine V_go pk_161 [] 60 ?_
      (repeat' first | (refine And.intro (fun q => absurd q (by decide)) (fun _ => ?_)) | (refine And.intro (fun _ => ?_) (fun q => absurd q (by decide))) | fail)
      exact And.intro (Or.inl rfl) h
    refine V_go pk_161 [60] 60 ?_
    refine And.intro (fun _ => s60) (fun _ => ?_)
    (repeat' first | (refine And.intro (fun q => absurd q (by decide)) (fun _ => ?_)) | (refine And.intro (fun _ => ?_) (fun q => absurd q (by decide))) | fail)
    exact s60
  have part : ∀ p, p < 3 → ∀ i T, T.1 36 0 41 = nI ((gP b n).1 i) → i ≤ (gP b n).1 i → gRg nt S T → (∀ i2 e T2, gPok (gK b n) (128 + p) i i2 e → gOu (3 * nt + p) e T2 → e.length ≤ 160 → T2.1 36 0 41 = nI ((gP b n).1 i2) → i2 ≤ (gP b n).1 i2 → gRg nt S T2 → (∀ r o, o.length ≤ 160 → ¬ r = 3 * nt + p → gOu r o T → gOu r o T2) → V (D + 4) 0 0 m_M_isText 9 [some M0, some (.inl 1), some (.inl (nI p + 1))] [] T2 Q) → (∀ j, gPno (gK b n) (128 + p) i j → gTno (gK b n) j) → V (D + 4) 0 0 m_M_isText 9 [some M0, some (.inl 1), some (.inl (nI p))] [] T Q := by
    intro p hp i T g41 hi hg hcont hbad
    have x33 : T.1 36 0 33 = nI nt := (hg.1 36 0 33 rfl (by omega) (by omega) (by decide)).trans e33
    refine V_go pk_161 [9] 60 ?_
    refine And.intro (fun q => absurd ((nI_leI (a := 3) (by omega) (by omega)).mp q) (by omega)) (fun _ => ?_)
    (repeat' first | (refine And.intro (fun q => absurd q (by decide)) (fun _ => ?_)) | (refine And.intro (fun _ => ?_) (fun q => absurd q (by decide))) | fail)
    refine ct_M_next (D := D + 1) (hg.mb hb) (hg.mw hw) g41 (fun T1 f1 t1 => ?_)
    obtain ⟨u1, u2, u3, u4⟩ := t1
    have hg1 : gRg nt S T1 := hg.tr (gRg.nx f1)
    obtain ⟨ks, k140⟩ := tk_g (b := b) (n := n) i
    have tf := tk_f ⟨(gK b n).1 i, k140⟩ ks
    have tk : gTm ((gK b n).1 i) = 106 + nI p ↔ (gK b n).1 i = 128 + p := by
      have a0 : gTm ((gK b n).1 i) = 106 ↔ (gK b n).1 i = 128 := tf.2.2.2.2.2.2.2.2.2.1
      have a1 : gTm ((gK b n).1 i) = 107 ↔ (gK b n).1 i = 129 := tf.2.2.2.2.2.2.2.2.2.2.1
      have a2 : gTm ((gK b n).1 i) = 108 ↔ (gK b n).1 i = 130 := tf.2.2.2.2.2.2.2.2.2.2.2.1
      have : p = 0 ∨ p = 1 ∨ p = 2 := by omega
      rcases this with z | z | z <;> subst z
      · exact a0
      · exact a1
      · exact a2
    refine And.intro (fun q => ?_) (fun q => ?_)
    · have q : ¬ T1.1 36 0 43 = 106 + nI p := q
      rw [u3] at q
      have nk : ¬ (gK b n).1 i = 128 + p := fun z => q (tk.mpr z)
      exact dead i T1 _ (hbad i (Or.inl ⟨nk, rfl⟩)) u2 hg1
    · have q : T1.1 36 0 43 = 106 + nI p := q
      rw [u3] at q
      have ek := tk.mp q
      have hi1 : i + 1 ≤ (gP b n).1 (i + 1) := by
        have := hT.2.1 i (by omega)
        omega
      have y33 : T1.1 36 0 33 = nI nt := (hg1.1 36 0 33 rfl (by omega) (by omega) (by decide)).trans e33
      show CT (D + 3) 0 0 m_M_isRead [M0, .inl (nI 3 * T1.1 36 0 33 + nI p)] T1 _
      rw [y33, nI_mul, nI_add]
      refine ct_isRead (D := D) (i := i + 1) (by omega) u1 (hg1.mb hb) (hg1.mw hw) hi1 (fun i2 e hgo T2 o1 o2 o3 o4 o5 => ?_) (fun j hgo T2 o1 o2 => ?_)
      · (repeat' first | (refine And.intro (fun q => absurd q (by decide)) (fun _ => ?_)) | (refine And.intro (fun _ => ?_) (fun q => absurd q (by decide))) | fail)
        have le := (hT.1 i2).1
        exact hcont i2 e T2 ⟨ek, hgo⟩ o1 (by omega) o2 o4 (hg1.tr o3.rg) (fun r o hol hne hO => (hO.nx f1).kp hol hne o3)
      · (repeat' first | (refine And.intro (fun q => absurd q (by decide)) (fun _ => ?_)) | (refine And.intro (fun _ => ?_) (fun q => absurd q (by decide))) | fail)
        exact dead j T2 _ (hbad j (Or.inr ⟨ek, hgo⟩)) o1 (hg1.tr o2.rg)
  have f0 : gRg nt S (xupd S 36 0 41 0) := by
    refine ⟨fun k i j a b c d => if_neg (fun q => ?_), rfl⟩
    obtain ⟨q1, q2, _⟩ := q; subst q1; subst q2; exact absurd a (by decide)
  refine ct_of (xmok_all (by decide)) rfl (V_go (pc := 0) pk_161 [9] 60 ?_)
  refine part 0 (by decide) 0 (xupd S 36 0 41 0) rfl (Nat.zero_le _) f0 (fun i1 e1 T1 p1 o1 l1 a1 hi1 r1 _ => ?_) (fun j h => Or.inl h)
  refine part 1 (by decide) i1 T1 a1 hi1 r1 (fun i2 e2 T2 p2 o2 l2 a2 hi2 r2 k2 => ?_) (fun j h => Or.inr ⟨i1, e1, p1, Or.inl h⟩)
  refine part 2 (by decide) i2 T2 a2 hi2 r2 (fun i3 e3 T3 p3 o3 l3 a3 hi3 r3 k3 => ?_) (fun j h => Or.inr ⟨i1, e1, p1, Or.inr ⟨i2, e2, p2, Or.inl h⟩⟩)
  have O1 := k3 _ _ l1 (by omega) (k2 _ _ l1 (by omega) o1)
  have O2 := k3 _ _ l2 (by omega) o2
  refine V_go pk_161 [] 60 ?_
  refine And.intro (fun _ => ?_) (fun q => absurd (show (3 : Int32) ≤ 3 by decide) q)
  (repeat' first | (refine And.intro (fun q => absurd q (by decide)) (fun _ => ?_)) | (refine And.intro (fun _ => ?_) (fun q => absurd q (by decide))) | fail)
  refine ct_M_next (D := D + 1) (r3.mb hb) (r3.mw hw) a3 (fun T4 f4 t4 => ?_)
  obtain ⟨u1, u2, u3, u4⟩ := t4
  have r4 : gRg nt S T4 := r3.tr (gRg.nx f4)
  obtain ⟨ks, k140⟩ := tk_g (b := b) (n := n) i3
  have tf := tk_f ⟨(gK b n).1 i3, k140⟩ ks
  have t0 : gTm ((gK b n).1 i3) = 0 ↔ (gK b n).1 i3 = 0 := tf.2.2.2.2.2.2.2.2.1
  refine And.intro (fun q => ?_) (fun q => ?_)
  · have q : ¬ T4.1 36 0 43 = 0 := q
    rw [u3] at q
    have nk : ¬ (gK b n).1 i3 = 0 := fun z => q (t0.mpr z)
    exact And.intro (Or.inl rfl) (hno i3 T4 (Or.inr ⟨i1, e1, p1, Or.inr ⟨i2, e2, p2, Or.inr ⟨i3, e3, p3, nk, rfl⟩⟩⟩) u2 r4)
  · have q : T4.1 36 0 43 = 0 := q
    rw [u3] at q
    exact And.intro (Or.inr rfl) (hok e1 e2 e3 T4 ⟨i1, i2, i3, p1, p2, p3, t0.mp q⟩ (O1.nx f4) (O2.nx f4) (o3.nx f4) r4)
