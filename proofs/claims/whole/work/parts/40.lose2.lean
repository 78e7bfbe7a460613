theorem l1C_5 (S : xS) (D v : Nat) : (l1C S D v).1 0 0 10 = S.1 0 0 10 := (l1C_fr S D v).1 0 0 10 rfl
theorem ct_C_lose {d nd nv : Nat} {x : Int32} {S : xS} {Q : xQ} (e3 : S.1 0 0 9 = nI nd) (e7 : S.1 0 0 10 = nI nv) (b : nd ≤ 4) (b2 : nv ≤ 16) (hb : ¬ inC nd x → Q (some (.inl (-2))) S) (hs : inC nd x → ¬ (¬ S.1 12 x.toNatClampNeg 0 = -1 ∧ ¬ S.1 12 x.toNatClampNeg 1 = -1) → Q (some (.inl (-3))) S)
    (hk : inC nd x → (¬ S.1 12 x.toNatClampNeg 0 = -1 ∧ ¬ S.1 12 x.toNatClampNeg 1 = -1) → Q (some (.inl 1)) (lsC (dnC S x.toNatClampNeg) x.toNatClampNeg nv)) : CT (d + 3) 0 0 m_C_lose [C0, .inl x] S Q := by
  refine ct_of (xmok_all (by decide)) rfl (V_go (pc := 0) pk_91 [34] 40 ?_)
  refine cC_isDhow e3 (by omega) (fun hx => ?_) (fun q => ?_)
  · (repeat' first | (refine And.intro (fun q => absurd q (by decide)) (fun _ => ?_)) | (refine And.intro (fun _ => ?_) (fun q => absurd q (by decide))) | fail)
    refine And.intro (hx.vp b) ?_
    refine ct_atSea (fun p1 p2 => ?_) (fun q => ?_)
    · (repeat' first | (refine And.intro (fun q => absurd q (by decide)) (fun _ => ?_)) | (refine And.intro (fun _ => ?_) (fun q => absurd q (by decide))) | fail)
      refine ct_goDown ?_
      have hk := hk hx ⟨p1, p2⟩
      have k7 : ∀ m, (lsC (dnC S x.toNatClampNeg) x.toNatClampNeg m).1 0 0 10 = nI nv := fun m => ((lsC_fr _ x.toNatClampNeg m).1 0 0 10 rfl).trans e7
      have loop : ∀ m j, j + m = nv → V (d + 3) 0 0 m_C_lose 34 [some C0, some (.inl x), some (.inr (.inr (12, x.toNatClampNeg))), some (.inl (nI j))] [] (lsC (dnC S x.toNatClampNeg) x.toNatClampNeg j) Q := by
        intro m
        induction m with
        | zero =>
          intro j hj
          obtain rfl : j = nv := by omega
          refine V_go pk_91 [34] 40 ?_
          refine And.intro (fun _ => hk) (fun q => absurd ?_ q)
          show (lsC (dnC S x.toNatClampNeg) x.toNatClampNeg j).1 0 0 10 ≤ nI j
          rw [k7]; exact Int32.le_refl _
        | succ m ih =>
          intro j hj
          have ih := ih (j + 1) (by omega)
          have e : lsC (dnC S x.toNatClampNeg) x.toNatClampNeg (j + 1) = l1C (lsC (dnC S x.toNatClampNeg) x.toNatClampNeg j) x.toNatClampNeg j := rfl
          rw [e] at ih
          have k7 := k7 j
          generalize lsC (dnC S x.toNatClampNeg) x.toNatClampNeg j = R at ih k7 ⊢
          unfold l1C at ih
          rw [← hx.eq] at ih
          have ej : (nI j).toNatClampNeg = j := nI_clamp (by omega)
          refine V_go pk_91 [34, 64] 40 ?_
          refine And.intro (fun q => ?_) (fun _ => ?_)
          · have q : R.1 0 0 10 ≤ nI j := q
            rw [k7] at q
            exact absurd ((nI_leI (by omega) (by omega)).mp q) (by omega)
          · refine And.intro (vi (N := 16) (by omega)) ?_
            have nxt : ∀ S' : xS, V (d + 3) 0 0 m_C_lose 34 [some C0, some (.inl x), some (.inr (.inr (12, x.toNatClampNeg))), some (.inl (nI (j + 1)))] [] S' Q → V (d + 3) 0 0 m_C_lose 64 [some C0, some (.inl x), some (.inr (.inr (12, x.toNatClampNeg))), some (.inl (nI j))] [] S' Q := by
              intro S' h
              rw [← nI_1] at h
              refine V_go pk_91 [34] 40 ?_
              exact h
            refine ct_isOn (fun g1 g2 => ?_) (fun g => ?_)
            · rw [ej] at g1 g2
              (repeat' first | (refine And.intro (fun q => absurd q (by decide)) (fun _ => ?_)) | (refine And.intro (fun _ => ?_) (fun q => absurd q (by decide))) | fail)
              refine And.intro (vi (N := 16) (by omega)) ?_
              refine ct_vDown ?_
              rw [ej]
              rw [if_pos ⟨g1, g2⟩] at ih
              exact nxt _ ih
            · rw [ej] at g
              (repeat' first | (refine And.intro (fun q => absurd q (by decide)) (fun _ => ?_)) | (refine And.intro (fun _ => ?_) (fun q => absurd q (by decide))) | fail)
              rw [if_neg g] at ih
              exact nxt _ ih
      exact loop nv 0 (by omega)
    · (repeat' first | (refine And.intro (fun q => absurd q (by decide)) (fun _ => ?_)) | (refine And.intro (fun _ => ?_) (fun q => absurd q (by decide))) | fail)
      exact hs hx q
  · (repeat' first | (refine And.intro (fun q => absurd q (by decide)) (fun _ => ?_)) | (refine And.intro (fun _ => ?_) (fun q => absurd q (by decide))) | fail)
    exact hb q
theorem ct_M_lose {d nd nv : Nat} {x : Int32} {S : xS} {Q : xQ} (e3 : S.1 36 0 8 = nI nd) (e7 : S.1 36 0 19 = nI nv) (b : nd ≤ 4) (b2 : nv ≤ 16) (hov : ∀ v, v < nv → S.1 58 0 v = 0 ∨ S.1 58 0 v = 1) (hb : ¬ inC nd x → Q (some (.inl (-2))) S) (hs : inC nd x → ¬ (S.1 49 0 x.toNatClampNeg = 0 ∧ ¬ S.1 44 0 x.toNatClampNeg = -1) → Q (some (.inl (-3))) S)
    (hk : inC nd x → (S.1 49 0 x.toNatClampNeg = 0 ∧ ¬ S.1 44 0 x.toNatClampNeg = -1) → Q (some (.inl 1)) (lsM (dnM S x.toNatClampNeg) x.toNatClampNeg nv)) : CT (d + 3) 0 0 m_M_lose [M0, .inl x] S Q := by
  refine ct_of (xmok_all (by decide)) rfl (V_go (pc := 0) pk_142 [63] 40 ?_)
  refine cM_isDhow e3 (by omega) (fun hx => ?_) (fun q => ?_)
  · (repeat' first | (refine And.intro (fun q => absurd q (by decide)) (fun _ => ?_)) | (refine And.intro (fun _ => ?_) (fun q => absurd q (by decide))) | fail)
    have hv := hx.vp (N := 4) b
    have hX := hx.lt
    refine And.intro hv ?_
    refine And.intro (fun c => hs hx (fun g => c g.1)) (fun c => ?_)
    refine And.intro hv ?_
    refine And.intro (fun c2 => ?_) (fun c2 => hs hx (fun g => g.2 c2))
    have hk := hk hx ⟨c, c2⟩
    refine And.intro hv ?_
    refine And.intro hv ?_
    refine And.intro hv ?_
    refine And.intro hv ?_
    have k7 : ∀ m, (lsM (dnM S x.toNatClampNeg) x.toNatClampNeg m).1 36 0 19 = nI nv := fun m => (((lsM_fr _ x.toNatClampNeg m).1 36 0 19 rfl).trans ((dnM_fr S x.toNatClampNeg).1 36 0 19 rfl)).trans e7
    have loop2 : ∀ m j, j + m = nv → V (d + 3) 0 0 m_M_lose 87 [some M0, some (.inl x), some (.inl (nI j))] [] (lsM (dnM S x.toNatClampNeg) x.toNatClampNeg j) Q := by
      intro m
      induction m with
      | zero =>
        intro j hj
        obtain rfl : j = nv := by omega
        refine V_go pk_142 [87] 40 ?_
        refine And.intro (fun _ => hk) (fun q => absurd ?_ q)
        show (lsM (dnM S x.toNatClampNeg) x.toNatClampNeg j).1 36 0 19 ≤ nI j
        rw [k7]; exact Int32.le_refl _
      | succ m ih =>
        intro j hj
        have ih := ih (j + 1) (by omega)
        have e : lsM (dnM S x.toNatClampNeg) x.toNatClampNeg (j + 1) = l1M (lsM (dnM S x.toNatClampNeg) x.toNatClampNeg j) x.toNatClampNeg j := rfl
        rw [e] at ih
        have k7 := k7 j
        generalize lsM (dnM S x.toNatClampNeg) x.toNatClampNeg j = R at ih k7 ⊢
        unfold l1M at ih
        rw [← hx.eq] at ih
        have ej : (nI j).toNatClampNeg = j := nI_clamp (by omega)
        have v16 : vp_in (nI j) 16 := vi (by omega)
        refine V_go pk_142 [87, 156] 40 ?_
        refine And.intro (fun q => ?_) (fun _ => ?_)
        · have q : R.1 36 0 19 ≤ nI j := q
          rw [k7] at q
          exact absurd ((nI_leI (by omega) (by omega)).mp q) (by omega)
        · have nxt : ∀ S' : xS, V (d + 3) 0 0 m_M_lose 87 [some M0, some (.inl x), some (.inl (nI (j + 1)))] [] S' Q → V (d + 3) 0 0 m_M_lose 156 [some M0, some (.inl x), some (.inl (nI j))] [] S' Q := by
            intro S' h
            rw [← nI_1] at h
            refine V_go pk_142 [87] 40 ?_
            exact h
          refine And.intro v16 ?_
          refine And.intro (fun g => ?_) (fun g => ?_)
          · have g : ¬ R.1 54 0 (nI j).toNatClampNeg = x := g
            rw [ej] at g
            rw [if_neg (fun q => g q.1)] at ih
            exact nxt _ ih
          · have g : R.1 54 0 (nI j).toNatClampNeg = x := g
            rw [ej] at g
            refine And.intro v16 ?_
            refine And.intro (fun g2 => ?_) (fun g2 => ?_)
            · have g2 : ¬ R.1 58 0 (nI j).toNatClampNeg = 0 := g2
              rw [ej] at g2
              rw [if_neg (fun q => g2 q.2)] at ih
              exact nxt _ ih
            · have g2 : R.1 58 0 (nI j).toNatClampNeg = 0 := g2
              rw [ej] at g2
              rw [if_pos ⟨g, g2⟩] at ih
              refine And.intro v16 ?_
              refine And.intro (fun g3 => ?_) (fun g3 => ?_)
              · have g3 : R.1 53 0 (nI j).toNatClampNeg = 2 := g3
                rw [ej] at g3
                rw [if_pos g3, if_pos g3] at ih
                refine And.intro v16 ?_
                refine And.intro v16 ?_
                refine And.intro (fun g4 => absurd (show R.1 53 0 (nI j).toNatClampNeg = 2 by rw [ej]; exact g3) g4) (fun _ => ?_)
                refine And.intro v16 ?_
                refine nxt _ ?_
                show V (d + 3) 0 0 m_M_lose 87 [some M0, some (.inl x), some (.inl (nI (j + 1)))] [] (xupd (xupd R 58 0 (nI j).toNatClampNeg (vp_nar .boolean 0)) 54 0 (nI j).toNatClampNeg (-1)) Q
                rw [ej]; exact ih
              · have g3 : ¬ R.1 53 0 (nI j).toNatClampNeg = 2 := g3
                rw [ej] at g3
                rw [if_neg g3, if_neg g3] at ih
                refine And.intro v16 ?_
                refine And.intro v16 ?_
                refine And.intro (fun _ => ?_) (fun g4 => absurd g4 (show ¬ R.1 53 0 (nI j).toNatClampNeg = 2 by rw [ej]; exact g3))
                refine And.intro v16 ?_
                refine nxt _ ?_
                show V (d + 3) 0 0 m_M_lose 87 [some M0, some (.inl x), some (.inl (nI (j + 1)))] [] (xupd (xupd R 58 0 (nI j).toNatClampNeg (vp_nar .boolean 1)) 54 0 (nI j).toNatClampNeg x) Q
                rw [ej]; exact ih
    have loop1 : ∀ m j, j + m = 4 → V (d + 3) 0 0 m_M_lose 63 [some M0, some (.inl x), some (.inl (nI j))] [] (sFill (xupd (xupd (xupd (xupd S 49 0 x.toNatClampNeg 1) 44 0 x.toNatClampNeg (-1)) 46 0 x.toNatClampNeg 0) 47 0 x.toNatClampNeg (-1)) 50 0 (4 * x.toNatClampNeg) j 0) Q := by
      intro m
      induction m with
      | zero =>
        intro j hj
        obtain rfl : j = 4 := by omega
        refine V_go pk_142 [87] 40 ?_
        refine And.intro (fun _ => ?_) (fun q => absurd (Int32.le_refl _) q)
        exact loop2 nv 0 (by omega)
      | succ m ih =>
        intro j hj
        have ih := ih (j + 1) (by omega)
        have i := ixg (c := 4) (N := 16) (x := x) (g := nI j) (hx.mono b) ⟨j, by omega, rfl⟩ (by decide)
        rw [nI_clamp (show j < 2 ^ 31 by omega)] at i
        refine V_go pk_142 [63] 40 ?_
        refine And.intro (fun q => absurd ((nI_leI (a := 4) (by decide) (by omega)).mp q) (by omega)) (fun _ => ?_)
        refine And.intro i.1 ?_
        show V (d + 3) 0 0 m_M_lose 63 [some M0, some (.inl x), some (.inl (nI j + 1))] [] (xupd (sFill (xupd (xupd (xupd (xupd S 49 0 x.toNatClampNeg 1) 44 0 x.toNatClampNeg (-1)) 46 0 x.toNatClampNeg 0) 47 0 x.toNatClampNeg (-1)) 50 0 (4 * x.toNatClampNeg) j 0) 50 0 (4 * x + nI j).toNatClampNeg 0) Q
        rw [i.2, nI_1, sFill_s]
        exact ih
    have := loop1 4 0 (by omega)
    rw [sFill_0] at this
    exact this
  · (repeat' first | (refine And.intro (fun q => absurd q (by decide)) (fun _ => ?_)) | (refine And.intro (fun _ => ?_) (fun q => absurd q (by decide))) | fail)
    exact hb q
theorem atSea_iff {n np t D : Nat} {S : xS} (h : IBl n np t D S) (hp : np ≤ 6) : (S.1 49 0 D = 0 ∧ ¬ S.1 44 0 D = -1) ↔ (¬ S.1 12 D 0 = -1 ∧ ¬ S.1 12 D 1 = -1) := by
  obtain ⟨⟨a1, a2, -⟩, a7, -⟩ := h
  rw [a1, a2]
  rcases a7 with ⟨q1, p, q2, q3, q4⟩ | ⟨q1, q2, q3⟩
  · rw [q1, q3]
    have : ¬ nI p = -1 := fun q => by
      have := congrArg Int32.toInt q
      rw [nI_toInt (by omega), show (-1 : Int32).toInt = -1 from rfl] at this
      omega
    simp [this]
  · rw [q1, q2, q3]; simp
theorem fk_36 {k j : Nat} (h1 : 36 ≤ k) (h2 : k ≤ 74) : fk k j = k ∨ 37000 ≤ fk k j := by
  unfold fk
  cases hb : fo k with
  | false => exact Or.inl rfl
  | true =>
    right
    have : k = 36 := by
      unfold fo at hb
      simp only [Bool.or_eq_true, Nat.beq_eq] at hb
      omega
    subst this
    show 37000 ≤ 1000 * (36 + 1) + j
    omega
theorem fl_36 {l : List Nat} {k j : Nat} (hl : l.all (fun q => decide (q < 36) || (decide (1000 ≤ q) && decide (q < 37000))) = true) (h1 : 36 ≤ k) (h2 : k ≤ 74) : fl l k j = false := by
  cases hb : fl l k j with
  | false => rfl
  | true =>
    have hm : fk k j ∈ l := List.elem_iff.mp hb
    have := List.all_eq_true.mp hl _ hm
    simp only [Bool.or_eq_true, Bool.and_eq_true, decide_eq_true_eq] at this
    have := fk_36 (j := j) h1 h2
    omega
theorem fl_no36 {l : List Nat} {k j : Nat} (hl : l.all (fun q => decide (36 ≤ q) && decide (q ≤ 74)) = true) (h : ¬ (36 ≤ k ∧ k ≤ 74)) : fl l k j = false := by
  cases hb : fl l k j with
  | false => rfl
  | true =>
    have hm : fk k j ∈ l := List.elem_iff.mp hb
    have := List.all_eq_true.mp hl _ hm
    simp only [Bool.and_eq_true, decide_eq_true_eq] at this
    exfalso
    unfold fk at this
    cases hf : fo k with
    | false => rw [hf] at this; exact h this
    | true =>
      rw [hf] at this
      have h3 : 1000 * (k + 1) + j ≤ 74 := this.2
      omega
theorem mix_eq2 {S T : xS} (h : ∀ k i j, ¬ (36 ≤ k ∧ k ≤ 74) → T.1 k i j = S.1 k i j) (h2 : T.2 = S.2) : mix S T = T := by
  unfold mix
  refine Prod.ext ?_ ?_
  · funext k i j
    dsimp only
    cases hb : (Nat.ble 36 k && Nat.ble k 74) with
    | true => rfl
    | false =>
      refine (h k i j (fun q => ?_)).symm
      rw [Nat.ble_eq_true_of_le q.1, Nat.ble_eq_true_of_le q.2] at hb
      cases hb
  · funext k i j
    dsimp only
    cases hb : (Nat.ble 36 k && Nat.ble k 74) with
    | true => rfl
    | false => rw [h2]; rfl
theorem Fr.mix {l1 l2 l : List Nat} {S A B : xS} (hA : Fr (fl l1) S A) (hB : ∀ k i j, 36 ≤ k → k ≤ 74 → fl l2 k j = false → B.1 k i j = S.1 k i j) (hB2 : B.2 = S.2) (h1 : l1.all (fun q => l.elem q) = true) (h2 : l2.all (fun q => l.elem q) = true) : Fr (fl l) S (mix A B) := by
  have sub : ∀ {l0 : List Nat}, l0.all (fun q => l.elem q) = true → ∀ k j, fl l k j = false → fl l0 k j = false := fun {l0} h0 k j hf => by
    cases hb : fl l0 k j with
    | false => rfl
    | true =>
      have := List.all_eq_true.mp h0 _ (List.elem_iff.mp hb)
      rw [show fl l k j = true from this] at hf
      cases hf
  refine ⟨fun k i j hf => ?_, ?_⟩
  · show cond (Nat.ble 36 k && Nat.ble k 74) (B.1 k i j) (A.1 k i j) = _
    cases hb : (Nat.ble 36 k && Nat.ble k 74) with
    | true =>
      have := Bool.and_eq_true_iff.mp hb
      exact hB k i j (Nat.le_of_ble_eq_true this.1) (Nat.le_of_ble_eq_true this.2) (sub h2 k j hf)
    | false => exact hA.1 k i j (sub h1 k j hf)
  · funext k i j
    show cond (Nat.ble 36 k && Nat.ble k 74) (B.2 k i j) (A.2 k i j) = _
    rw [hB2, hA.2]
    cases (Nat.ble 36 k && Nat.ble k 74) <;> rfl
theorem dnM_cong {E A : xS} {D k i j : Nat} (h : E.1 k i j = A.1 k i j) : (dnM E D).1 k i j = (dnM A D).1 k i j := by
  unfold dnM
  simp only [sFill_at, xu, h]
theorem cm_lose {dp n np nd nv nt r t : Nat} {S : xS} (hN : IN np nd nv nt r t S) (hB : IB n np nd t S) (hD : ID nd nv S) {x : Int32} : CT (dp + 3) 0 0 m_C_lose [C0, .inl x] S (fun a S1 => CT (dp + 3) 0 0 m_M_lose [M0, .inl x] S1 (fun a' S2 => a' = a ∧ (IB n np nd t S2 ∧ ID nd nv S2) ∧ Fr (fl [13000, 13001, 13002, 13004, 13006, 13, 16001, 16007, 49, 44, 46, 47, 50, 54, 58]) S S2)) := by
  obtain ⟨⟨b1, b2, b3, b4, b5, b6⟩, ⟨e1, e2⟩, ⟨e3, e4⟩, ⟨e7, e8⟩, e9, e11, e13, e14⟩ := id hN
  have hl : ∀ D, D < nd → IBl n np t D S := fun D hD => (hB D (by omega)).1 hD
  have ov : ∀ v, v < nv → S.1 58 0 v = 0 ∨ S.1 58 0 v = 1 := fun v hv => by
    have := ((hD v (by omega)).1 hv)
    rw [this.1.2.2.2.2.2.2]; exact this.2.2.2.2.2.2
  have keep : IB n np nd t S ∧ ID nd nv S := ⟨hB, hD⟩
  refine ct_C_lose e3 e7 b2 b3 (fun q => ?_) (fun hx q => ?_) (fun hx q => ?_)
  · exact ct_M_lose e4 e8 b2 b3 ov (fun _ => ⟨rfl, keep, Fr.rf⟩) (fun g => absurd g q) (fun g => absurd g q)
  · exact ct_M_lose e4 e8 b2 b3 ov (fun g => absurd hx g) (fun _ _ => ⟨rfl, keep, Fr.rf⟩) (fun _ g => absurd ((atSea_iff (hl _ hx.lt) b1).mp g) q)
  · have fD := dnC_fr S x.toNatClampNeg
    have fL := lsC_fr (dnC S x.toNatClampNeg) x.toNatClampNeg nv
    have f1 : Fr (fl [13000, 13001, 13002, 13004, 13006, 13, 16001, 16007]) S (lsC (dnC S x.toNatClampNeg) x.toNatClampNeg nv) := (fD.wk (by decide)).tr (fL.wk (by decide))
    generalize hE : lsC (dnC S x.toNatClampNeg) x.toNatClampNeg nv = E at f1 fL ⊢
    have h36 : ∀ k i j, 36 ≤ k → k ≤ 74 → E.1 k i j = S.1 k i j := fun k i j h1 h2 => f1.1 k i j (fl_36 (by decide) h1 h2)
    refine ct_M_lose ((h36 36 0 8 (by decide) (by decide)).trans e4) ((h36 36 0 19 (by decide) (by decide)).trans e8) b2 b3 (fun v hv => by rw [h36 58 0 v (by decide) (by decide)]; exact ov v hv) (fun g => absurd hx g) (fun _ g => absurd (by rw [h36 49 0 _ (by decide) (by decide), h36 44 0 _ (by decide) (by decide)]; exact (atSea_iff (hl _ hx.lt) b1).mpr q) g) (fun _ _ => ?_)
    have g1 := dnM_fr E x.toNatClampNeg
    have g2 := lsM_fr (dnM E x.toNatClampNeg) x.toNatClampNeg nv
    have f2 : Fr (fl [49, 44, 46, 47, 50, 54, 58]) E (lsM (dnM E x.toNatClampNeg) x.toNatClampNeg nv) := (g1.wk (by decide)).tr (g2.wk (by decide))
    refine ⟨rfl, ⟨?_, ?_⟩, (f1.wk (by decide)).tr (f2.wk (by decide))⟩
    · refine (hB.lose hx.lt b2).fr (l := [16001, 16007, 54, 58]) ⟨fun k i j hf => ?_, ?_⟩ (by decide)
      · have h1 : fl [54, 58] k j = false := by
          cases hb : fl [54, 58] k j with
          | false => rfl
          | true =>
            have hm : fk k j = 54 ∨ fk k j = 58 := by simpa using hb
            exfalso
            rcases hm with e | e <;> (rw [show fl [16001, 16007, 54, 58] k j = true by show List.elem (fk k j) [16001, 16007, 54, 58] = true; rw [e]; rfl] at hf; cases hf)
        have h2 : fl [16001, 16007] k j = false := by
          cases hb : fl [16001, 16007] k j with
          | false => rfl
          | true =>
            have hm : fk k j = 16001 ∨ fk k j = 16007 := by simpa using hb
            exfalso
            rcases hm with e | e <;> (rw [show fl [16001, 16007, 54, 58] k j = true by show List.elem (fk k j) [16001, 16007, 54, 58] = true; rw [e]; rfl] at hf; cases hf)
        rw [g2.1 k i j h1]
        exact dnM_cong (fL.1 k i j h2)
      · rw [g2.2, g1.2, f1.2, (dnM_fr _ _).2, fD.2]
    · have base : ID nd nv (mix (dnC S x.toNatClampNeg) (dnM E x.toNatClampNeg)) := by
        refine hD.fr (l := [13000, 13001, 13002, 13004, 13006, 13, 49, 44, 46, 47, 50]) (Fr.mix (l2 := [49, 44, 46, 47, 50]) fD (fun k i j h1 h2 hf => ?_) ?_ (by decide) (by decide)) (by decide)
        · rw [g1.1 k i j hf, h36 k i j h1 h2]
        · rw [g1.2, f1.2]
      have := base.loseN b3 hx.lt b2 nv (Nat.le_refl _)
      rw [hE, mix_eq2 (fun k i j h => f2.1 k i j (fl_no36 (by decide) h)) f2.2] at this
      exact this
