theorem ct_M_days {d nd np t : Nat} {x : Int32} {S : xS} {Q : xQ} (hnd : S.1 36 0 8 = nI nd) (b : nd ≤ 4) (hnp : S.1 36 0 1 = nI np) (b1 : np ≤ 6) (ht : S.1 36 0 0 = nI t) (t9 : t ≤ 9999) (hp : pM nd S) (hb : ¬ inR 1 400 x → Q (some (.inl (-2))) S) (hf : inR 1 400 x → 9999 < t + x.toNatClampNeg → Q (some (.inl (-4))) S) (hk : inR 1 400 x → t + x.toNatClampNeg ≤ 9999 → Q (some (.inl (nI (t + x.toNatClampNeg)))) (dyM S np nd x.toNatClampNeg)) : CT (d + 6) 0 0 m_M_days [M0, .inl x] S Q := by
  refine ct_of (xmok_all (by decide)) rfl (V_go (pc := 0) pk_141 [32] 40 ?_)
  refine cM_w 1 400 rfl rfl (by decide) (by decide) (fun h1 => ?_) (fun q => ?_)
  · (repeat' first | (refine And.intro (fun q => absurd q (by decide)) (fun _ => ?_)) | (refine And.intro (fun _ => ?_) (fun q => absurd q (by decide))) | fail)
    have hf := hf h1
    have hk := hk h1
    obtain ⟨N, n1, n2, rfl⟩ := h1
    rw [nI_clamp (show N < 2 ^ 31 by omega)] at hf hk
    have k8 : ∀ m, (dyM S np nd m).1 36 0 8 = nI nd := fun m => ((dyM_fr S np nd m).1 36 0 8 rfl).trans hnd
    have k1 : ∀ m, (dyM S np nd m).1 36 0 1 = nI np := fun m => ((dyM_fr S np nd m).1 36 0 1 rfl).trans hnp
    have k0 : ∀ m, (dyM S np nd m).1 36 0 0 = nI (t + m) := by
      intro m
      induction m with
      | zero => exact ht
      | succ m ih =>
        show (biM (xupd (dyM S np nd m) 36 0 0 ((dyM S np nd m).1 36 0 0 + 1)) np nd).1 36 0 0 = _
        rw [(biM_fr _ np nd).1 36 0 0 rfl, ih]
        show nI (t + m) + 1 = _
        rw [nI_1]; rfl
    have kp : ∀ m, pM nd (dyM S np nd m) := by
      intro m
      induction m with
      | zero => exact hp
      | succ m ih => exact pM.bi (S := xupd (dyM S np nd m) 36 0 0 ((dyM S np nd m).1 36 0 0 + 1)) (fun D hD => ih D hD) nd
    -- all dhows of one day
    have inner : ∀ (R : xS) (j i : Nat), R.1 36 0 8 = nI nd → R.1 36 0 1 = nI np → pM nd R → (∃ c : Nat, c < 2 ^ 31 ∧ R.1 36 0 0 = nI c) → (∀ o, V (d + 6) 0 0 m_M_days 88 [some M0, some (.inl (nI N)), some (.inl (nI j)), o] [] (biM R np nd) Q) → i = nd → ∀ m k, k + m = nd → V (d + 6) 0 0 m_M_days 49 [some M0, some (.inl (nI N)), some (.inl (nI j)), some (.inl (nI k))] [] (biM R np k) Q := by
      intro R j i r8 r1 rp r0 hdone _ m
      induction m with
      | zero =>
        intro k hkk
        obtain rfl : k = nd := by omega
        refine V_go pk_141 [88] 40 ?_
        refine And.intro (fun _ => hdone _) (fun q => absurd ?_ q)
        show (biM R np k).1 36 0 8 ≤ nI k
        rw [(biM_fr R np k).1 36 0 8 rfl, r8]; exact Int32.le_refl _
      | succ m ih =>
        intro k hkk
        have ih := ih (k + 1) (by omega)
        have e : biM R np (k + 1) = b1M (biM R np k) np k := rfl
        rw [e] at ih
        have q8 : (biM R np k).1 36 0 8 = nI nd := ((biM_fr R np k).1 36 0 8 rfl).trans r8
        have q1 : (biM R np k).1 36 0 1 = nI np := ((biM_fr R np k).1 36 0 1 rfl).trans r1
        have q0 : (biM R np k).1 36 0 0 = R.1 36 0 0 := (biM_fr R np k).1 36 0 0 rfl
        have qp := rp.bi (np := np) k
        generalize biM R np k = T at ih q8 q1 q0 qp ⊢
        have ek : (nI k).toNatClampNeg = k := nI_clamp (by omega)
        have hv : vp_in (nI k) 4 := vi (by omega)
        unfold b1M at ih
        have nxt : ∀ S' : xS, V (d + 6) 0 0 m_M_days 49 [some M0, some (.inl (nI N)), some (.inl (nI j)), some (.inl (nI (k + 1)))] [] S' Q → V (d + 6) 0 0 m_M_days 82 [some M0, some (.inl (nI N)), some (.inl (nI j)), some (.inl (nI k))] [] S' Q := by
          intro S' h
          rw [← nI_1] at h
          refine V_go pk_141 [49] 40 ?_
          exact h
        refine V_go pk_141 [49, 82] 40 ?_
        refine And.intro (fun q => ?_) (fun _ => ?_)
        · have q : T.1 36 0 8 ≤ nI k := q
          rw [q8] at q
          exact absurd ((nI_leI (by omega) (by omega)).mp q) (by omega)
        · refine And.intro hv ?_
          refine And.intro (fun c => ?_) (fun c => ?_)
          · have c : ¬ T.1 44 0 (nI k).toNatClampNeg = T.1 36 0 0 := c
            rw [ek] at c
            rw [if_neg c] at ih
            exact nxt _ ih
          · have c : T.1 44 0 (nI k).toNatClampNeg = T.1 36 0 0 := c
            rw [ek] at c
            rw [if_pos c] at ih
            have hq : inC 6 (T.1 43 0 k) := (qp k (by omega)).resolve_left (fun g => by
              obtain ⟨cc, c2, c3⟩ := r0
              rw [g, q0, c3] at c
              have := congrArg Int32.toInt c
              rw [nI_toInt c2, show (-1 : Int32).toInt = -1 from rfl] at this
              omega)
            refine And.intro hv ?_
            show CT (d + 5) 0 0 m_M_talk [.inr (.inr (36, 0)), .inl (nI k)] (xupd T 44 0 (nI k).toNatClampNeg (-1)) _
            rw [ek]
            refine ct_talk (D := k) (P := (T.1 43 0 k).toNatClampNeg) (np := np) rfl (by omega) hq.lt hq.eq q1 b1 ?_
            exact nxt _ ih
    have loop : t + N ≤ 9999 → ∀ m j, j + m = N → ∀ o, V (d + 6) 0 0 m_M_days 32 [some M0, some (.inl (nI N)), some (.inl (nI j)), o] [] (dyM S np nd j) Q := by
      intro h9 m
      induction m with
      | zero =>
        intro j hj o
        obtain rfl : j = N := by omega
        refine V_go pk_141 [32] 40 ?_
        refine And.intro (fun _ => ?_) (fun q => absurd (Int32.le_refl _) q)
        exact qi (hk h9) (k0 j) rfl
      | succ m ih =>
        intro j hj o
        have ih := ih (j + 1) (by omega)
        have e : dyM S np nd (j + 1) = biM (xupd (dyM S np nd j) 36 0 0 ((dyM S np nd j).1 36 0 0 + 1)) np nd := rfl
        rw [e] at ih
        have k8 := k8 j
        have k1 := k1 j
        have k0 := k0 j
        have kp := kp j
        generalize dyM S np nd j = R at ih k8 k1 k0 kp ⊢
        refine V_go pk_141 [32, 49] 40 ?_
        refine And.intro (fun q => absurd ((nI_leI (by omega) (by omega)).mp q) (by omega)) (fun _ => ?_)
        have := inner (xupd R 36 0 0 (R.1 36 0 0 + 1)) j nd (by exact k8) (by exact k1) (fun D hD => kp D hD) ⟨t + j + 1, by omega, by show R.1 36 0 0 + 1 = _; rw [k0, nI_1]⟩ (fun o => ?_) rfl nd 0 (by omega)
        · exact this
        · have ih := ih o
          rw [← nI_1] at ih
          refine V_go pk_141 [32] 40 ?_
          exact ih
    refine And.intro (fun q => ?_) (fun q => ?_)
    · have q : S.1 36 0 0 + nI N ≤ nI 9999 := q
      rw [ht, nI_add] at q
      exact loop ((nI_leI (by omega) (by decide)).mp q) N 0 (by omega) none
    · have q : ¬ S.1 36 0 0 + nI N ≤ nI 9999 := q
      rw [ht, nI_add] at q
      refine hf ?_
      rcases Nat.lt_or_ge 9999 (t + N) with g | g
      · exact g
      · exact absurd (nI_le g (by decide)) q
  · (repeat' first | (refine And.intro (fun q => absurd q (by decide)) (fun _ => ?_)) | (refine And.intro (fun _ => ?_) (fun q => absurd q (by decide))) | fail)
    exact hb q
