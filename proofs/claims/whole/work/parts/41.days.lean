/-! days: one dhow, all dhows, one day, all days; of the class and of the model -/
def b1C (S : xS) (D : Nat) : xS := if (¬ S.1 12 D 0 = -1 ∧ ¬ S.1 12 D 1 = -1) ∧ S.1 12 D 1 = S.1 0 0 13 then exC (xupd S 12 D 1 (-1)) (S.1 12 D 0).toNatClampNeg D else S
def biC (S : xS) : Nat → xS
  | 0 => S
  | m + 1 => b1C (biC S m) m
def dyC (S : xS) (nd : Nat) : Nat → xS
  | 0 => S
  | m + 1 => biC (xupd (dyC S nd m) 0 0 13 ((dyC S nd m).1 0 0 13 + 1)) nd
def b1M (S : xS) (np D : Nat) : xS := if S.1 44 0 D = S.1 36 0 0 then tkM (knM (xupd S 44 0 D (-1)) (S.1 43 0 D).toNatClampNeg) (S.1 43 0 D).toNatClampNeg D np else S
def biM (S : xS) (np : Nat) : Nat → xS
  | 0 => S
  | m + 1 => b1M (biM S np m) np m
def dyM (S : xS) (np nd : Nat) : Nat → xS
  | 0 => S
  | m + 1 => biM (xupd (dyM S np nd m) 36 0 0 ((dyM S np nd m).1 36 0 0 + 1)) np nd
theorem b1C_fr (S : xS) (D : Nat) : Fr (fl [9, 10, 13001]) S (b1C S D) := by
  unfold b1C
  by_cases c : (¬ S.1 12 D 0 = -1 ∧ ¬ S.1 12 D 1 = -1) ∧ S.1 12 D 1 = S.1 0 0 13
  · rw [if_pos c]; exact (Fr.rf.up rfl).tr ((exC_fr _ _ _).wk (by decide))
  · rw [if_neg c]; exact Fr.rf
theorem biC_fr (S : xS) : ∀ m, Fr (fl [9, 10, 13001]) S (biC S m)
  | 0 => Fr.rf
  | m + 1 => (biC_fr S m).tr (b1C_fr _ m)
theorem dyC_fr (S : xS) (nd : Nat) : ∀ m, Fr (fl [9, 10, 13001, 1013]) S (dyC S nd m)
  | 0 => Fr.rf
  | m + 1 => ((dyC_fr S nd m).up rfl).tr ((biC_fr _ nd).wk (by decide))
theorem b1M_fr (S : xS) (np D : Nat) : Fr (fl [51, 52, 44]) S (b1M S np D) := by
  unfold b1M
  by_cases c : S.1 44 0 D = S.1 36 0 0
  · rw [if_pos c]; exact (Fr.rf.up rfl).tr ((tkk_fr _ _ _ _).wk (by decide))
  · rw [if_neg c]; exact Fr.rf
theorem biM_fr (S : xS) (np : Nat) : ∀ m, Fr (fl [51, 52, 44]) S (biM S np m)
  | 0 => Fr.rf
  | m + 1 => (biM_fr S np m).tr (b1M_fr _ np m)
theorem dyM_fr (S : xS) (np nd : Nat) : ∀ m, Fr (fl [51, 52, 44, 37000]) S (dyM S np nd m)
  | 0 => Fr.rf
  | m + 1 => ((dyM_fr S np nd m).up rfl).tr ((biM_fr _ np nd).wk (by decide))
/-- where a dhow is, as far as each side must know it -/
def pC (nd : Nat) (S : xS) : Prop := ∀ D, D < nd → S.1 12 D 0 = -1 ∨ inC 6 (S.1 12 D 0)
def pM (nd : Nat) (S : xS) : Prop := ∀ D, D < nd → S.1 44 0 D = -1 ∨ inC 6 (S.1 43 0 D)
theorem pC.fr {nd : Nat} {l : List Nat} {S S2 : xS} (h : pC nd S) (f : Fr (fl l) S S2) (hd : [13000].all (fun q => !l.elem q) = true) : pC nd S2 := fun D hD => by
  rw [f.off hd (k := 12) (i := D) (j := 0) rfl]; exact h D hD
theorem pM.b1 {nd np D : Nat} {S : xS} (h : pM nd S) : pM nd (b1M S np D) := by
  unfold b1M
  by_cases c : S.1 44 0 D = S.1 36 0 0
  · rw [if_pos c]
    intro u hu
    rw [tkk_kp _ _ _ _ 44 0 u (by decide) (by decide), tkk_kp _ _ _ _ 43 0 u (by decide) (by decide)]
    show (if 44 = 44 ∧ u = D ∧ 0 = 0 then -1 else S.1 44 0 u) = -1 ∨ inC 6 (S.1 43 0 u)
    by_cases e : u = D
    · exact Or.inl (if_pos ⟨rfl, e, rfl⟩)
    · rw [if_neg (fun g => e g.2.1)]; exact h u hu
  · rw [if_neg c]; exact h
theorem pM.bi {nd np : Nat} {S : xS} (h : pM nd S) : ∀ m, pM nd (biM S np m)
  | 0 => h
  | m + 1 => (h.bi m).b1
theorem ct_bringIn {d nd : Nat} {S : xS} {Q : xQ} (hnd : S.1 0 0 9 = nI nd) (b : nd ≤ 4) (hp : pC nd S) (h : Q none (biC S nd)) : CT (d + 5) 0 0 m_C_bringIn [.inr (.inr (0, 0))] S Q := by
  have k9 : ∀ m, (biC S m).1 0 0 9 = nI nd := fun m => ((biC_fr S m).1 0 0 9 rfl).trans hnd
  have loop : ∀ m j, j + m = nd → ∀ o, xn8o o = true → V (d + 5) 0 0 m_C_bringIn 2 [some C0, some (.inl (nI j)), o] [] (biC S j) Q := by
    intro m
    induction m with
    | zero =>
      intro j hj o ho
      obtain rfl : j = nd := by omega
      refine V_go pk_90 [2] 40 ?_
      refine And.intro (fun _ => h) (fun q => absurd ?_ q)
      show (biC S j).1 0 0 9 ≤ nI j
      rw [k9]; exact Int32.le_refl _
    | succ m ih =>
      intro j hj o ho
      have ih := ih (j + 1) (by omega)
      have k9 := k9 j
      have hp := hp.fr (biC_fr S j) (by decide)
      have e : biC S (j + 1) = b1C (biC S j) j := rfl
      rw [e] at ih
      generalize biC S j = R at ih k9 hp ⊢
      have ej : (nI j).toNatClampNeg = j := nI_clamp (by omega)
      have nxt : ∀ S' : xS, (∀ o, xn8o o = true → V (d + 5) 0 0 m_C_bringIn 2 [some C0, some (.inl (nI (j + 1))), o] [] S' Q) → V (d + 5) 0 0 m_C_bringIn 45 [some C0, some (.inl (nI j)), some (.inr (.inr (12, j)))] [] S' Q := by
        intro S' h
        have h := h (some (.inr (.inr (12, j)))) rfl
        rw [← nI_1] at h
        refine V_go pk_90 [2] 40 ?_
        exact h
      unfold b1C at ih
      refine V_go pk_90 [2, 17] 40 ?_
      refine And.intro (fun q => ?_) (fun _ => ?_)
      · have q : R.1 0 0 9 ≤ nI j := q
        rw [k9] at q
        exact absurd ((nI_leI (by omega) (by omega)).mp q) (by omega)
      · refine And.intro (vi (N := 4) (by omega)) ?_
        show V (d + 5) 0 0 m_C_bringIn 17 [some C0, some (.inl (nI j)), some (.inr (.inr (12, (nI j).toNatClampNeg)))] [] R Q
        rw [ej]
        refine V_go pk_90 [2, 45] 40 ?_
        refine ct_atSea (fun p1 p2 => ?_) (fun q => ?_)
        · (repeat' first | (refine And.intro (fun q => absurd q (by decide)) (fun _ => ?_)) | (refine And.intro (fun _ => ?_) (fun q => absurd q (by decide))) | fail)
          refine And.intro (fun c => ?_) (fun c => ?_)
          · rw [if_neg (fun g => c g.2)] at ih
            exact nxt _ ih
          · rw [if_pos ⟨⟨p1, p2⟩, c⟩] at ih
            have hq := (hp j (by omega)).resolve_left p1
            refine ct_exch (P := (R.1 12 j 0).toNatClampNeg) hq.lt hq.eq ?_
            exact nxt _ ih
        · (repeat' first | (refine And.intro (fun q => absurd q (by decide)) (fun _ => ?_)) | (refine And.intro (fun _ => ?_) (fun q => absurd q (by decide))) | fail)
          rw [if_neg (fun g => q g.1)] at ih
          exact nxt _ ih
  refine ct_of (xmok_all (by decide)) rfl (V_go (pc := 0) pk_90 [2] 10 ?_)
  exact loop nd 0 (by omega) none rfl
theorem ct_C_days {d nd t : Nat} {x : Int32} {S : xS} {Q : xQ} (hnd : S.1 0 0 9 = nI nd) (b : nd ≤ 4) (ht : S.1 0 0 13 = nI t) (t9 : t ≤ 9999) (hp : pC nd S) (hb : ¬ inR 1 400 x → Q (some (.inl (-2))) S) (hf : inR 1 400 x → 9999 < t + x.toNatClampNeg → Q (some (.inl (-4))) S) (hk : inR 1 400 x → t + x.toNatClampNeg ≤ 9999 → Q (some (.inl (nI (t + x.toNatClampNeg)))) (dyC S nd x.toNatClampNeg)) : CT (d + 6) 0 0 m_C_days [C0, .inl x] S Q := by
  refine ct_of (xmok_all (by decide)) rfl (V_go (pc := 0) pk_89 [31] 40 ?_)
  refine cC_w 1 400 rfl rfl (by decide) (by decide) (fun h1 => ?_) (fun q => ?_)
  · (repeat' first | (refine And.intro (fun q => absurd q (by decide)) (fun _ => ?_)) | (refine And.intro (fun _ => ?_) (fun q => absurd q (by decide))) | fail)
    have hf := hf h1
    have hk := hk h1
    obtain ⟨N, n1, n2, rfl⟩ := h1
    rw [nI_clamp (show N < 2 ^ 31 by omega)] at hf hk
    have k9 : ∀ m, (dyC S nd m).1 0 0 9 = nI nd := fun m => ((dyC_fr S nd m).1 0 0 9 rfl).trans hnd
    have k13 : ∀ m, (dyC S nd m).1 0 0 13 = nI (t + m) := by
      intro m
      induction m with
      | zero => exact ht
      | succ m ih =>
        show (biC (xupd (dyC S nd m) 0 0 13 ((dyC S nd m).1 0 0 13 + 1)) nd).1 0 0 13 = _
        rw [(biC_fr _ nd).1 0 0 13 rfl, ih]
        show nI (t + m) + 1 = _
        rw [nI_1]; rfl
    have loop : t + N ≤ 9999 → ∀ m j, j + m = N → V (d + 6) 0 0 m_C_days 31 [some C0, some (.inl (nI N)), some (.inl (nI j))] [] (dyC S nd j) Q := by
      intro h9 m
      induction m with
      | zero =>
        intro j hj
        obtain rfl : j = N := by omega
        refine V_go pk_89 [31] 40 ?_
        refine And.intro (fun _ => ?_) (fun q => absurd (Int32.le_refl _) q)
        exact qi (hk h9) (k13 j) rfl
      | succ m ih =>
        intro j hj
        have ih := ih (j + 1) (by omega)
        have e : dyC S nd (j + 1) = biC (xupd (dyC S nd j) 0 0 13 ((dyC S nd j).1 0 0 13 + 1)) nd := rfl
        rw [e] at ih
        have k9 := k9 j
        have hp := hp.fr (dyC_fr S nd j) (by decide)
        generalize dyC S nd j = R at ih k9 hp ⊢
        refine V_go pk_89 [31] 40 ?_
        refine And.intro (fun q => absurd ((nI_leI (by omega) (by omega)).mp q) (by omega)) (fun _ => ?_)
        refine ct_bringIn (by exact k9) b (hp.fr (l := [1013]) (Fr.rf.up rfl) (by decide)) ?_
        show V (d + 6) 0 0 m_C_days 31 [some C0, some (.inl (nI N)), some (.inl (nI j + 1))] [] (biC (xupd R 0 0 13 (R.1 0 0 13 + 1)) nd) Q
        rw [nI_1]
        exact ih
    refine And.intro (fun q => ?_) (fun q => ?_)
    · have q : S.1 0 0 13 + nI N ≤ nI 9999 := q
      rw [ht, nI_add] at q
      exact loop ((nI_leI (by omega) (by decide)).mp q) N 0 (by omega)
    · have q : ¬ S.1 0 0 13 + nI N ≤ nI 9999 := q
      rw [ht, nI_add] at q
      refine hf ?_
      rcases Nat.lt_or_ge 9999 (t + N) with g | g
      · exact g
      · exact absurd (nI_le g (by decide)) q
  · (repeat' first | (refine And.intro (fun q => absurd q (by decide)) (fun _ => ?_)) | (refine And.intro (fun _ => ?_) (fun q => absurd q (by decide))) | fail)
    exact hb q
