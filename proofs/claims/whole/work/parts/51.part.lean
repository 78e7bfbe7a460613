/-! end: the model weighs; both part -/
theorem lg_eq {x y : Int64} : lg_cmp x y = 0 ↔ x = y := by
  unfold lg_cmp
  by_cases h : x > y
  · rw [if_pos h]
    exact ⟨fun q => absurd q (by decide), fun q => absurd (show y < y from q ▸ h) Int64.lt_irrefl⟩
  · rw [if_neg h]
    by_cases e : x = y
    · rw [if_pos e]; exact ⟨fun _ => e, fun _ => rfl⟩
    · rw [if_neg e]; exact ⟨fun q => absurd q (by decide), fun q => absurd q e⟩
theorem xupl_at {S : xS} {k i j : Nat} {x : Int64} : (xupl S k i j x).2 k i j = x := if_pos ⟨rfl, rfl, rfl⟩
def tkB (S : xS) (D v : Nat) : Bool := decide (S.1 54 0 v = nI D ∧ S.1 58 0 v = 0 ∧ ¬ S.1 53 0 v = 5)
theorem ct_M_takes {d D v : Nat} {S : xS} {Q : xQ} (hv : v < 16) (h1 : tkB S D v = true → Q (some (.inl 1)) S) (h0 : ¬ tkB S D v = true → Q (some (.inl 0)) S) : CT d 0 0 m_M_takesPart [M0, .inl (nI v), .inl (nI D)] S Q := by
  have ev : (nI v).toNatClampNeg = v := nI_clamp (by omega)
  have vv : vp_in (nI v) 16 := vi hv
  refine ct_of (xmok_all (by decide)) rfl (V_go (pc := 0) pk_156 [] 40 ?_)
  refine And.intro vv ?_
  rw [ev]
  refine And.intro (fun k1 => And.intro (Or.inl rfl) (h0 (fun q => k1 (of_decide_eq_true q).1))) (fun k1 => ?_)
  refine And.intro vv ?_
  refine And.intro (fun k2 => ?_) (fun k2 => ?_)
  · have k2 : ¬ S.1 58 0 (nI v).toNatClampNeg = 0 := k2
    rw [ev] at k2
    exact And.intro (Or.inl rfl) (h0 (fun q => k2 (of_decide_eq_true q).2.1))
  · have k2 : S.1 58 0 (nI v).toNatClampNeg = 0 := k2
    rw [ev] at k2
    refine And.intro vv ?_
    refine And.intro (fun k3 => ?_) (fun k3 => ?_)
    · have k3 : S.1 53 0 (nI v).toNatClampNeg = 5 := k3
      rw [ev] at k3
      exact And.intro (Or.inl rfl) (h0 (fun q => (of_decide_eq_true q).2.2 k3))
    · have k3 : ¬ S.1 53 0 (nI v).toNatClampNeg = 5 := k3
      rw [ev] at k3
      exact And.intro (Or.inr rfl) (h1 (decide_eq_true ⟨k1, k2, k3⟩))
def wtM (S : xS) (f : Int32 → Int32 → Int32) (v : Nat) : Int32 := wtP (S.1 53 0 v) (f (S.1 56 0 v) (S.1 57 0 v))
def wlM (S : xS) (D : Nat) (f : Int32 → Int32 → Int32) (v : Nat) : Int64 := if tkB S D v = true then (wtM S f v).toInt64 else 0
/-- the figures of the voyage, in the model -/
def RVm (g b m : Int32) (S : xS) : Prop := S.1 36 0 27 = g ∧ S.1 36 0 28 = b ∧ S.1 36 0 29 = m
theorem ct_M_weigh {d r e nv D t : Nat} {c : Nat → Int32} {g b m s : Int32} {S : xS} {Q : xQ} (e7 : S.1 36 0 19 = nI nv) (b2 : nv ≤ 16) (er : S.1 36 0 34 = nI r) (r6 : r < 6) (hM : MPc r 0 e c S) (ht : S.1 36 0 0 = nI t) (t9 : t ≤ 9999) (hs : s = nI (t / 30 % 12)) (hv : RVm g b m S) (h : ∀ T, Fr (fl [69]) S (T.1, S.2) → (∀ u, u < nv → T.2 60 0 u = wlM S D (rvP c e g b m s) u) → Q (some (.inr (.inl (sgP (tkB S D) (wtM S (rvP c e g b m s)) nv)))) T) : CT (d + 2) 0 0 m_M_weigh [M0, .inl (nI D)] S Q := by
  generalize hf : rvP c e g b m s = f at h
  obtain ⟨v0, v1, v2⟩ := hv
  have loop : ∀ k j, j + k = nv → ∀ T, Fr (fl [69]) S (T.1, S.2) → (∀ u, u < j → T.2 60 0 u = wlM S D f u) → ∀ o, (o = none ∨ ∃ w : Int64, o = some (.inr (.inl w))) → V (d + 2) 0 0 m_M_weigh 5 [some M0, some (.inl (nI D)), some (.inr (.inl (sgP (tkB S D) (wtM S f) j))), none, some (.inl (nI j)), o, none] [] T Q := by
    intro k
    induction k with
    | zero =>
      intro j hj T hT hwT o ho
      obtain rfl : j = nv := by omega
      have en : T.1 36 0 19 = nI j := (hT.1 36 0 19 rfl).trans e7
      refine V_go pk_155 [5] 40 ?_
      refine And.intro (fun _ => h T hT hwT) (fun q => absurd ?_ q)
      show T.1 36 0 19 ≤ nI j
      rw [en]; exact Int32.le_refl _
    | succ k ih =>
      intro j hj T hT hwT o ho
      have ej : (nI j).toNatClampNeg = j := nI_clamp (by omega)
      have vj : vp_in (nI j) 16 := vi (by omega)
      have en : T.1 36 0 19 = nI nv := (hT.1 36 0 19 rfl).trans e7
      have t53 : T.1 53 0 j = S.1 53 0 j := hT.1 53 0 j rfl
      have t54 : T.1 54 0 j = S.1 54 0 j := hT.1 54 0 j rfl
      have t58 : T.1 58 0 j = S.1 58 0 j := hT.1 58 0 j rfl
      have t56 : T.1 56 0 j = S.1 56 0 j := hT.1 56 0 j rfl
      have t57 : T.1 57 0 j = S.1 57 0 j := hT.1 57 0 j rfl
      have etk : tkB T D j = tkB S D j := by unfold tkB; rw [t53, t54, t58]
      have es : sgP (tkB S D) (wtM S f) (j + 1) = if tkB S D j = true then sgP (tkB S D) (wtM S f) j + (wtM S f j).toInt64 else sgP (tkB S D) (wtM S f) j := rfl
      have es2 : sgP (tkB S D) (wtM S f) (j + 1) = sgP (tkB S D) (wtM S f) j + wlM S D f j := by
        rw [es]; unfold wlM
        by_cases q : tkB S D j = true
        · rw [if_pos q, if_pos q]
        · rw [if_neg q, if_neg q, Int64.add_zero]
      have ih := fun T2 => ih (j + 1) (by omega) T2
      rw [es2, ← nI_1] at ih
      generalize sgP (tkB S D) (wtM S f) j = su at ih ⊢
      have tail : ∀ T2, Fr (fl [69]) S (T2.1, S.2) → (∀ u, u < j → T2.2 60 0 u = wlM S D f u) → ∀ w : Int64, (if w < 0 then (0 : Int64) else if S.1 53 0 j = 3 then w / 2 else w) = wlM S D f j → ∀ o, V (d + 2) 0 0 m_M_weigh 75 [some M0, some (.inl (nI D)), some (.inr (.inl su)), none, some (.inl (nI j)), o, none] [.inr (.inl w)] T2 Q := by
        intro T2 hT2 hw2 w hw o
        have u53 : T2.1 53 0 j = S.1 53 0 j := hT2.1 53 0 j rfl
        have fin : ∀ x : Int64, x = wlM S D f j → V (d + 2) 0 0 m_M_weigh 5 [some M0, some (.inl (nI D)), some (.inr (.inl (su + (xupl T2 60 0 (nI j).toNatClampNeg x).2 60 0 (nI j).toNatClampNeg))), none, some (.inl (nI j + 1)), some (.inr (.inl w)), none] [] (xupl T2 60 0 (nI j).toNatClampNeg x) Q := by
          intro x hx
          rw [xupl_at, hx, ej]
          refine ih (xupl T2 60 0 j (wlM S D f j)) hT2 (fun u hu => ?_) (some (.inr (.inl w))) (Or.inr ⟨w, rfl⟩)
          show (if 60 = 60 ∧ u = j ∧ 0 = 0 then wlM S D f j else T2.2 60 0 u) = _
          by_cases eu : u = j
          · rw [if_pos ⟨rfl, eu, rfl⟩, eu]
          · rw [if_neg (fun q => eu q.2.1)]; exact hw2 u (by omega)
        refine V_go pk_155 [5] 60 ?_
        refine And.intro (fun q => ?_) (fun q => ?_)
        · have q : ¬ w < 0 := fun g => absurd (lg_lt.mpr g) (Int32.not_lt.mpr q)
          rw [if_neg q] at hw
          refine And.intro vj ?_
          refine And.intro (fun k3 => ?_) (fun k3 => ?_)
          · have k3 : ¬ T2.1 53 0 (nI j).toNatClampNeg = 3 := k3
            rw [ej, u53] at k3
            rw [if_neg k3] at hw
            refine And.intro vj ?_
            refine And.intro vj ?_
            exact fin w hw
          · have k3 : T2.1 53 0 (nI j).toNatClampNeg = 3 := k3
            rw [ej, u53] at k3
            rw [if_pos k3] at hw
            refine And.intro (by decide) ?_
            refine And.intro vj ?_
            refine And.intro vj ?_
            exact fin (w / 2) hw
        · have q : w < 0 := lg_lt.mp (Int32.not_le.mp q)
          rw [if_pos q] at hw
          refine And.intro vj ?_
          refine And.intro vj ?_
          exact fin 0 hw
      have z : (if (0 : Int64) < 0 then (0 : Int64) else if S.1 53 0 j = 3 then (0 : Int64) / 2 else 0) = 0 := by
        rw [if_neg (by decide)]
        by_cases k3 : S.1 53 0 j = 3
        · rw [if_pos k3]; rfl
        · rw [if_neg k3]
      have hMT : MPc r 0 e c (T.1, S.2) := hM.fr hT (by decide)
      rcases ho with rfl | ⟨w0, rfl⟩
      all_goals (
        refine V_go pk_155 [5, 75] 60 ?_
        refine And.intro (fun q => ?_) (fun _ => ?_)
        · have q : T.1 36 0 19 ≤ nI j := q
          rw [en] at q
          exact absurd ((nI_leI (by omega) (by omega)).mp q) (by omega)
        · refine ct_M_takes (v := j) (D := D) (by omega) (fun q => ?_) (fun q => ?_)
          · rw [etk] at q
            (repeat' first | (refine And.intro (fun q => absurd q (by decide)) (fun _ => ?_)) | (refine And.intro (fun _ => ?_) (fun q => absurd q (by decide))) | fail)
            refine And.intro vj ?_
            refine And.intro (fun k4 => ?_) (fun k4 => ?_)
            · have k4 : T.1 53 0 (nI j).toNatClampNeg = 4 := k4
              rw [ej, t53] at k4
              refine tail T hT hwT 0 ?_ _
              rw [z]; unfold wlM wtM wtP; rw [if_pos q, if_pos k4]; rfl
            · have k4 : ¬ T.1 53 0 (nI j).toNatClampNeg = 4 := k4
              rw [ej, t53] at k4
              refine And.intro vj ?_
              refine And.intro vj ?_
              have q34 : T.1 36 0 34 = nI r := (hT.1 36 0 34 rfl).trans er
              have q27 : T.1 36 0 27 = g := (hT.1 36 0 27 rfl).trans v0
              have q28 : T.1 36 0 28 = b := (hT.1 36 0 28 rfl).trans v1
              have q29 : T.1 36 0 29 = m := (hT.1 36 0 29 rfl).trans v2
              rw [ej, show xfv T 36 0 34 none = (.inl (nI r) : xV) from congrArg Sum.inl q34, show xfv T 36 0 27 none = (.inl g : xV) from congrArg Sum.inl q27, show xfv T 36 0 28 none = (.inl b : xV) from congrArg Sum.inl q28, show xfv T 36 0 29 none = (.inl m : xV) from congrArg Sum.inl q29, t56, t57]
              refine ct_vlM (s := s) (S := T) (P := 0) r6 (by decide) hMT ((hT.1 36 0 0 rfl).trans ht) t9 hs (fun S1 f1 => ?_)
              rw [hf]
              refine tail S1 ⟨fun k i j q => (f1.1 k i j q).trans (hT.1 k i j q), rfl⟩ (fun u hu => by rw [f1.2]; exact hwT u hu) _ ?_ _
              rw [wtP_L k4]; unfold wlM; rw [if_pos q]; rfl
          · rw [etk] at q
            (repeat' first | (refine And.intro (fun q => absurd q (by decide)) (fun _ => ?_)) | (refine And.intro (fun _ => ?_) (fun q => absurd q (by decide))) | fail)
            refine tail T hT hwT 0 ?_ _
            rw [z]; unfold wlM; rw [if_neg q])
  refine ct_of (xmok_all (by decide)) rfl (V_go (pc := 0) pk_155 [5] 20 ?_)
  exact loop nv 0 (by omega) S Fr.rf (fun u hu => absurd hu (Nat.not_lt_zero _)) none (Or.inl rfl)
