/-! winds -/
def clC (v : Int32) : Int32 := if -2 < (if 2 < v then 2 else v) then (if 2 < v then 2 else v) else -2
def clM (v : Int32) : Int32 := if v < -2 then -2 else if 2 < v then 2 else v
theorem cl_eq (v : Int32) : clM v = clC v ∧ -2 ≤ clC v ∧ clC v ≤ 2 := by
  unfold clC clM
  by_cases h2 : 2 < v
  · have h1 : ¬ v < -2 := fun q => by
      have a := Int32.lt_iff_toInt_lt.mp h2
      have b := Int32.lt_iff_toInt_lt.mp q
      rw [show (2 : Int32).toInt = 2 from rfl] at a
      rw [show (-2 : Int32).toInt = -2 from rfl] at b
      omega
    simp only [if_pos h2, if_neg h1]
    decide
  · simp only [if_neg h2]
    by_cases h1 : -2 < v
    · have h0 : ¬ v < -2 := fun q => Int32.lt_irrefl (Int32.lt_trans h1 q)
      simp only [if_pos h1, if_neg h0]
      exact ⟨trivial, Int32.le_of_lt h1, Int32.not_lt.mp h2⟩
    · simp only [if_neg h1]
      refine ⟨?_, by decide, by decide⟩
      by_cases h0 : v < -2
      · exact if_pos h0
      · rw [if_neg h0]
        exact Int32.le_antisymm (Int32.not_lt.mp h1) (Int32.not_lt.mp h0)
def wdC (S : xS) (x : Nat) (f : Int32) : Nat → xS
  | 0 => S
  | m + 1 => xupd (wdC S x f m) 3 0 m (clC (S.1 22 x (f + nI m).toNatClampNeg))
def wdM (S : xS) (x : Nat) (f : Int32) : Nat → xS
  | 0 => S
  | m + 1 => xupd (wdM S x f m) 42 0 m (clM (S.1 74 0 (40 * x + (f + nI m).toNatClampNeg)))
theorem wdC_fr (S : xS) (x : Nat) (f : Int32) : ∀ m, Fr (fl [3]) S (wdC S x f m)
  | 0 => Fr.rf
  | m + 1 => (wdC_fr S x f m).up rfl
theorem wdM_fr (S : xS) (x : Nat) (f : Int32) : ∀ m, Fr (fl [42]) S (wdM S x f m)
  | 0 => Fr.rf
  | m + 1 => (wdM_fr S x f m).up rfl
theorem wdC_at (S : xS) (x : Nat) (f : Int32) : ∀ m j, (wdC S x f m).1 3 0 j = if j < m then clC (S.1 22 x (f + nI j).toNatClampNeg) else S.1 3 0 j
  | 0, j => by rw [if_neg (by omega)]; rfl
  | m + 1, j => by
    show (if 3 = 3 ∧ j = m ∧ 0 = 0 then clC (S.1 22 x (f + nI m).toNatClampNeg) else (wdC S x f m).1 3 0 j) = _
    rw [wdC_at S x f m j]
    by_cases h : j = m
    · subst h
      rw [if_pos ⟨rfl, rfl, rfl⟩, if_pos (by omega)]
    · rw [if_neg (fun q => h q.2.1)]
      by_cases h2 : j < m
      · rw [if_pos h2, if_pos (by omega)]
      · rw [if_neg h2, if_neg (by omega)]
theorem wdM_at (S : xS) (x : Nat) (f : Int32) : ∀ m j, (wdM S x f m).1 42 0 j = if j < m then clM (S.1 74 0 (40 * x + (f + nI j).toNatClampNeg)) else S.1 42 0 j
  | 0, j => by rw [if_neg (by omega)]; rfl
  | m + 1, j => by
    show (if 42 = 42 ∧ j = m ∧ 0 = 0 then clM (S.1 74 0 (40 * x + (f + nI m).toNatClampNeg)) else (wdM S x f m).1 42 0 j) = _
    rw [wdM_at S x f m j]
    by_cases h : j = m
    · subst h
      rw [if_pos ⟨rfl, rfl, rfl⟩, if_pos (by omega)]
    · rw [if_neg (fun q => h q.2.1)]
      by_cases h2 : j < m
      · rw [if_pos h2, if_pos (by omega)]
      · rw [if_neg h2, if_neg (by omega)]
def okW (x s k : Int32) : Prop := inC 4 x ∧ inR 0 2 s ∧ inR 0 12 k
theorem ct_C_winds {d z : Nat} {x s f k : Int32} {S : xS} {Q : xQ} (hz : z ≤ 40) (hb : ¬ okW x s k → Q (some (.inl (-2))) S) (hs : okW x s k → ¬ S.1 21 x.toNatClampNeg 1 = -1 → ¬ S.1 21 x.toNatClampNeg 1 = s → Q (some (.inl (-13))) S) (hn : okW x s k → S.1 21 x.toNatClampNeg 1 = -1 → Q (some (.inl (-11))) S)
    (hzz : okW x s k → S.1 21 x.toNatClampNeg 2 = nI z)
    (ho : okW x s k → S.1 21 x.toNatClampNeg 1 = s → ∀ m, m < k.toNatClampNeg → (∀ j, j < m → inC z (f + nI j)) → ¬ inC z (f + nI m) → Q (some (.inl (-12))) (wdC S x.toNatClampNeg f m))
    (hk : okW x s k → S.1 21 x.toNatClampNeg 1 = s → (∀ j, j < k.toNatClampNeg → inC z (f + nI j)) → Q (some (.inl k)) (wdC S x.toNatClampNeg f k.toNatClampNeg)) : CT (d + 3) 0 0 m_C_winds [C0, .inl x, .inl s, .inl f, .inl k] S Q := by
  refine ct_of (xmok_all (by decide)) rfl (V_go (pc := 0) pk_76 [58] 40 ?_)
  refine cC_sheet (fun h1 => ?_) (fun q => ?_)
  · (repeat' first | (refine And.intro (fun q => absurd q (by decide)) (fun _ => ?_)) | (refine And.intro (fun _ => ?_) (fun q => absurd q (by decide))) | fail)
    refine cC_w 0 2 rfl rfl (by decide) (by decide) (fun h2 => ?_) (fun q => ?_)
    · (repeat' first | (refine And.intro (fun q => absurd q (by decide)) (fun _ => ?_)) | (refine And.intro (fun _ => ?_) (fun q => absurd q (by decide))) | fail)
      refine cC_w 0 12 rfl rfl (by decide) (by decide) (fun h3 => ?_) (fun q => ?_)
      · (repeat' first | (refine And.intro (fun q => absurd q (by decide)) (fun _ => ?_)) | (refine And.intro (fun _ => ?_) (fun q => absurd q (by decide))) | fail)
        have ok : okW x s k := ⟨h1, h2, h3⟩
        have hs := hs ok
        have hn := hn ok
        have hzz9 := hzz ok
        have hv := h1.vp (N := 4) (by decide)
        have s0 : ¬ s = -1 := by
          obtain ⟨a, -, a2, rfl⟩ := h2
          intro q
          have := congrArg Int32.toInt q
          rw [nI_toInt (by omega), show (-1 : Int32).toInt = -1 from rfl] at this
          omega
        refine And.intro hv ?_
        have fin : (S.1 21 x.toNatClampNeg 1 = -1 ∨ S.1 21 x.toNatClampNeg 1 = s) → V (d + 3) 0 0 m_C_winds 58 [some C0, some (.inl x), some (.inl s), some (.inl f), some (.inl k), some (.inr (.inr (21, x.toNatClampNeg))), none, none] [] S Q := by
          intro hq
          refine V_go pk_76 [72] 40 ?_
          refine ct_Sheet_missing (fun q => ?_) (fun q => ?_)
          · (repeat' first | (refine And.intro (fun q => absurd q (by decide)) (fun _ => ?_)) | (refine And.intro (fun _ => ?_) (fun q => absurd q (by decide))) | fail)
            exact hn q
          · (repeat' first | (refine And.intro (fun q => absurd q (by decide)) (fun _ => ?_)) | (refine And.intro (fun _ => ?_) (fun q => absurd q (by decide))) | fail)
            have hq := hq.resolve_left q
            have ho := ho ok hq
            have hk := hk ok hq
            obtain ⟨K, -, k2, rfl⟩ := h3
            rw [nI_clamp (show K < 2 ^ 31 by omega)] at ho hk
            have loop : ∀ m j, j + m = K → (∀ i, i < j → inC z (f + nI i)) → ∀ o, V (d + 3) 0 0 m_C_winds 72 [some C0, some (.inl x), some (.inl s), some (.inl f), some (.inl (nI K)), some (.inr (.inr (21, x.toNatClampNeg))), some (.inl (nI j)), o] [] (wdC S x.toNatClampNeg f j) Q := by
              intro m
              induction m with
              | zero =>
                intro j hj hi o
                obtain rfl : j = K := by omega
                refine V_go pk_76 [72] 40 ?_
                exact And.intro (fun _ => hk hi) (fun q => absurd (Int32.le_refl _) q)
              | succ m ih =>
                intro j hj hi o
                have r2 : (wdC S x.toNatClampNeg f j).1 21 x.toNatClampNeg 2 = nI z := ((wdC_fr S x.toNatClampNeg f j).1 21 _ 2 rfl).trans hzz9
                refine V_go pk_76 [72] 40 ?_
                refine And.intro (fun q => absurd ((nI_leI (by omega) (by omega)).mp q) (by omega)) (fun _ => ?_)
                refine ct_Sheet_holds (fun g1 g2 => ?_) (fun g => ?_)
                · (repeat' first | (refine And.intro (fun q => absurd q (by decide)) (fun _ => ?_)) | (refine And.intro (fun _ => ?_) (fun q => absurd q (by decide))) | fail)
                  rw [r2] at g2
                  have hc := (inC_iff' (by omega)).mp ⟨g1, g2⟩
                  refine And.intro (hc.vp (N := 40) hz) ?_
                  refine ct_C_clamp ?_
                  refine And.intro (vi (N := 12) (by omega)) ?_
                  show V (d + 3) 0 0 m_C_winds 72 [some C0, some (.inl x), some (.inl s), some (.inl f), some (.inl (nI K)), some (.inr (.inr (21, x.toNatClampNeg))), some (.inl (nI j + 1)), some (.inl (f + nI j))] [] (xupd (wdC S x.toNatClampNeg f j) 3 0 (nI j).toNatClampNeg (clC ((wdC S x.toNatClampNeg f j).1 22 x.toNatClampNeg (f + nI j).toNatClampNeg))) Q
                  rw [nI_1, nI_clamp (show j < 2 ^ 31 by omega), (wdC_fr S x.toNatClampNeg f j).1 22 _ _ rfl]
                  refine ih (j + 1) (by omega) (fun i hi' => ?_) _
                  rcases Nat.lt_or_ge i j with q | q
                  · exact hi i q
                  · obtain rfl : i = j := by omega
                    exact hc
                · (repeat' first | (refine And.intro (fun q => absurd q (by decide)) (fun _ => ?_)) | (refine And.intro (fun _ => ?_) (fun q => absurd q (by decide))) | fail)
                  rw [r2] at g
                  exact ho j (by omega) hi (fun q => g ((inC_iff' (by omega)).mpr q))
            exact loop K 0 (by omega) (fun i hi => absurd hi (by omega)) none
        refine ct_Sheet_missing (fun q => ?_) (fun q => ?_)
        · (repeat' first | (refine And.intro (fun q => absurd q (by decide)) (fun _ => ?_)) | (refine And.intro (fun _ => ?_) (fun q => absurd q (by decide))) | fail)
          exact fin (Or.inl q)
        · (repeat' first | (refine And.intro (fun q => absurd q (by decide)) (fun _ => ?_)) | (refine And.intro (fun _ => ?_) (fun q => absurd q (by decide))) | fail)
          refine And.intro (fun c => fin (Or.inr c)) (fun c => hs q c)
      · (repeat' first | (refine And.intro (fun q => absurd q (by decide)) (fun _ => ?_)) | (refine And.intro (fun _ => ?_) (fun q => absurd q (by decide))) | fail)
        exact hb (fun g => q g.2.2)
    · (repeat' first | (refine And.intro (fun q => absurd q (by decide)) (fun _ => ?_)) | (refine And.intro (fun _ => ?_) (fun q => absurd q (by decide))) | fail)
      exact hb (fun g => q g.2.1)
  · (repeat' first | (refine And.intro (fun q => absurd q (by decide)) (fun _ => ?_)) | (refine And.intro (fun _ => ?_) (fun q => absurd q (by decide))) | fail)
    exact hb (fun g => q g.1)
