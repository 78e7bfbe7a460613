/-! sheet, cell -/
def sFill (S : xS) (k i a m : Nat) (v : Int32) : xS := (fun k' i' j' => if k' = k ∧ (a ≤ j' ∧ j' < a + m) ∧ i' = i then v else S.1 k' i' j', S.2)
theorem sFill_0 (S : xS) (k i a : Nat) (v : Int32) : sFill S k i a 0 v = S := by
  unfold sFill
  refine Prod.ext ?_ rfl
  funext k' i' j'
  exact if_neg (fun q => by omega)
theorem sFill_s (S : xS) (k i a m : Nat) (v : Int32) : xupd (sFill S k i a m v) k i (a + m) v = sFill S k i a (m + 1) v := by
  unfold sFill xupd
  refine Prod.ext ?_ rfl
  funext k' i' j'
  dsimp only
  by_cases h1 : k' = k ∧ j' = a + m ∧ i' = i
  · rw [if_pos h1, if_pos ⟨h1.1, by omega, h1.2.2⟩]
  · rw [if_neg h1]
    by_cases h2 : k' = k ∧ (a ≤ j' ∧ j' < a + m) ∧ i' = i
    · rw [if_pos h2, if_pos ⟨h2.1, by omega, h2.2.2⟩]
    · rw [if_neg h2, if_neg (fun q => ?_)]
      rcases Nat.lt_or_ge j' (a + m) with g | g
      · exact h2 ⟨q.1, by omega, q.2.2⟩
      · exact h1 ⟨q.1, by omega, q.2.2⟩
theorem sFill_at {S : xS} {k i a m : Nat} {v : Int32} {k' i' j' : Nat} : (sFill S k i a m v).1 k' i' j' = if k' = k ∧ (a ≤ j' ∧ j' < a + m) ∧ i' = i then v else S.1 k' i' j' := rfl
theorem ct_fill_22 {d i : Nat} {v : Int32} {S : xS} {Q : xQ} (h : Q none (sFill S 22 i 0 40 v)) : CT d 0 0 m_Arrays_fill [.inr (.inr (22, i)), .inl v] S Q := by
  have loop : ∀ m j, j + m = 40 → V d 0 0 m_Arrays_fill 5 [some (.inr (.inr (22, i))), some (.inl v), some (.inl (nI j)), some (.inl 40)] [] (sFill S 22 i 0 j v) Q := by
    intro m
    induction m with
    | zero =>
      intro j hj
      obtain rfl : j = 40 := by omega
      refine V_go pk_186 [5] 40 ?_
      exact And.intro (fun _ => h) (fun q => absurd (Int32.le_refl _) q)
    | succ m ih =>
      intro j hj
      refine V_go pk_186 [5] 40 ?_
      refine And.intro (fun q => absurd ((nI_leI (a := 40) (by decide) (by omega)).mp q) (by omega)) (fun _ => ?_)
      refine And.intro (vi (N := 40) (by omega)) ?_
      show V d 0 0 m_Arrays_fill 5 [some (.inr (.inr (22, i))), some (.inl v), some (.inl (nI j + 1)), some (.inl 40)] [] (xupd (sFill S 22 i 0 j v) 22 i (nI j).toNatClampNeg v) Q
      have e := sFill_s S 22 i 0 j v
      rw [Nat.zero_add] at e
      rw [nI_1, nI_clamp (show j < 2 ^ 31 by omega), e]
      exact ih (j + 1) (by omega)
  refine ct_of (xmok_all (by decide)) rfl (V_go (pc := 0) pk_186 [5] 10 ?_)
  have := loop 40 0 (by omega)
  rw [sFill_0] at this
  exact this
def okSheet (x s n : Int32) : Prop := inC 4 x ∧ (-1 ≤ s ∧ s ≤ 2) ∧ ¬ (¬ s = -1 ∧ 40 < n)
def szS (s n : Int32) : Int32 := if s = -1 then 0 else n
theorem ct_C_sheet_ {d : Nat} {x s n : Int32} {S : xS} {Q : xQ} (hb : ¬ okSheet x s n → Q (some (.inl (-2))) S) (hz : okSheet x s n → (¬ s = -1 ∧ n < 0) → Q (some (.inl (-14))) S)
    (hk : okSheet x s n → ¬ (¬ s = -1 ∧ n < 0) → Q (some (.inl 1)) (sFill (xupd (xupd S 21 x.toNatClampNeg 1 s) 21 x.toNatClampNeg 2 (szS s n)) 22 x.toNatClampNeg 0 40 0)) : CT (d + 3) 0 0 m_C_sheet [C0, .inl x, .inl s, .inl n] S Q := by
  have bec : ∀ {Q' : xQ} {w : Int32}, Q' none (sFill (xupd (xupd S 21 x.toNatClampNeg 1 s) 21 x.toNatClampNeg 2 w) 22 x.toNatClampNeg 0 40 0) → CT (d + 2) 0 0 m_Sheet_become [.inr (.inr (21, x.toNatClampNeg)), .inl s, .inl w] S Q' := by
    intro Q' w hq
    refine ct_of (xmok_all (by decide)) rfl (V_go (pc := 0) pk_48 [] 40 ?_)
    exact ct_fill_22 hq
  refine ct_of (xmok_all (by decide)) rfl (V_go (pc := 0) pk_115 [] 60 ?_)
  refine cC_sheet (fun h1 => ?_) (fun q => ?_)
  · (repeat' first | (refine And.intro (fun q => absurd q (by decide)) (fun _ => ?_)) | (refine And.intro (fun _ => ?_) (fun q => absurd q (by decide))) | fail)
    have hv := h1.vp (N := 4) (by decide)
    refine ct_within (fun g1 g2 => ?_) (fun q => ?_)
    · (repeat' first | (refine And.intro (fun q => absurd q (by decide)) (fun _ => ?_)) | (refine And.intro (fun _ => ?_) (fun q => absurd q (by decide))) | fail)
      refine And.intro (fun c => ?_) (fun c => ?_)
      · have ok : okSheet x s n := ⟨h1, ⟨g1, g2⟩, fun q => q.1 c⟩
        refine And.intro (fun _ => ?_) (fun g => absurd c g)
        refine And.intro hv ?_
        refine And.intro (fun g => absurd c g) (fun _ => ?_)
        refine bec ?_
        have := hk ok (fun q => q.1 c)
        unfold szS at this
        rw [if_pos c] at this
        exact this
      · refine And.intro (fun c2 => ?_) (fun c2 => ?_)
        · have ok : okSheet x s n := ⟨h1, ⟨g1, g2⟩, fun q => absurd q.2 (Int32.not_lt.mpr c2)⟩
          refine And.intro (fun g => absurd g c) (fun _ => ?_)
          refine And.intro (fun c3 => ?_) (fun c3 => ?_)
          · refine And.intro hv ?_
            refine And.intro (fun _ => ?_) (fun g => absurd g c)
            refine bec ?_
            have := hk ok (fun q => absurd q.2 (Int32.not_lt.mpr c3))
            unfold szS at this
            rw [if_neg c] at this
            exact this
          · exact hz ok ⟨c, Int32.not_le.mp c3⟩
        · exact hb (fun q => q.2.2 ⟨c, Int32.not_le.mp c2⟩)
    · (repeat' first | (refine And.intro (fun q => absurd q (by decide)) (fun _ => ?_)) | (refine And.intro (fun _ => ?_) (fun q => absurd q (by decide))) | fail)
      exact hb (fun g => q g.2.1)
  · (repeat' first | (refine And.intro (fun q => absurd q (by decide)) (fun _ => ?_)) | (refine And.intro (fun _ => ?_) (fun q => absurd q (by decide))) | fail)
    exact hb (fun g => q g.1)
