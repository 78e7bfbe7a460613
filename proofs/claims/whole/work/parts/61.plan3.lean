/-! the class's planner: the most by so many legs -/
def wI (w : Int) : Int32 := Int32.ofInt w
theorem wI_n (n : Nat) : wI (n : Nat) = nI n := by
  unfold wI
  apply Int32.toInt_inj.mp
  rw [Int32.toInt_ofInt]
  exact (Int32.toInt_ofNat (n := n)).symm
theorem wI_toInt {w : Int} (h0 : -1 ≤ w) (h1 : w < 2147483648) : (wI w).toInt = w := by
  unfold wI
  rw [Int32.toInt_ofInt, Int.bmod_eq_of_le (by have : Int32.size = 4294967296 := rfl; omega) (by have : Int32.size = 4294967296 := rfl; omega)]
theorem wI_max {v w : Int} (hv : -1 ≤ v) (hv1 : v < 2147483648) (hw : -1 ≤ w) (hw1 : w < 2147483648) : (if wI v < wI w then wI w else wI v) = wI (max v w) := by
  by_cases c : v < w
  · rw [if_pos (Int32.lt_iff_toInt_lt.mpr (by rw [wI_toInt hv hv1, wI_toInt hw hw1]; exact c)), Int.max_eq_right (by omega)]
  · rw [if_neg (fun q => c (by have q := Int32.lt_iff_toInt_lt.mp q; rw [wI_toInt hv hv1, wI_toInt hw hw1] at q; exact q)), Int.max_eq_left (by omega)]
def PlD.ok (D : PlD) : Prop := D.np ≤ 6 ∧ D.hd ≤ 99 ∧ D.la ≤ 9999 ∧ ∀ q, q < 6 → D.kn q = true → ∀ g, g < 4 → D.pr q g ≤ 99
theorem PCd.ok {D : PlD} {S : xS} (h : PCd D S) : D.ok := ⟨h.1.1, h.1.2.1, h.1.2.2, fun q hq k g hg => (h.2.2.2.2.2.1 q hq k g hg).2⟩
theorem PlD.one_le {D : PlD} (h : D.ok) {a b c : Nat} (hb : b < 6) (kb : D.kn b = true) : D.one a b c ≤ c + 9801 := by
  obtain ⟨g, hg, e⟩ := PlD.oneP_at (D := D) (a := a) (b := b) (c := c) 4 (Nat.le_refl _)
  show D.oneP a b c 4 ≤ _
  rw [e]
  exact PlD.aft_le h.2.1 (fun hg => h.2.2.2 b hb kb g hg)
theorem PlD.most_bd {D : PlD} (h : D.ok) : ∀ (k : Nat) {a t c : Nat}, -1 ≤ D.mostP k a t c ∧ D.mostP k a t c ≤ c + 9801 * k
  | 0, a, t, c => ⟨by show (-1 : Int) ≤ (c : Int); omega, by show (c : Int) ≤ _; omega⟩
  | k + 1, a, t, c => by
    rcases PlD.mostL_at (D := D) (f := fun b t1 => D.mostP k b t1 (D.one a b c)) (a := a) (t := t) D.np with e | ⟨b, t1, hb, e, e2⟩
    · have e : D.mostP (k + 1) a t c = -1 := e
      rw [e]; omega
    · have e2 : D.mostP (k + 1) a t c = D.mostP k b t1 (D.one a b c) := e2
      have h1 := PlD.most_bd h k (a := b) (t := t1) (c := D.one a b c)
      have h2 := PlD.one_le h (a := a) (c := c) (show b < 6 by have := h.1; omega) (PlD.arr_kn e).1
      rw [e2]; omega
theorem PlD.mostL_bd {D : PlD} {f : Nat → Nat → Int} {a t : Nat} {B : Int} (hB : -1 ≤ B) (h : ∀ b t1, D.arr a b t = some t1 → -1 ≤ f b t1 ∧ f b t1 ≤ B) (m : Nat) : -1 ≤ D.mostL f a t m ∧ D.mostL f a t m ≤ B := by
  rcases PlD.mostL_at (D := D) (f := f) (a := a) (t := t) m with e | ⟨b, t1, hb, e, e2⟩
  · rw [e]; omega
  · rw [e2]; exact h b t1 e
theorem ct_most {D : PlD} {S : xS} (hP : PCd D S) : ∀ k, k ≤ 3 → ∀ {d a t c : Nat} {Q : xQ}, a < 6 → D.kn a = true → t ≤ 9999 → c + 9801 * k < 2 ^ 30 → Q (some (.inl (wI (D.mostP k a t c)))) S → CT (d + k + 3) 0 0 m_Planner_most [P0, .inl (nI a), .inl (nI t), .inl (nI c), .inl (nI k)] S Q := by
  have ok := hP.ok
  intro k
  induction k with
  | zero =>
    intro _ d a t c Q ha ka ht hc h
    refine ct_of (xmok_all (by decide)) rfl (V_go (pc := 0) pk_13 [] 20 ?_)
    refine And.intro (fun q => ?_) (fun _ => ?_)
    · exact absurd (show nI 0 < nI 0 from q) Int32.lt_irrefl
    · refine qi h ?_ rfl
      exact (wI_n c).symm
  | succ k ih =>
    intro hk d a t c Q ha ka ht hc h
    have ih := @ih (by omega)
    have loop : ∀ m j, j + m = D.np → ∀ o : Option Int32, V (d + (k + 1) + 3) 0 0 m_Planner_most 13 [some P0, some (.inl (nI a)), some (.inl (nI t)), some (.inl (nI c)), some (.inl (nI (k + 1))), some (.inl (wI (D.mostL (fun b t1 => D.mostP k b t1 (D.one a b c)) a t j))), some (.inl (nI j)), o.map .inl] [] S Q := by
      intro m
      induction m with
      | zero =>
        intro j hj o
        obtain rfl : j = D.np := by omega
        rcases o with _ | o
        all_goals (
          refine V_go pk_13 [13] 40 ?_
          refine And.intro (fun _ => h) (fun q => absurd ?_ q)
          show S.1 1 0 2 ≤ nI D.np
          rw [hP.2.1]; exact Int32.le_refl _)
      | succ m ih2 =>
        intro j hj o
        have bL := PlD.mostL_bd (D := D) (f := fun b t1 => D.mostP k b t1 (D.one a b c)) (a := a) (t := t) (B := c + 9801 * (k + 1)) (by omega) (fun b t1 e => by
          have h1 := PlD.most_bd ok k (a := b) (t := t1) (c := D.one a b c)
          have h2 := PlD.one_le ok (a := a) (c := c) (show b < 6 by have := ok.1; have := PlD.arr_lt e; omega) (PlD.arr_kn e).1
          exact ⟨h1.1, by omega⟩) j
        have eL : D.mostL (fun b t1 => D.mostP k b t1 (D.one a b c)) a t (j + 1) = match D.arr a j t with
          | none => D.mostL (fun b t1 => D.mostP k b t1 (D.one a b c)) a t j
          | some t1 => max (D.mostL (fun b t1 => D.mostP k b t1 (D.one a b c)) a t j) (D.mostP k j t1 (D.one a j c)) := rfl
        have ih2 := ih2 (j + 1) (by omega)
        rw [eL, show nI (j + 1) = nI j + 1 from (nI_1 j).symm] at ih2
        generalize D.mostL (fun b t1 => D.mostP k b t1 (D.one a b c)) a t j = L at ih2 bL ⊢
        rcases o with _ | o
        all_goals (
          refine V_go pk_13 [13] 40 ?_
          refine And.intro (fun q => ?_) (fun _ => ?_)
          · have q : S.1 1 0 2 ≤ nI j := q
            rw [hP.2.1] at q
            exact absurd ((nI_leI (by have := ok.1; omega) (by have := ok.1; omega)).mp q) (by omega)
          · refine ct_arrival (d := d + k + 1) hP ha (by omega) ht ?_
            cases e : D.arr a j t with
            | none =>
              rw [e] at ih2
              (repeat' first | (refine And.intro (fun q => absurd q (by decide)) (fun _ => ?_)) | (refine And.intro (fun _ => ?_) (fun q => absurd q (by decide))) | fail)
              exact ih2 (some (-1))
            | some t1 =>
              rw [e] at ih2
              have kb := PlD.arr_kn e
              have j6 : j < 6 := by have := ok.1; omega
              have b1 := PlD.one_le ok (a := a) (c := c) j6 kb.1
              refine And.intro (fun q => absurd q (nI_m (by have := ok.2.2.1; omega))) (fun _ => ?_)
              refine ct_mostByOneLeg (d := d + k + 1) hP ha j6 ka kb.1 (by omega) ?_
              show CT (d + k + 3) 0 0 m_Planner_most [P0, .inl (nI j), .inl (nI t1), .inl (nI (D.one a j c)), .inl (nI (k + 1) - 1)] S _
              rw [nI_pred]
              refine ih (d := d) j6 kb.1 (by have := ok.2.2.1; omega) (by omega) ?_
              have bm := PlD.most_bd ok k (a := j) (t := t1) (c := D.one a j c)
              have em := wI_max bL.1 (by omega) bm.1 (by omega)
              have ih2 := ih2 (some (nI t1))
              rw [← em] at ih2
              exact ih2)
    refine ct_of (xmok_all (by decide)) rfl (V_go (pc := 0) pk_13 [13] 20 ?_)
    refine And.intro (fun _ => ?_) (fun q => absurd ?_ q)
    · exact loop D.np 0 (by omega) none
    · exact nI_lt (a := 0) (by omega) (by omega)
