/-! the class's planner: trace -/
theorem PlD.may_run {D : PlD} (hn : D.np ≤ 6) {k code a t c w t2 : Nat} (hm : D.mostP (k + 1) a t c = (w : Nat)) (hr : D.runP (k + 1) code a t c = some (w, t2)) : D.may w k a t c (code / 30 ^ k % 30) := by
  unfold PlD.runP at hr
  cases e : D.arr a (code / 30 ^ k % 30 % 6) t with
  | none => rw [e] at hr; cases hr
  | some t3 =>
    rw [e] at hr
    have hr : D.runP k code (code / 30 ^ k % 30 % 6) t3 (D.aft a (code / 30 ^ k % 30 % 6) (code / 30 ^ k % 30 / 6) c) = some (w, t2) := hr
    have a1 := PlD.most_ge k hr (Nat.le_refl _)
    have a2 : D.mostP k (code / 30 ^ k % 30 % 6) t3 (D.aft a (code / 30 ^ k % 30 % 6) (code / 30 ^ k % 30 / 6) c) ≤ (w : Nat) := by
      rcases PlD.most_mono hn (k := k) (a := code / 30 ^ k % 30 % 6) (t := t3) (PlD.aft_one (D := D) (a := a) (b := code / 30 ^ k % 30 % 6) (g := code / 30 ^ k % 30 / 6) (c := c)) with q | q
      · omega
      · have := PlD.mostL_le (D := D) (f := fun b t1 => D.mostP k b t1 (D.one a b c)) D.np _ t3 (PlD.arr_lt e) e
        exact Int.le_trans q (Int.le_trans this (Int.le_of_eq hm))
    exact ⟨t3, e, Int.le_antisymm a2 a1⟩
theorem least_ex {P : Nat → Prop} : ∀ n, P n → ∃ x, x ≤ n ∧ P x ∧ ∀ y, y < x → ¬ P y := by
  intro n
  induction n using Nat.strongRecOn with
  | _ n ih =>
    intro h
    by_cases q : ∃ y, y < n ∧ P y
    · obtain ⟨y, hy, py⟩ := q
      obtain ⟨x, h1, h2, h3⟩ := ih y hy py
      exact ⟨x, by omega, h2, h3⟩
    · exact ⟨n, Nat.le_refl _, h, fun y hy py => q ⟨y, hy, py⟩⟩
theorem PlD.may_ex {D : PlD} (hn : D.np ≤ 6) {k a t c w : Nat} (hm : D.mostP (k + 1) a t c = (w : Nat)) : ∃ x, x < 30 ∧ D.may w k a t c x ∧ ∀ y, y < x → ¬ D.may w k a t c y := by
  rcases PlD.most_at hn (k + 1) (a := a) (t := t) (c := c) with q | ⟨w2, code, t2, h1, h2, h3⟩
  · omega
  · have : w2 = w := by omega
    subst this
    obtain ⟨x, g1, g2, g3⟩ := least_ex (P := D.may w2 k a t c) _ (PlD.may_run hn hm h2)
    exact ⟨x, by have := Nat.mod_lt (code / 30 ^ k) (show 0 < 30 by decide); omega, g2, g3⟩
theorem PlD.cd_low {x r k e : Nat} (h : e < k) : (x * 30 ^ k + r) / 30 ^ e % 30 = r / 30 ^ e % 30 := by
  obtain ⟨z, rfl⟩ : ∃ z, k = e + (z + 1) := ⟨k - e - 1, by omega⟩
  have h0 : 0 < 30 ^ e := Nat.pow_pos (by decide)
  rw [Nat.pow_add, show x * (30 ^ e * 30 ^ (z + 1)) = 30 ^ e * (x * 30 ^ (z + 1)) by rw [Nat.mul_left_comm], Nat.mul_add_div h0, Nat.pow_succ, ← Nat.mul_assoc]
  omega
theorem PlD.cd_top {x r k : Nat} (hr : r < 30 ^ k) : (x * 30 ^ k + r) / 30 ^ k = x := by
  have h0 : 0 < 30 ^ k := Nat.pow_pos (by decide)
  rw [Nat.mul_comm x, Nat.mul_add_div h0, Nat.div_eq_of_lt hr]; omega
def dgC (S : xS) (L code i : Nat) : Prop := S.1 32 0 i = nI (code / 30 ^ (L - 1 - i) % 30 / 6) ∧ S.1 33 0 i = nI (code / 30 ^ (L - 1 - i) % 30 % 6)
theorem ct_trace {d a t c w L : Nat} {D : PlD} {S : xS} {Q : xQ} (hP : PCd D S) (h4 : S.1 31 0 4 = nI a) (h5 : S.1 31 0 5 = nI t) (h6 : S.1 31 0 6 = nI c) (h9 : L = 0 ∨ S.1 31 0 9 = nI w) (h10 : S.1 31 0 10 = nI L) (hL : L ≤ 3) (ha : a < 6) (ka : D.kn a = true) (ht : t ≤ 9999) (hc : c + 80000 < 2 ^ 30) (hw : w < 2 ^ 31) (hm : L = 0 ∨ D.mostP L a t c = (w : Nat)) (h : ∀ S' code t9, Fr (fl [32, 33, 32011]) S S' → D.Greedy w L a t c code t9 → code < 30 ^ L → (∀ i, i < L → dgC S' L code i) → S'.1 31 0 11 = nI t9 → Q none S') : CT (d + 8) 0 0 m_Planner_trace [P0] S Q := by
  have ok := hP.ok
  have loop : ∀ k i, i + k = L → ∀ (a t c : Nat) (T : xS), a < 6 → D.kn a = true → t ≤ 9999 → c + 9801 * k + 40000 < 2 ^ 30 → Fr (fl [32, 33, 32011]) S T → T.1 31 0 11 = nI t → (L = 0 ∨ D.mostP k a t c = (w : Nat)) → (∀ S' code t9, Fr (fl [32, 33, 32011]) T S' → D.Greedy w k a t c code t9 → code < 30 ^ k → (∀ i2, i ≤ i2 → i2 < L → dgC S' L code i2) → (∀ i2, i2 < i → S'.1 32 0 i2 = T.1 32 0 i2 ∧ S'.1 33 0 i2 = T.1 33 0 i2) → S'.1 31 0 11 = nI t9 → Q none S') → V (d + 8) 0 0 m_Planner_trace 20 [some P0, some (.inl (nI a)), some (.inl (nI c)), some (.inl (nI i))] [] T Q := by
    intro k
    induction k with
    | zero =>
      intro i hi a t c T ha ka ht hc fT h11 hm h
      obtain rfl : i = L := by omega
      have q10 : T.1 31 0 10 = nI i := (fT.1 31 0 10 rfl).trans h10
      refine V_go pk_17 [20] 40 ?_
      refine And.intro (fun _ => h T 0 t Fr.rf ⟨rfl, rfl⟩ (by decide) (fun i2 h1 h2 => by omega) (fun _ _ => ⟨rfl, rfl⟩) h11) (fun q => absurd ?_ q)
      show T.1 31 0 10 ≤ nI i
      rw [q10]; exact Int32.le_refl _
    | succ k ih =>
      intro i hi a t c T ha ka ht hc fT h11 hm h
      have hm : D.mostP (k + 1) a t c = (w : Nat) := hm.resolve_left (by omega)
      have q10 : T.1 31 0 10 = nI L := (fT.1 31 0 10 rfl).trans h10
      have q9 : T.1 31 0 9 = nI w := (fT.1 31 0 9 rfl).trans (h9.resolve_left (by omega))
      have hPT : PCd D T := hP.fr fT (by decide)
      have ei : (nI i).toNatClampNeg = i := nI_clamp (by omega)
      have vi3 : vp_in (nI i) 3 := vi (by omega)
      obtain ⟨x, hx, hmx, hmin⟩ := PlD.may_ex ok.1 hm
      have hk : L - 1 - i = k := by omega
      obtain ⟨t1, e, he⟩ := id hmx
      have kb := PlD.arr_kn e
      have hb := PlD.arr_lt e
      have b6 : x % 6 < 6 := Nat.mod_lt _ (by decide)
      have x4 : x / 6 ≤ 4 := by omega
      have b1 := PlD.aft_le (D := D) (a := a) (b := x % 6) (g := x / 6) (c := c) ok.2.1 (fun hg => ok.2.2.2 _ b6 kb.1 _ hg)
      have la := ok.2.2.1
      refine V_go pk_17 [20] 80 ?_
      refine And.intro (fun q => ?_) (fun _ => ?_)
      · have q : T.1 31 0 10 ≤ nI i := q
        rw [q10] at q
        exact absurd ((nI_leI (by omega) (by omega)).mp q) (by omega)
      refine And.intro (fun q => absurd ((nI_leI (a := 3) (by omega) (by omega)).mp q) (by omega)) (fun _ => ?_)
      refine ct_choose (d := d) (w := w) (L := L) (x := x) hPT h11 q9 q10 (by omega) hL ha ka ht (by omega) hw hx (by rw [hk]; exact hmx) (by rw [hk]; exact hmin) ?_
      have r32 : (xupd (xupd T 32 0 i (nI (x / 6))) 33 0 i (nI (x % 6))).1 32 0 i = nI (x / 6) := if_pos ⟨rfl, rfl, rfl⟩
      have r33 : (xupd (xupd T 32 0 i (nI (x / 6))) 33 0 i (nI (x % 6))).1 33 0 i = nI (x % 6) := if_pos ⟨rfl, rfl, rfl⟩
      have f1 : Fr (fl [32, 33, 32011]) T (xupd (xupd T 32 0 i (nI (x / 6))) 33 0 i (nI (x % 6))) := (Fr.rf.up rfl).up rfl
      have n32 : ∀ i2, ¬ i2 = i → (xupd (xupd T 32 0 i (nI (x / 6))) 33 0 i (nI (x % 6))).1 32 0 i2 = T.1 32 0 i2 ∧ (xupd (xupd T 32 0 i (nI (x / 6))) 33 0 i (nI (x % 6))).1 33 0 i2 = T.1 33 0 i2 := fun i2 h2 => ⟨if_neg (fun q => h2 q.2.1), if_neg (fun q => h2 q.2.1)⟩
      have h11b : (xupd (xupd T 32 0 i (nI (x / 6))) 33 0 i (nI (x % 6))).1 31 0 11 = nI t := h11
      generalize xupd (xupd T 32 0 i (nI (x / 6))) 33 0 i (nI (x % 6)) = T1 at r32 r33 f1 n32 h11b ⊢
      have hP1 : PCd D T1 := hPT.fr f1 (by decide)
      refine And.intro vi3 ?_
      refine And.intro vi3 ?_
      rw [ei, r32, r33]
      refine ct_coinsAfter (d := d + 6) hP1 ha b6 ka kb.1 (by omega) x4 ?_
      refine And.intro vi3 ?_
      rw [ei, r33]
      show CT (d + 7) 0 0 m_Planner_arrival [P0, .inl (nI a), .inl (nI (x % 6)), .inl (T1.1 31 0 11)] T1 _
      rw [h11b]
      refine ct_arrival (d := d + 5) hP1 ha hb ht ?_
      rw [e]
      refine And.intro vi3 ?_
      show V (d + 8) 0 0 m_Planner_trace 20 [some P0, some (.inl (T1.1 33 0 (nI i).toNatClampNeg)), some (.inl (nI (D.aft a (x % 6) (x / 6) c))), some (.inl (nI i + 1))] [] (xupd T1 31 0 11 (nI t1)) Q
      rw [ei, r33, nI_1]
      refine ih (i + 1) (by omega) (x % 6) t1 _ (xupd T1 31 0 11 (nI t1)) b6 kb.1 (by omega) (by omega) ((fT.tr f1).up rfl) rfl (Or.inr he) (fun S' code t9 f2 hg hcd hd1 hd2 h11c => ?_)
      have f3 : Fr (fl [32, 33, 32011]) T S' := f1.tr ((Fr.up (S := T1) Fr.rf rfl).tr f2)
      have top : (x * 30 ^ k + code) / 30 ^ k = x := PlD.cd_top hcd
      have low := (PlD.cd_div (x := x) hcd hx).2
      refine h S' (x * 30 ^ k + code) t9 f3 ?_ (PlD.cd_lt hcd hx) (fun i2 h1 h2 => ?_) (fun i2 h2 => ?_) h11c
      · show (x * 30 ^ k + code) / 30 ^ k < 30 ∧ _
        rw [top, low]
        exact ⟨hx, hmin, t1, e, he, hg⟩
      · by_cases q : i2 = i
        · subst q
          have g := hd2 i2 (by omega)
          unfold dgC
          rw [hk, top, Nat.mod_eq_of_lt hx]
          exact ⟨g.1.trans r32, g.2.trans r33⟩
        · have g := hd1 i2 (by omega) h2
          unfold dgC at g ⊢
          rw [PlD.cd_low (by omega)]
          exact g
      · have g := hd2 i2 (by omega)
        have n := n32 i2 (by omega)
        exact ⟨g.1.trans n.1, g.2.trans n.2⟩
  refine ct_of (xmok_all (by decide)) rfl (V_go (pc := 0) pk_17 [20] 20 ?_)
  show V (d + 8) 0 0 m_Planner_trace 20 [some P0, some (.inl (S.1 31 0 4)), some (.inl (S.1 31 0 6)), some (.inl (nI 0))] [] (xupd S 31 0 11 (S.1 31 0 5)) Q
  rw [h4, h5, h6]
  exact loop L 0 (by omega) a t c _ ha ka ht (by omega) (Fr.rf.up rfl) rfl hm (fun S' code t9 f1 h1 h2 h3 _ h5 => h S' code t9 ((Fr.up (S := S) Fr.rf rfl).tr f1) h1 h2 (fun i hi => h3 i (Nat.zero_le _) hi) h5)
