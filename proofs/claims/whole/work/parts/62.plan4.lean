/-! the class's planner: find, choose -/
def PlD.findP (D : PlD) (a t c : Nat) : Nat → Int × Nat
  | 0 => (-1, 0)
  | m + 1 => if (PlD.findP D a t c m).1 < D.mostP (m + 1) a t c then (D.mostP (m + 1) a t c, m + 1) else PlD.findP D a t c m
theorem PlD.findP_bd {D : PlD} (h : D.ok) {a t c : Nat} : ∀ m, m ≤ 3 → -1 ≤ (D.findP a t c m).1 ∧ (D.findP a t c m).1 ≤ c + 29403 ∧ (D.findP a t c m).2 ≤ m
  | 0, _ => ⟨Int.le_refl _, by show (-1 : Int) ≤ _; omega, Nat.le_refl _⟩
  | m + 1, hm => by
    have ih := PlD.findP_bd h (a := a) (t := t) (c := c) m (by omega)
    have b := PlD.most_bd h (m + 1) (a := a) (t := t) (c := c)
    show -1 ≤ (if (D.findP a t c m).1 < D.mostP (m + 1) a t c then (D.mostP (m + 1) a t c, m + 1) else D.findP a t c m).1 ∧ (if (D.findP a t c m).1 < D.mostP (m + 1) a t c then (D.mostP (m + 1) a t c, m + 1) else D.findP a t c m).1 ≤ c + 29403 ∧ (if (D.findP a t c m).1 < D.mostP (m + 1) a t c then (D.mostP (m + 1) a t c, m + 1) else D.findP a t c m).2 ≤ m + 1
    by_cases q : (D.findP a t c m).1 < D.mostP (m + 1) a t c
    · rw [if_pos q]
      show -1 ≤ D.mostP (m + 1) a t c ∧ D.mostP (m + 1) a t c ≤ c + 29403 ∧ m + 1 ≤ m + 1
      omega
    · rw [if_neg q]; omega
theorem ct_mostN {D : PlD} {S : xS} (hP : PCd D S) {k d a t c : Nat} {Q : xQ} (hk : k ≤ 3) (ha : a < 6) (ka : D.kn a = true) (ht : t ≤ 9999) (hc : c + 29403 < 2 ^ 30) (h : Q (some (.inl (wI (D.mostP k a t c)))) S) : CT (d + 6) 0 0 m_Planner_most [P0, .inl (nI a), .inl (nI t), .inl (nI c), .inl (nI k)] S Q := by
  have := ct_most hP k hk (d := d + 3 - k) ha ka ht (by omega) h
  rwa [show d + 3 - k + k + 3 = d + 6 by omega] at this
def fdS (S : xS) (w : Int) (l : Nat) : xS := xupd (xupd S 31 0 9 (wI w)) 31 0 10 (nI l)
theorem fdS_2 {S : xS} {w w2 : Int} {l l2 : Nat} : xupd (xupd (fdS S w l) 31 0 9 (wI w2)) 31 0 10 (nI l2) = fdS S w2 l2 := by
  unfold fdS
  rw [xupd_sw (S := xupd S 31 0 9 (wI w)) (k := 31) (j := 10) (k2 := 31) (j2 := 9) (by omega), xupd_2, xupd_2]
theorem wI_lt {v w : Int} (hv : -1 ≤ v) (hv1 : v < 2147483648) (hw : -1 ≤ w) (hw1 : w < 2147483648) : wI v < wI w ↔ v < w := by
  rw [Int32.lt_iff_toInt_lt, wI_toInt hv hv1, wI_toInt hw hw1]
theorem ct_find {d a t c n : Nat} {D : PlD} {S : xS} {Q : xQ} (hP : PCd D S) (h4 : S.1 31 0 4 = nI a) (h5 : S.1 31 0 5 = nI t) (h6 : S.1 31 0 6 = nI c) (hn : n ≤ 3) (ha : a < 6) (ka : D.kn a = true) (ht : t ≤ 9999) (hc : c + 29403 < 2 ^ 30) (h : Q none (fdS S (D.findP a t c n).1 (D.findP a t c n).2)) : CT (d + 7) 0 0 m_Planner_find [P0, .inl (nI n)] S Q := by
  have ok := hP.ok
  have loop : ∀ m j, j + m = n → ∀ o : Option Int32, V (d + 7) 0 0 m_Planner_find 12 [some P0, some (.inl (nI n)), some (.inl (nI (j + 1))), o.map .inl] [] (fdS S (D.findP a t c j).1 (D.findP a t c j).2) Q := by
    intro m
    induction m with
    | zero =>
      intro j hj o
      obtain rfl : j = n := by omega
      rcases o with _ | o
      all_goals (
        refine V_go pk_12 [12] 40 ?_
        refine And.intro (fun _ => h) (fun q => absurd ?_ q)
        exact nI_lt (by omega) (by omega))
    | succ m ih =>
      intro j hj o
      have ih := ih (j + 1) (by omega)
      have e : D.findP a t c (j + 1) = if (D.findP a t c j).1 < D.mostP (j + 1) a t c then (D.mostP (j + 1) a t c, j + 1) else D.findP a t c j := rfl
      have bf := PlD.findP_bd ok (a := a) (t := t) (c := c) j (by omega)
      have bm := PlD.most_bd ok (j + 1) (a := a) (t := t) (c := c)
      rw [e] at ih
      generalize D.findP a t c j = F at ih bf ⊢
      have fP : PCd D (fdS S F.1 F.2) := hP.fr (l := [32009, 32010]) ((Fr.rf.up rfl).up rfl) (by decide)
      rcases o with _ | o
      all_goals (
        refine V_go pk_12 [12] 40 ?_
        refine And.intro (fun q => ?_) (fun _ => ?_)
        · have q : nI n < nI (j + 1) := q
          exact absurd ((nI_ltI (by omega) (by omega)).mp q) (by omega)
        · show CT (d + 6) 0 0 m_Planner_most [P0, .inl (S.1 31 0 4), .inl (S.1 31 0 5), .inl (S.1 31 0 6), .inl (nI (j + 1))] (fdS S F.1 F.2) _
          rw [h4, h5, h6]
          refine ct_mostN fP (by omega) ha ka ht hc ?_
          refine And.intro (fun q => ?_) (fun q => ?_)
          · have q : ¬ F.1 < D.mostP (j + 1) a t c := fun g => absurd (show wI (D.mostP (j + 1) a t c) ≤ wI F.1 from q) (Int32.not_le.mpr ((wI_lt bf.1 (by omega) bm.1 (by omega)).mpr g))
            rw [if_neg q, show nI (j + 1 + 1) = nI (j + 1) + 1 from (nI_1 _).symm] at ih
            exact ih (some (wI (D.mostP (j + 1) a t c)))
          · have q : F.1 < D.mostP (j + 1) a t c := (wI_lt bf.1 (by omega) bm.1 (by omega)).mp (Int32.not_le.mp q)
            rw [if_pos q, show nI (j + 1 + 1) = nI (j + 1) + 1 from (nI_1 _).symm, ← fdS_2 (S := S) (w := F.1) (l := F.2)] at ih
            exact ih (some (wI (D.mostP (j + 1) a t c))))
  refine ct_of (xmok_all (by decide)) rfl (V_go (pc := 0) pk_12 [12] 20 ?_)
  exact loop n 0 (by omega) none
theorem ct_choose {d a t c w L i x : Nat} {D : PlD} {S : xS} {Q : xQ} (hP : PCd D S) (h11 : S.1 31 0 11 = nI t) (h9 : S.1 31 0 9 = nI w) (h10 : S.1 31 0 10 = nI L) (hi : i < L) (hL : L ≤ 3) (ha : a < 6) (ka : D.kn a = true) (ht : t ≤ 9999) (hc : c + 9801 + 29403 < 2 ^ 30) (hw : w < 2 ^ 31) (hx : x < 30) (hm : D.may w (L - 1 - i) a t c x) (hmin : ∀ y, y < x → ¬ D.may w (L - 1 - i) a t c y) (h : Q none (xupd (xupd S 32 0 i (nI (x / 6))) 33 0 i (nI (x % 6)))) : CT (d + 7) 0 0 m_Planner_choose [P0, .inl (nI i), .inl (nI a), .inl (nI c)] S Q := by
  have ok := hP.ok
  have ei : (nI i).toNatClampNeg = i := nI_clamp (by omega)
  have n6 := ok.1
  have hxb : x % 6 < D.np := by obtain ⟨t1, e, _⟩ := hm; exact PlD.arr_lt e
  have loop : ∀ m g b, 40 ≤ 7 * g + b + m → b ≤ D.np → g ≤ 4 → 6 * g + b ≤ x → ∀ o : Option Int32, V (d + 7) 0 0 m_Planner_choose 12 [some P0, some (.inl (nI i)), some (.inl (nI a)), some (.inl (nI c)), some (.inl (nI g)), some (.inl (nI b)), o.map .inl] [] S Q := by
    intro m
    induction m with
    | zero => intro g b h1 h2 h3; omega
    | succ m ih =>
      intro g b h1 h2 h3 h4 o
      have e7 : S.1 1 0 2 = nI D.np := hP.2.1
      have go : b < D.np → ¬ D.may w (L - 1 - i) a t c (6 * g + b) → ∀ o : Option Int32, V (d + 7) 0 0 m_Planner_choose 12 [some P0, some (.inl (nI i)), some (.inl (nI a)), some (.inl (nI c)), some (.inl (nI g)), some (.inl (nI b + 1)), o.map .inl] [] S Q := by
        intro hb hn
        rw [nI_1]
        refine ih g (b + 1) (by omega) (by omega) h3 ?_
        rcases Nat.lt_or_eq_of_le h4 with q | q
        · omega
        · rw [q] at hn; exact absurd hm hn
      have emay : ∀ t1, b < D.np → D.arr a b t = some t1 → (D.may w (L - 1 - i) a t c (6 * g + b) ↔ D.mostP (L - 1 - i) b t1 (D.aft a b g c) = (w : Nat)) := by
        intro t1 hb e
        unfold PlD.may
        rw [show (6 * g + b) % 6 = b by omega, show (6 * g + b) / 6 = g by omega, e]
        refine ⟨fun q => ?_, fun q => ⟨t1, rfl, q⟩⟩
        obtain ⟨t2, q1, q2⟩ := q
        cases q1
        exact q2
      rcases o with _ | o
      all_goals (
        refine V_go pk_18 [12] 60 ?_
        refine And.intro (fun q => ?_) (fun q => ?_)
        · have q : S.1 1 0 2 ≤ nI b := q
          rw [e7] at q
          have q := (nI_leI (by omega) (by omega)).mp q
          have g4 : g + 1 ≤ 4 := by omega
          refine And.intro (fun z => ?_) (fun _ => ?_)
          · have z : nI 4 < nI g + 1 := z
            rw [nI_1] at z
            exact absurd ((nI_ltI (by omega) (by omega)).mp z) (by omega)
          · rw [nI_1]
            first
              | exact ih (g + 1) 0 (by omega) (by omega) g4 (by omega) none
              | exact ih (g + 1) 0 (by omega) (by omega) g4 (by omega) (some o)
        · have q : ¬ S.1 1 0 2 ≤ nI b := q
          rw [e7] at q
          have hb : b < D.np := Nat.not_le.mp (fun g => q ((nI_leI (by omega) (by omega)).mpr g))
          show CT (d + 6) 0 0 m_Planner_arrival [P0, .inl (nI a), .inl (nI b), .inl (S.1 31 0 11)] S _
          rw [h11]
          refine ct_arrival (d := d + 4) hP ha hb ht ?_
          cases e : D.arr a b t with
          | none =>
            (repeat' first | (refine And.intro (fun q => absurd q (by decide)) (fun _ => ?_)) | (refine And.intro (fun _ => ?_) (fun q => absurd q (by decide))) | fail)
            refine go hb (fun hq => ?_) (some (-1))
            obtain ⟨t2, q1, q2⟩ := hq
            rw [show (6 * g + b) % 6 = b by omega, e] at q1
            cases q1
          | some t1 =>
            have kb := PlD.arr_kn e
            have la := ok.2.2.1
            refine And.intro (fun q => absurd q (nI_m (by omega))) (fun _ => ?_)
            refine ct_coinsAfter (d := d + 5) hP ha (by omega) ka kb.1 (by omega) h3 ?_
            have b1 := PlD.aft_le (D := D) (a := a) (b := b) (g := g) (c := c) ok.2.1 (fun hg => ok.2.2.2 b (by omega) kb.1 g hg)
            show CT (d + 6) 0 0 m_Planner_most [P0, .inl (nI b), .inl (nI t1), .inl (nI (D.aft a b g c)), .inl (S.1 31 0 10 - 1 - nI i)] S _
            rw [h10, show nI L - 1 - nI i = nI (L - 1 - i) by rw [show (1 : Int32) = nI 1 from rfl, nI_sb (by omega) (by omega), nI_sb (by omega) (by omega)]]
            refine ct_mostN hP (by omega) (by omega) kb.1 (by omega) (by omega) ?_
            have bm := PlD.most_bd ok (L - 1 - i) (a := b) (t := t1) (c := D.aft a b g c)
            have eq : wI (D.mostP (L - 1 - i) b t1 (D.aft a b g c)) = S.1 31 0 9 ↔ D.mostP (L - 1 - i) b t1 (D.aft a b g c) = (w : Nat) := by
              rw [h9, ← wI_n]
              refine ⟨fun z => ?_, fun z => by rw [z]⟩
              have z := congrArg Int32.toInt z
              rw [wI_toInt bm.1 (by omega), wI_toInt (by omega) (by omega)] at z
              exact z
            refine And.intro (fun z => ?_) (fun z => ?_)
            · exact go hb (fun hq => z (eq.mpr ((emay t1 hb e).mp hq))) (some (nI t1))
            · have my := (emay t1 hb e).mpr (eq.mp z)
              have ex : x = 6 * g + b := by
                rcases Nat.lt_or_eq_of_le h4 with z2 | z2
                · exact absurd my (hmin _ z2)
                · exact z2.symm
              have h := h
              rw [ex, show (6 * g + b) % 6 = b by omega, show (6 * g + b) / 6 = g by omega] at h
              refine And.intro (vi (N := 3) (by omega)) ?_
              refine And.intro (vi (N := 3) (by omega)) ?_
              rw [ei]
              exact h)
  refine ct_of (xmok_all (by decide)) rfl (V_go (pc := 0) pk_18 [12] 20 ?_)
  refine And.intro (fun q => absurd (show (4 : Int32) ≤ 0 from q) (by decide)) (fun _ => ?_)
  exact loop 40 0 0 (by omega) (by omega) (by omega) (by omega) none
