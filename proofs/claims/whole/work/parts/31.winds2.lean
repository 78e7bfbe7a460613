def at64 (f : Int32) (j : Nat) : Int64 := f.toInt64 + (nI j).toInt64
theorem at64_toInt {f : Int32} {j : Nat} (hj : j < 1000) : (at64 f j).toInt = f.toInt + j := by
  unfold at64
  have h1 := f.le_toInt
  have h2 := f.toInt_lt
  rw [Int64.toInt_add, Int32.toInt_toInt64, Int32.toInt_toInt64, nI_toInt (by omega)]
  exact Int.bmod_eq_of_le (by omega) (by omega)
theorem at64_32 {f : Int32} {j : Nat} : (at64 f j).toInt32 = f + nI j := by
  unfold at64
  rw [Int64.toInt32_add, Int32.toInt32_toInt64, Int32.toInt32_toInt64]
theorem inC_int {c : Nat} {x : Int32} (hc : c < 2 ^ 31) : inC c x ↔ 0 ≤ x.toInt ∧ x.toInt < c := by
  rw [← inC_iff hc, Int32.le_iff_toInt_le, Int32.lt_iff_toInt_lt, nI_toInt hc, show (0 : Int32).toInt = 0 from rfl]
theorem at64_in {f : Int32} {j z : Nat} (hj : j < 1000) (hz : z ≤ 40) : (0 ≤ (at64 f j).toInt ∧ (at64 f j).toInt < z) ↔ inC z (f + nI j) := by
  rw [inC_int (by omega), at64_toInt hj, Int32.toInt_add, nI_toInt (by omega)]
  have h1 := f.le_toInt
  have h2 := f.toInt_lt
  by_cases h : f.toInt + (j : Int) < 2147483648
  · rw [Int.bmod_eq_of_le (by omega) (by omega)]
  · have e : (f.toInt + (j : Int)).bmod (2 ^ 32) = f.toInt + (j : Int) - 4294967296 := by
      rw [show f.toInt + (j : Int) = (f.toInt + (j : Int) - 4294967296) + 1 * ((2 ^ 32 : Nat) : Int) by omega, Int.add_mul_bmod_self_right, Int.bmod_eq_of_le (by omega) (by omega)]
      omega
    rw [e]
    omega
theorem ct_M_winds {d z : Nat} {x s f k : Int32} {S : xS} {Q : xQ} (hz : z ≤ 40) (hb : ¬ okW x s k → Q (some (.inl (-2))) S) (hn : okW x s k → S.1 72 0 x.toNatClampNeg < 0 → Q (some (.inl (-11))) S) (hs : okW x s k → ¬ S.1 72 0 x.toNatClampNeg < 0 → ¬ S.1 72 0 x.toNatClampNeg = s → Q (some (.inl (-13))) S)
    (hzz : okW x s k → S.1 73 0 x.toNatClampNeg = nI z)
    (ho : okW x s k → S.1 72 0 x.toNatClampNeg = s → ∀ m, m < k.toNatClampNeg → (∀ j, j < m → inC z (f + nI j)) → ¬ inC z (f + nI m) → Q (some (.inl (-12))) (wdM S x.toNatClampNeg f m))
    (hk : okW x s k → S.1 72 0 x.toNatClampNeg = s → (∀ j, j < k.toNatClampNeg → inC z (f + nI j)) → Q (some (.inl k)) (wdM S x.toNatClampNeg f k.toNatClampNeg)) : CT (d + 3) 0 0 m_M_winds [M0, .inl x, .inl s, .inl f, .inl k] S Q := by
  refine ct_of (xmok_all (by decide)) rfl (V_go (pc := 0) pk_126 [68] 40 ?_)
  refine cM_w 0 3 rfl rfl (by decide) (by decide) (fun h1 => ?_) (fun q => ?_)
  · (repeat' first | (refine And.intro (fun q => absurd q (by decide)) (fun _ => ?_)) | (refine And.intro (fun _ => ?_) (fun q => absurd q (by decide))) | fail)
    have h1 : inC 4 x := by
      obtain ⟨k, -, k2, k3⟩ := h1
      exact ⟨k, by omega, k3⟩
    refine cM_w 0 2 rfl rfl (by decide) (by decide) (fun h2 => ?_) (fun q => ?_)
    · (repeat' first | (refine And.intro (fun q => absurd q (by decide)) (fun _ => ?_)) | (refine And.intro (fun _ => ?_) (fun q => absurd q (by decide))) | fail)
      refine cM_w 0 12 rfl rfl (by decide) (by decide) (fun h3 => ?_) (fun q => ?_)
      · (repeat' first | (refine And.intro (fun q => absurd q (by decide)) (fun _ => ?_)) | (refine And.intro (fun _ => ?_) (fun q => absurd q (by decide))) | fail)
        have ok : okW x s k := ⟨h1, h2, h3⟩
        have hs := hs ok
        have hn := hn ok
        have hzz9 := hzz ok
        have hv := h1.vp (N := 4) (by decide)
        have hX := h1.lt
        refine And.intro hv ?_
        refine And.intro (fun c0 => ?_) (fun c0 => hn (Int32.not_le.mp c0))
        have c0 : ¬ S.1 72 0 x.toNatClampNeg < 0 := Int32.not_lt.mpr c0
        refine And.intro hv ?_
        refine And.intro (fun hq => ?_) (fun c => hs c0 c)
        have ho := ho ok hq
        have hk := hk ok hq
        obtain ⟨K, -, k2, rfl⟩ := h3
        rw [nI_clamp (show K < 2 ^ 31 by omega)] at ho hk
        have loop : ∀ m j, j + m = K → (∀ i, i < j → inC z (f + nI i)) → ∀ o1 o2 o3, V (d + 3) 0 0 m_M_winds 68 [some M0, some (.inl x), some (.inl s), some (.inl f), some (.inl (nI K)), some (.inl (nI j)), o1, o2, o3] [] (wdM S x.toNatClampNeg f j) Q := by
          intro m
          induction m with
          | zero =>
            intro j hj hi o1 o2 o3
            obtain rfl : j = K := by omega
            refine V_go pk_126 [68] 40 ?_
            exact And.intro (fun _ => hk hi) (fun q => absurd (Int32.le_refl _) q)
          | succ m ih =>
            intro j hj hi o1 o2 o3
            have r2 : (wdM S x.toNatClampNeg f j).1 73 0 x.toNatClampNeg = nI z := ((wdM_fr S x.toNatClampNeg f j).1 73 0 _ rfl).trans hzz9
            have ei := at64_in (f := f) (j := j) (z := z) (by omega) hz
            refine V_go pk_126 [68] 60 ?_
            refine And.intro (fun q => absurd ((nI_leI (by omega) (by omega)).mp q) (by omega)) (fun _ => ?_)
            refine And.intro (fun c1 => ?_) (fun c1 => ?_)
            · have c1 := Int64.lt_iff_toInt_lt.mp (lg_lt.mp c1)
              have c1 : (at64 f j).toInt < 0 := c1
              exact ho j (by omega) hi (fun q => by have := ei.mpr q; omega)
            · have c1 : ¬ (at64 f j).toInt < 0 := fun q => c1 (lg_lt.mpr (Int64.lt_iff_toInt_lt.mpr q))
              refine And.intro hv ?_
              have e73 : ((wdM S x.toNatClampNeg f j).1 73 0 x.toNatClampNeg).toInt64.toInt = z := by rw [r2, Int32.toInt_toInt64, nI_toInt (by omega)]
              refine And.intro (fun c2 => ?_) (fun c2 => ?_)
              · have c2 := Int64.lt_iff_toInt_lt.mp (lg_lt.mp c2)
                have c2 : (at64 f j).toInt < ((wdM S x.toNatClampNeg f j).1 73 0 x.toNatClampNeg).toInt64.toInt := c2
                rw [e73] at c2
                have hc := ei.mp ⟨by omega, c2⟩
                have hI := hc.lt
                have ex : (40 : Int32) * x + (at64 f j).toInt32 = nI (40 * x.toNatClampNeg + (f + nI j).toNatClampNeg) := by rw [at64_32, show (40 : Int32) * x = 40 * nI x.toNatClampNeg by rw [← h1.eq], show f + nI j = nI (f + nI j).toNatClampNeg from hc.eq, show (40 : Int32) = nI 40 from rfl, nI_mul, nI_add, nI_clamp (show (f + nI j).toNatClampNeg < 2 ^ 31 by omega)]
                have vi160 : vp_in (40 * x + (at64 f j).toInt32) 160 := by rw [ex]; exact vi (by omega)
                refine And.intro vi160 ?_
                have next : ∀ w, w = clM (S.1 74 0 (40 * x.toNatClampNeg + (f + nI j).toNatClampNeg)) → ∀ o1 o2 o3, V (d + 3) 0 0 m_M_winds 68 [some M0, some (.inl x), some (.inl s), some (.inl f), some (.inl (nI K)), some (.inl (nI j + 1)), o1, o2, o3] [] (xupd (wdM S x.toNatClampNeg f j) 42 0 (nI j).toNatClampNeg w) Q := by
                  intro w hw o1 o2 o3
                  rw [nI_1, nI_clamp (show j < 2 ^ 31 by omega), hw]
                  refine ih (j + 1) (by omega) (fun i hi' => ?_) o1 o2 o3
                  rcases Nat.lt_or_ge i j with q | q
                  · exact hi i q
                  · obtain rfl : i = j := by omega
                    exact hc
                have ev : (wdM S x.toNatClampNeg f j).1 74 0 (40 * x + (at64 f j).toInt32).toNatClampNeg = S.1 74 0 (40 * x.toNatClampNeg + (f + nI j).toNatClampNeg) := by
                  rw [(wdM_fr S x.toNatClampNeg f j).1 74 _ _ rfl, ex, nI_clamp (by omega)]
                have iv12 : vp_in (nI j) 12 := vi (by omega)
                refine And.intro (fun c3 => ?_) (fun c3 => ?_)
                · have c3 : (-2 : Int32) ≤ (wdM S x.toNatClampNeg f j).1 74 0 (40 * x + (at64 f j).toInt32).toNatClampNeg := c3
                  refine And.intro (fun c4 => ?_) (fun c4 => ?_)
                  · have c4 : (wdM S x.toNatClampNeg f j).1 74 0 (40 * x + (at64 f j).toInt32).toNatClampNeg ≤ 2 := c4
                    refine And.intro iv12 ?_
                    refine next _ ?_ _ _ _
                    show (wdM S x.toNatClampNeg f j).1 74 0 (40 * x + (at64 f j).toInt32).toNatClampNeg = _
                    rw [ev] at c3 c4 ⊢
                    unfold clM
                    rw [if_neg (Int32.not_lt.mpr c3), if_neg (Int32.not_lt.mpr c4)]
                  · have c4 : ¬ (wdM S x.toNatClampNeg f j).1 74 0 (40 * x + (at64 f j).toInt32).toNatClampNeg ≤ 2 := c4
                    refine And.intro iv12 ?_
                    refine next 2 ?_ _ _ _
                    rw [ev] at c3 c4
                    unfold clM
                    rw [if_neg (Int32.not_lt.mpr c3), if_pos (Int32.not_le.mp c4)]
                · have c3 : ¬ (-2 : Int32) ≤ (wdM S x.toNatClampNeg f j).1 74 0 (40 * x + (at64 f j).toInt32).toNatClampNeg := c3
                  refine And.intro iv12 ?_
                  refine next (-2) ?_ _ _ _
                  rw [ev] at c3
                  unfold clM
                  rw [if_pos (Int32.not_le.mp c3)]
              · have c2 : ¬ (at64 f j).toInt < ((wdM S x.toNatClampNeg f j).1 73 0 x.toNatClampNeg).toInt64.toInt := fun q => c2 (lg_lt.mpr (Int64.lt_iff_toInt_lt.mpr q))
                rw [e73] at c2
                exact ho j (by omega) hi (fun q => by have := ei.mpr q; omega)
        show V (d + 3) 0 0 m_M_winds 68 [some M0, some (.inl x), some (.inl s), some (.inl f), some (.inl (nI K)), some (.inl 0), none, none, none] [] S Q
        exact loop K 0 (by omega) (fun i hi => absurd hi (by omega)) none none none
      · (repeat' first | (refine And.intro (fun q => absurd q (by decide)) (fun _ => ?_)) | (refine And.intro (fun _ => ?_) (fun q => absurd q (by decide))) | fail)
        exact hb (fun g => q g.2.2)
    · (repeat' first | (refine And.intro (fun q => absurd q (by decide)) (fun _ => ?_)) | (refine And.intro (fun _ => ?_) (fun q => absurd q (by decide))) | fail)
      exact hb (fun g => q g.2.1)
  · (repeat' first | (refine And.intro (fun q => absurd q (by decide)) (fun _ => ?_)) | (refine And.intro (fun _ => ?_) (fun q => absurd q (by decide))) | fail)
    refine hb (fun g => q ?_)
    obtain ⟨k, k1, k2⟩ := g.1
    exact ⟨k, by omega, by omega, k2⟩
theorem cm_winds {dp n : Nat} {S : xS} (hA : IA n S) (hE : IE S) {x s f k : Int32} : CT (dp + 3) 0 0 m_C_winds [C0, .inl x, .inl s, .inl f, .inl k] S (fun a S1 => CT (dp + 3) 0 0 m_M_winds [M0, .inl x, .inl s, .inl f, .inl k] S1 (fun a' S2 => a' = a ∧ IA n S2 ∧ Fr (fl [3, 42]) S S2)) := by
  by_cases hx : inC 4 x
  case neg =>
    exact ct_C_winds (z := 0) (by decide) (fun _ => ct_M_winds (z := 0) (by decide) (fun _ => ⟨rfl, hA, Fr.rf⟩) (fun g => absurd g.1 hx) (fun g => absurd g.1 hx) (fun g => absurd g.1 hx) (fun g => absurd g.1 hx) (fun g => absurd g.1 hx)) (fun g => absurd g.1 hx) (fun g => absurd g.1 hx) (fun g => absurd g.1 hx) (fun g => absurd g.1 hx) (fun g => absurd g.1 hx)
  case pos =>
    obtain ⟨⟨a1, a2⟩, a3, ⟨z, hz, a4⟩, a5⟩ := hE _ hx.lt
    have lo : S.1 72 0 x.toNatClampNeg < 0 ↔ S.1 21 x.toNatClampNeg 1 = -1 := by
      rw [a1]
      rcases a3 with q | ⟨k, hk, q⟩
      · rw [q]; exact ⟨fun _ => rfl, fun _ => by decide⟩
      · rw [q]
        exact ⟨fun g => absurd (nI_pos' (by omega)) (Int32.not_le.mpr g), fun g => by rw [g]; decide⟩
    have rel : ∀ m, m ≤ 12 → (∀ j, j < m → inC z (f + nI j)) → IA n (wdM (wdC S x.toNatClampNeg f m) x.toNatClampNeg f m) ∧ Fr (fl [3, 42]) S (wdM (wdC S x.toNatClampNeg f m) x.toNatClampNeg f m) := by
      intro m hm hi
      have f1 := wdC_fr S x.toNatClampNeg f m
      have f2 := wdM_fr (wdC S x.toNatClampNeg f m) x.toNatClampNeg f m
      have fr := (f1.wk (l' := [3, 42]) (by decide)).tr (f2.wk (l' := [3, 42]) (by decide))
      refine ⟨?_, fr⟩
      have off : ∀ k i j, fl [3, 42] k j = false → (wdM (wdC S x.toNatClampNeg f m) x.toNatClampNeg f m).1 k i j = S.1 k i j := fr.1
      obtain ⟨h1, h2, h3, h4, h5⟩ := hA
      refine ⟨?_, ?_, fun p hp => ?_, fun p g hp hg => ?_, fun j hj => ?_⟩
      · rw [off 1 0 2 rfl]; exact h1
      · rw [off 1 0 2 rfl, off 36 0 1 rfl]; exact h2
      · rw [off 37 0 p rfl, off 38 0 p rfl, off 4 p 0 rfl, off 4 p 1 rfl]; exact h3 p hp
      · rw [off 39 0 _ rfl, off 40 0 _ rfl, off 41 0 _ rfl, off 5 p g rfl, off 6 p g rfl, off 7 p g rfl]; exact h4 p g hp hg
      · rw [f2.1 3 0 j rfl, wdM_at, wdC_at, f1.1 42 0 j rfl, f1.1 74 0 _ rfl]
        by_cases hjm : j < m
        · have hc := hi j hjm
          have := hc.lt
          rw [if_pos hjm, if_pos hjm, a5 _ (by omega), (cl_eq _).1]
          exact ⟨rfl, (cl_eq _).2⟩
        · rw [if_neg hjm, if_neg hjm]
          exact h5 j hj
    have kle : okW x s k → k.toNatClampNeg ≤ 12 := fun ok => by
      obtain ⟨K, -, k2, rfl⟩ := ok.2.2
      rw [nI_clamp (by omega)]; exact k2
    have s0 : okW x s k → ¬ s = -1 := fun ok q => by
      obtain ⟨a, -, a2, rfl⟩ := ok.2.1
      have := congrArg Int32.toInt q
      rw [nI_toInt (by omega), show (-1 : Int32).toInt = -1 from rfl] at this
      omega
    refine ct_C_winds (z := z) hz (fun q => ?_) (fun ok q q2 => ?_) (fun ok q => ?_) (fun _ => a4) (fun ok q m hm hi hn => ?_) (fun ok q hi => ?_)
    · exact ct_M_winds (z := z) hz (fun _ => ⟨rfl, hA, Fr.rf⟩) (fun g => absurd g q) (fun g => absurd g q) (fun g => absurd g q) (fun g => absurd g q) (fun g => absurd g q)
    · exact ct_M_winds (z := z) hz (fun g => absurd ok g) (fun _ g => absurd (lo.mp g) q) (fun _ _ _ => ⟨rfl, hA, Fr.rf⟩) (fun _ => a2.trans a4) (fun _ g => absurd (a1.symm.trans g) q2) (fun _ g => absurd (a1.symm.trans g) q2)
    · exact ct_M_winds (z := z) hz (fun g => absurd ok g) (fun _ _ => ⟨rfl, hA, Fr.rf⟩) (fun _ g => absurd (lo.mpr q) g) (fun _ => a2.trans a4) (fun _ g => absurd ((g.symm.trans a1).trans q) (s0 ok)) (fun _ g => absurd ((g.symm.trans a1).trans q) (s0 ok))
    · have f1 := wdC_fr S x.toNatClampNeg f m
      have r72 : (wdC S x.toNatClampNeg f m).1 72 0 x.toNatClampNeg = s := ((f1.1 72 0 _ rfl).trans a1).trans q
      have r73 : (wdC S x.toNatClampNeg f m).1 73 0 x.toNatClampNeg = nI z := ((f1.1 73 0 _ rfl).trans a2).trans a4
      refine ct_M_winds (z := z) hz (fun g => absurd ok g) (fun _ g => ?_) (fun _ _ g => absurd r72 g) (fun _ => r73) (fun _ _ m' hm' hi' hn' => ?_) (fun _ _ g => absurd (g m hm) hn)
      · rw [f1.1 72 0 _ rfl] at g
        exact absurd (q.symm.trans (lo.mp g)) (s0 ok)
      · obtain rfl : m' = m := by
          rcases Nat.lt_trichotomy m' m with g | g | g
          · exact absurd (hi m' g) hn'
          · exact g
          · exact absurd (hi' m g) hn
        exact ⟨rfl, rel m' (by have := kle ok; omega) hi⟩
    · have f1 := wdC_fr S x.toNatClampNeg f k.toNatClampNeg
      have r72 : (wdC S x.toNatClampNeg f k.toNatClampNeg).1 72 0 x.toNatClampNeg = s := ((f1.1 72 0 _ rfl).trans a1).trans q
      have r73 : (wdC S x.toNatClampNeg f k.toNatClampNeg).1 73 0 x.toNatClampNeg = nI z := ((f1.1 73 0 _ rfl).trans a2).trans a4
      refine ct_M_winds (z := z) hz (fun g => absurd ok g) (fun _ g => ?_) (fun _ _ g => absurd r72 g) (fun _ => r73) (fun _ _ m' hm' _ hn' => absurd (hi m' hm') hn') (fun _ _ _ => ⟨rfl, rel _ (kle ok) hi⟩)
      rw [f1.1 72 0 _ rfl] at g
      exact absurd (q.symm.trans (lo.mp g)) (s0 ok)
