/-! end: the model parts -/
def pyM (S : xS) (D v : Nat) (due : Int64) (ov : Int32) : xS := xupd (xupd (xupd S 46 0 D (S.1 46 0 D - hdP due (S.1 46 0 D))) 59 0 v (S.1 59 0 v + hdP due (S.1 46 0 D))) 58 0 v ov
def duM (S : xS) (rest all : Int64) (v : Nat) : Int64 := if all = 0 then 0 else rest * S.2 60 0 v / all
def bkM (S : xS) (f : Int32 → Int32 → Int32) (du : Int64) (v : Nat) : Int32 := hdP (f (S.1 56 0 v) (S.1 57 0 v)).toInt64 (if du < (S.1 57 0 v).toInt64 then du.toInt32 else S.1 57 0 v)
def pm2 (S : xS) (D : Nat) (f : Int32 → Int32 → Int32) (v : Nat) (du : Int64) : xS := if S.1 53 0 v = 2 then pyM (xupd S 57 0 v (S.1 57 0 v - bkM S f du v)) D v (du - (bkM S f du v).toInt64) (if S.1 57 0 v - bkM S f du v = 0 then 1 else 0) else pyM S D v (if S.1 53 0 v = 4 then (S.1 55 0 v).toInt64 else du) (if S.1 53 0 v = 0 ∨ 2 < S.1 53 0 v then 1 else 0)
def pm1 (S : xS) (D : Nat) (rest all : Int64) (f : Int32 → Int32 → Int32) (v : Nat) : xS := if tkB S D v = true then pm2 S D f v (duM S rest all v) else S
def ptM (S : xS) (D : Nat) (rest all : Int64) (f : Int32 → Int32 → Int32) : Nat → xS
  | 0 => S
  | m + 1 => pm1 (ptM S D rest all f m) D rest all f m
theorem pyM.cong {l : List Nat} {A B : xS} {D v : Nat} {due : Int64} {ov : Int32} (h : Fr (fl l) A B) (hd : [46, 59].all (fun q => !l.elem q) = true) : Fr (fl l) (pyM A D v due ov) (pyM B D v due ov) := by
  have e0 : B.1 46 0 D = A.1 46 0 D := h.off hd rfl
  have e1 : B.1 59 0 v = A.1 59 0 v := h.off hd rfl
  unfold pyM
  rw [e0, e1]
  exact h.cong.cong.cong
theorem pyM_fr (S : xS) (D v : Nat) (due : Int64) (ov : Int32) : Fr (fl [57, 46, 59, 58]) S (pyM S D v due ov) := ((Fr.rf.up rfl).up rfl).up rfl
theorem pm1_fr (S : xS) (D : Nat) (rest all : Int64) (f : Int32 → Int32 → Int32) (v : Nat) : Fr (fl [57, 46, 59, 58]) S (pm1 S D rest all f v) := by
  unfold pm1 pm2
  by_cases c : tkB S D v = true
  · rw [if_pos c]
    by_cases k : S.1 53 0 v = 2
    · rw [if_pos k]; exact (Fr.up (S := S) Fr.rf rfl).tr (pyM_fr _ D v _ _)
    · rw [if_neg k]; exact pyM_fr S D v _ _
  · rw [if_neg c]; exact Fr.rf
theorem ptM_fr (S : xS) (D : Nat) (rest all : Int64) (f : Int32 → Int32 → Int32) : ∀ m, Fr (fl [57, 46, 59, 58]) S (ptM S D rest all f m)
  | 0 => Fr.rf
  | m + 1 => (ptM_fr S D rest all f m).tr (pm1_fr _ D rest all f m)
theorem ct_M_part {d r e nv D t : Nat} {c : Nat → Int32} {g b m s : Int32} {rest all : Int64} {S : xS} {Q : xQ} (hD : D < 4) (e7 : S.1 36 0 19 = nI nv) (b2 : nv ≤ 16) (er : S.1 36 0 34 = nI r) (r6 : r < 6) (hM : MPc r 2 e c S) (ht : S.1 36 0 0 = nI t) (t9 : t ≤ 9999) (hs : s = nI (t / 30 % 12)) (hv : RVm g b m S) (h : ∀ T, Fr (fl [69]) (ptM S D rest all (rvP c e g b m s) nv) T → Q none T) : CT (d + 2) 0 0 m_M_part [M0, .inl (nI D), .inr (.inl rest), .inr (.inl all)] S Q := by
  generalize hf : rvP c e g b m s = f at h
  obtain ⟨v0, v1, v2⟩ := hv
  have eD : (nI D).toNatClampNeg = D := nI_clamp (by omega)
  have vD : vp_in (nI D) 4 := vi hD
  have loop : ∀ k j, j + k = nv → ∀ T, Fr (fl [69]) (ptM S D rest all f j) T → ∀ o7 o9, ((o7 = none ∧ o9 = none) ∨ ∃ (w : Int64) (w9 : Option Int32), o7 = some (.inr (.inl w)) ∧ o9 = w9.map .inl) → V (d + 2) 0 0 m_M_part 3 [some M0, some (.inl (nI D)), some (.inr (.inl rest)), none, some (.inr (.inl all)), none, some (.inl (nI j)), o7, none, o9] [] T Q := by
    intro k
    induction k with
    | zero =>
      intro j hj T hT o7 o9 ho
      obtain rfl : j = nv := by omega
      have en : T.1 36 0 19 = nI j := ((hT.1 36 0 19 rfl).trans ((ptM_fr S D rest all f j).1 36 0 19 rfl)).trans e7
      refine V_go pk_157 [3] 40 ?_
      refine And.intro (fun _ => h T hT) (fun q => absurd ?_ q)
      show T.1 36 0 19 ≤ nI j
      rw [en]; exact Int32.le_refl _
    | succ k ih =>
      intro j hj T hT o7 o9 ho
      have ej : (nI j).toNatClampNeg = j := nI_clamp (by omega)
      have vj : vp_in (nI j) 16 := vi (by omega)
      have fT : Fr (fl [57, 46, 59, 58, 69]) S T := ((ptM_fr S D rest all f j).wk (by decide)).tr (hT.wk (by decide))
      have en : T.1 36 0 19 = nI nv := (fT.1 36 0 19 rfl).trans e7
      have hMT : MPc r 2 e c T := hM.fr fT (by decide)
      have ew : ptM S D rest all f (j + 1) = pm1 (ptM S D rest all f j) D rest all f j := rfl
      have ih := fun T2 => ih (j + 1) (by omega) T2
      rw [ew, ← nI_1] at ih
      generalize ptM S D rest all f j = A at ih hT
      have t53 : A.1 53 0 j = T.1 53 0 j := (hT.1 53 0 j rfl).symm
      have t54 : A.1 54 0 j = T.1 54 0 j := (hT.1 54 0 j rfl).symm
      have t55 : A.1 55 0 j = T.1 55 0 j := (hT.1 55 0 j rfl).symm
      have t56 : A.1 56 0 j = T.1 56 0 j := (hT.1 56 0 j rfl).symm
      have t57 : A.1 57 0 j = T.1 57 0 j := (hT.1 57 0 j rfl).symm
      have t58 : A.1 58 0 j = T.1 58 0 j := (hT.1 58 0 j rfl).symm
      have t60 : A.2 60 0 j = T.2 60 0 j := by rw [hT.2]
      have etk : tkB A D j = tkB T D j := by unfold tkB; rw [t53, t54, t58]
      unfold pm1 at ih
      rw [etk] at ih
      have tail : ∀ T2, ∀ due ov, ov = (if T2.1 53 0 j = 0 ∨ 2 < T2.1 53 0 j ∨ (T2.1 53 0 j = 2 ∧ T2.1 57 0 j = 0) then (1 : Int32) else 0) → Fr (fl [69]) (if tkB T D j = true then pm2 A D f j (duM A rest all j) else A) (pyM T2 D j due ov) → ∀ o9 : Option Int32, V (d + 2) 0 0 m_M_part 171 [some M0, some (.inl (nI D)), some (.inr (.inl rest)), none, some (.inr (.inl all)), none, some (.inl (nI j)), some (.inr (.inl due)), none, o9.map .inl] [] T2 Q := by
        intro T2 due ov hov hfr o9
        have ih := ih _ hfr (some (.inr (.inl due))) (o9.map .inl) (Or.inr ⟨due, o9, rfl, rfl⟩)
        unfold pyM at ih
        rcases o9 with _ | w9
        all_goals (
          refine V_go pk_157 [3] 80 ?_
          refine And.intro vD ?_
          rw [eD]
          refine ct_held ?_
          refine ct_M_pay (by omega) hD ?_
          generalize hdP due (T2.1 46 0 D) = k at ih ⊢
          refine And.intro vj ?_
          refine And.intro (fun k1 => ?_) (fun k1 => ?_)
          · have k1 : T2.1 53 0 (nI j).toNatClampNeg = 0 := k1
            rw [ej] at k1
            rw [if_pos (Or.inl k1)] at hov
            subst hov
            refine And.intro vj ?_
            rw [ej]
            exact ih
          · have k1 : ¬ T2.1 53 0 (nI j).toNatClampNeg = 0 := k1
            rw [ej] at k1
            refine And.intro vj ?_
            refine And.intro (fun k2 => ?_) (fun k2 => ?_)
            · have k2 : 2 < T2.1 53 0 (nI j).toNatClampNeg := k2
              rw [ej] at k2
              rw [if_pos (Or.inr (Or.inl k2))] at hov
              subst hov
              refine And.intro vj ?_
              rw [ej]
              exact ih
            · have k2 : ¬ 2 < T2.1 53 0 (nI j).toNatClampNeg := k2
              rw [ej] at k2
              refine And.intro vj ?_
              refine And.intro (fun k3 => ?_) (fun k3 => ?_)
              · have k3 : ¬ T2.1 53 0 (nI j).toNatClampNeg = 2 := k3
                rw [ej] at k3
                rw [if_neg (fun q => q.elim k1 (fun q => q.elim k2 (fun q => k3 q.1)))] at hov
                subst hov
                refine And.intro vj ?_
                rw [ej]
                exact ih
              · have k3 : T2.1 53 0 (nI j).toNatClampNeg = 2 := k3
                rw [ej] at k3
                refine And.intro vj ?_
                refine And.intro (fun k4 => ?_) (fun k4 => ?_)
                · have k4 : ¬ T2.1 57 0 (nI j).toNatClampNeg = 0 := k4
                  rw [ej] at k4
                  rw [if_neg (fun q => q.elim k1 (fun q => q.elim k2 (fun q => k4 q.2)))] at hov
                  subst hov
                  refine And.intro vj ?_
                  rw [ej]
                  exact ih
                · have k4 : T2.1 57 0 (nI j).toNatClampNeg = 0 := k4
                  rw [ej] at k4
                  rw [if_pos (Or.inr (Or.inr ⟨k3, k4⟩))] at hov
                  subst hov
                  refine And.intro vj ?_
                  rw [ej]
                  exact ih)
      refine V_go pk_157 [3, 70] 60 ?_
      refine And.intro (fun q => ?_) (fun _ => ?_)
      · have q : T.1 36 0 19 ≤ nI j := q
        rw [en] at q
        exact absurd ((nI_leI (by omega) (by omega)).mp q) (by omega)
      · have mid : tkB T D j = true → ∀ due : Int64, (if T.1 53 0 j = 4 then (T.1 55 0 j).toInt64 else duM A rest all j) = due → V (d + 2) 0 0 m_M_part 70 [some M0, some (.inl (nI D)), some (.inr (.inl rest)), none, some (.inr (.inl all)), none, some (.inl (nI j)), o7, none, o9] [.inr (.inl due)] T Q := by
          intro qt due hdue
          rw [if_pos qt] at tail
          unfold pm2 at tail
          rw [t53, t55, t57] at tail
          have go : ∀ o9 : Option Int32, V (d + 2) 0 0 m_M_part 72 [some M0, some (.inl (nI D)), some (.inr (.inl rest)), none, some (.inr (.inl all)), none, some (.inl (nI j)), some (.inr (.inl due)), none, o9.map .inl] [] T Q := by
            intro o9
            rcases o9 with _ | w9
            all_goals (
              refine V_go pk_157 [171] 80 ?_
              refine And.intro vj ?_
              refine And.intro (fun k2 => ?_) (fun k2 => ?_)
              · have k2 : ¬ T.1 53 0 (nI j).toNatClampNeg = 2 := k2
                rw [ej] at k2
                rw [if_neg k2, hdue] at tail
                first
                  | exact tail T due _ (by
                      by_cases k0 : T.1 53 0 j = 0
                      · rw [if_pos (Or.inl k0), if_pos (Or.inl k0)]
                      · by_cases k3 : 2 < T.1 53 0 j
                        · rw [if_pos (Or.inr k3), if_pos (Or.inr (Or.inl k3))]
                        · rw [if_neg (fun q => q.elim k0 k3), if_neg (fun q => q.elim k0 (fun q => q.elim k3 (fun q => k2 q.1)))]) (pyM.cong hT (by decide)) none
                  | exact tail T due _ (by
                      by_cases k0 : T.1 53 0 j = 0
                      · rw [if_pos (Or.inl k0), if_pos (Or.inl k0)]
                      · by_cases k3 : 2 < T.1 53 0 j
                        · rw [if_pos (Or.inr k3), if_pos (Or.inr (Or.inl k3))]
                        · rw [if_neg (fun q => q.elim k0 k3), if_neg (fun q => q.elim k0 (fun q => q.elim k3 (fun q => k2 q.1)))]) (pyM.cong hT (by decide)) (some w9)
              · have k2 : T.1 53 0 (nI j).toNatClampNeg = 2 := k2
                rw [ej] at k2
                rw [if_pos k2] at tail
                have n4 : ¬ T.1 53 0 j = 4 := by rw [k2]; decide
                rw [if_neg n4] at hdue
                rw [hdue] at tail
                refine And.intro vj ?_
                refine And.intro vj ?_
                have q34 : T.1 36 0 34 = nI r := (fT.1 36 0 34 rfl).trans er
                have q27 : T.1 36 0 27 = g := (fT.1 36 0 27 rfl).trans v0
                have q28 : T.1 36 0 28 = b := (fT.1 36 0 28 rfl).trans v1
                have q29 : T.1 36 0 29 = m := (fT.1 36 0 29 rfl).trans v2
                rw [ej, show xfv T 36 0 34 none = (.inl (nI r) : xV) from congrArg Sum.inl q34, show xfv T 36 0 27 none = (.inl g : xV) from congrArg Sum.inl q27, show xfv T 36 0 28 none = (.inl b : xV) from congrArg Sum.inl q28, show xfv T 36 0 29 none = (.inl m : xV) from congrArg Sum.inl q29]
                refine ct_vlM (s := s) (S := T) (P := 2) r6 (by decide) hMT ((fT.1 36 0 0 rfl).trans ht) t9 hs (fun S1 f1 => ?_)
                rw [hf]
                have s57 : S1.1 57 0 j = T.1 57 0 j := f1.1 57 0 j rfl
                have s53 : S1.1 53 0 j = T.1 53 0 j := f1.1 53 0 j rfl
                refine And.intro vj ?_
                rw [ej]
                have fin : ∀ mn : Int32, mn = (if due < (T.1 57 0 j).toInt64 then due.toInt32 else T.1 57 0 j) → V (d + 2) 0 0 m_M_part 171 [some M0, some (.inl (nI D)), some (.inr (.inl rest)), none, some (.inr (.inl all)), none, some (.inl (nI j)), some (.inr (.inl (due - (hdP (f (T.1 56 0 j) (T.1 57 0 j)).toInt64 mn).toInt64))), none, some (.inl (hdP (f (T.1 56 0 j) (T.1 57 0 j)).toInt64 mn))] [] (xupd S1 57 0 j (S1.1 57 0 j - hdP (f (T.1 56 0 j) (T.1 57 0 j)).toInt64 mn)) Q := by
                  intro mn hmn
                  have eb : bkM A f due j = hdP (f (T.1 56 0 j) (T.1 57 0 j)).toInt64 mn := by unfold bkM; rw [t56, t57, hmn]
                  rw [← eb, s57]
                  generalize bkM A f due j = k at tail ⊢
                  refine tail (xupd S1 57 0 j (T.1 57 0 j - k)) _ (if T.1 57 0 j - k = 0 then 1 else 0) ?_ (pyM.cong (hT.tr f1).cong (by decide)) (some k)
                  have x0 : (xupd S1 57 0 j (T.1 57 0 j - k)).1 53 0 j = 2 := s53.trans k2
                  have x4 : (xupd S1 57 0 j (T.1 57 0 j - k)).1 57 0 j = T.1 57 0 j - k := if_pos ⟨rfl, rfl, rfl⟩
                  rw [x0, x4]
                  by_cases c0 : T.1 57 0 j - k = 0
                  · rw [if_pos c0, if_pos (Or.inr (Or.inr ⟨rfl, c0⟩))]
                  · rw [if_neg c0, if_neg (fun q => q.elim (by decide) (fun q => q.elim (by decide) (fun q => c0 q.2)))]
                refine And.intro (fun q => ?_) (fun q => ?_)
                · have q : ¬ due < (T.1 57 0 j).toInt64 := fun g => absurd (lg_lt.mpr (by rw [s57]; exact g)) (Int32.not_lt.mpr q)
                  refine And.intro vj ?_
                  refine ct_held ?_
                  refine And.intro vj ?_
                  refine And.intro vj ?_
                  rw [ej]
                  exact fin _ (by rw [if_neg q, s57])
                · have q : due < (T.1 57 0 j).toInt64 := by rw [← s57]; exact lg_lt.mp (Int32.not_le.mp q)
                  refine ct_held ?_
                  refine And.intro vj ?_
                  refine And.intro vj ?_
                  rw [ej]
                  exact fin _ (by rw [if_pos q]))
          rcases ho with ⟨rfl, rfl⟩ | ⟨w, w9, rfl, rfl⟩
          · refine V_go pk_157 [72] 5 ?_
            exact go none
          · refine V_go pk_157 [72] 5 ?_
            exact go w9
        rcases ho with ⟨rfl, rfl⟩ | ⟨w, w9, rfl, rfl⟩
        rotate_left
        rcases w9 with _ | w9
        all_goals (
          refine ct_M_takes (v := j) (D := D) (by omega) (fun q => ?_) (fun q => ?_)
          · have mid := mid q
            (repeat' first | (refine And.intro (fun q => absurd q (by decide)) (fun _ => ?_)) | (refine And.intro (fun _ => ?_) (fun q => absurd q (by decide))) | fail)
            refine And.intro vj ?_
            refine And.intro (fun k4 => ?_) (fun k4 => ?_)
            · have k4 : ¬ T.1 53 0 (nI j).toNatClampNeg = 4 := k4
              rw [ej] at k4
              rw [if_neg k4] at mid
              refine And.intro (fun k5 => ?_) (fun k5 => ?_)
              · have k5 : ¬ all = 0 := fun g => k5 (lg_eq.mpr g)
                refine And.intro vj ?_
                refine And.intro k5 ?_
                rw [ej]
                exact mid _ (by unfold duM; rw [if_neg k5, t60])
              · have k5 : all = 0 := lg_eq.mp k5
                exact mid _ (by unfold duM; rw [if_pos k5])
            · have k4 : T.1 53 0 (nI j).toNatClampNeg = 4 := k4
              rw [ej] at k4
              rw [if_pos k4] at mid
              refine And.intro vj ?_
              rw [ej]
              exact mid _ rfl
          · (repeat' first | (refine And.intro (fun q => absurd q (by decide)) (fun _ => ?_)) | (refine And.intro (fun _ => ?_) (fun q => absurd q (by decide))) | fail)
            rw [if_neg q] at ih
            refine ih T hT _ _ ?_
            first
              | exact Or.inl ⟨rfl, rfl⟩
              | exact Or.inr ⟨w, none, rfl, rfl⟩
              | exact Or.inr ⟨w, some w9, rfl, rfl⟩)
  refine ct_of (xmok_all (by decide)) rfl (V_go (pc := 0) pk_157 [3] 20 ?_)
  exact loop nv 0 (by omega) S Fr.rf none none (Or.inl ⟨rfl, rfl⟩)
