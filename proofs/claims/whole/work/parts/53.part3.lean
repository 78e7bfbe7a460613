/-! end: the loops over the ventures that part -/
def pt1 (S : xS) (D : Nat) (rest : Int32) (all : Int64) (f : Int32 → Int32 → Int32) (v : Nat) : xS := if onB S D v = true then pt2 S D f v (duC S rest all v) else S
def ptC (S : xS) (D : Nat) (rest : Int32) (all : Int64) (f : Int32 → Int32 → Int32) : Nat → xS
  | 0 => S
  | m + 1 => pt1 (ptC S D rest all f m) D rest all f m
theorem pyC_fr (S : xS) (D v : Nat) (due ov : Int32) : Fr (fl [16004, 13004, 16005, 16007]) S (pyC S D v due ov) := ((Fr.rf.up rfl).up rfl).up rfl
theorem pt1_fr (S : xS) (D : Nat) (rest : Int32) (all : Int64) (f : Int32 → Int32 → Int32) (v : Nat) : Fr (fl [16004, 13004, 16005, 16007]) S (pt1 S D rest all f v) := by
  unfold pt1 pt2
  by_cases c : onB S D v = true
  · rw [if_pos c]
    by_cases k : S.1 15 v 0 = 2
    · rw [if_pos k]; exact (Fr.up (S := S) Fr.rf rfl).tr (pyC_fr _ D v _ _)
    · rw [if_neg k]; exact pyC_fr S D v _ _
  · rw [if_neg c]; exact Fr.rf
theorem ptC_fr (S : xS) (D : Nat) (rest : Int32) (all : Int64) (f : Int32 → Int32 → Int32) : ∀ m, Fr (fl [16004, 13004, 16005, 16007]) S (ptC S D rest all f m)
  | 0 => Fr.rf
  | m + 1 => (ptC_fr S D rest all f m).tr (pt1_fr _ D rest all f m)
theorem pt2.cong {l : List Nat} {A B : xS} {D v : Nat} {rest : Int32} {all : Int64} {f : Int32 → Int32 → Int32} (h : Fr (fl l) A B) (hd : [13004, 16000, 16002, 16003, 16004, 16005, 16006].all (fun q => !l.elem q) = true) : Fr (fl l) (pt2 A D f v (duC A rest all v)) (pt2 B D f v (duC B rest all v)) := by
  have hd2 : [13004, 16005].all (fun q => !l.elem q) = true := by
    rw [List.all_eq_true] at hd ⊢
    exact fun q hq => hd q (by rcases List.mem_cons.mp hq with e | e <;> simp_all)
  have e0 : B.1 15 v 0 = A.1 15 v 0 := h.off hd rfl
  have e2 : B.1 15 v 2 = A.1 15 v 2 := h.off hd rfl
  have e3 : B.1 15 v 3 = A.1 15 v 3 := h.off hd rfl
  have e4 : B.1 15 v 4 = A.1 15 v 4 := h.off hd rfl
  have e6 : B.1 15 v 6 = A.1 15 v 6 := h.off hd rfl
  unfold pt2 duC bkC
  rw [e0, e2, e3, e4, e6]
  by_cases k : A.1 15 v 0 = 2
  · rw [if_pos k, if_pos k]; exact pyC.cong h.cong hd2
  · rw [if_neg k, if_neg k]; exact pyC.cong h hd2
theorem end_loop {d r a e nv D : Nat} {c : Nat → Int32} {g b m s rest : Int32} {all : Int64} {S : xS} {Q : xQ} (hD : D < 4) (e7 : S.1 0 0 10 = nI nv) (b2 : nv ≤ 16) (er : S.1 0 0 12 = nI r) (r6 : r < 6) (hC : CPc r 2 a e c S) (hv : RVc g b m s S) (h : ∀ T, Fr (fl [29, 30, 29002]) (ptC S D rest all (rvP c e g b m s) nv) T → V (d + 4) 0 0 m_C_end 176 [some C0, some (.inl (nI D)), some (.inr (.inr (12, D))), some (.inl rest), some (.inr (.inl all)), none, some (.inl (nI nv))] [] T Q) : V (d + 4) 0 0 m_C_end 132 [some C0, some (.inl (nI D)), some (.inr (.inr (12, D))), some (.inl rest), some (.inr (.inl all)), none, some (.inl (nI 0))] [] S Q := by
  generalize hf : rvP c e g b m s = f at h
  have loop : ∀ k j, j + k = nv → ∀ T, Fr (fl [29, 30, 29002]) (ptC S D rest all f j) T → RVc g b m s T → V (d + 4) 0 0 m_C_end 132 [some C0, some (.inl (nI D)), some (.inr (.inr (12, D))), some (.inl rest), some (.inr (.inl all)), none, some (.inl (nI j))] [] T Q := by
    intro k
    induction k with
    | zero =>
      intro j hj T hT hvT
      obtain rfl : j = nv := by omega
      have en : T.1 0 0 10 = nI j := ((hT.1 0 0 10 rfl).trans ((ptC_fr S D rest all f j).1 0 0 10 rfl)).trans e7
      refine V_go pk_98 [132, 176] 40 ?_
      refine And.intro (fun _ => h T hT) (fun q => absurd ?_ q)
      show T.1 0 0 10 ≤ nI j
      rw [en]; exact Int32.le_refl _
    | succ k ih =>
      intro j hj T hT hvT
      have ej : (nI j).toNatClampNeg = j := nI_clamp (by omega)
      have vj : vp_in (nI j) 16 := vi (by omega)
      have fT : Fr (fl [16004, 13004, 16005, 16007, 29, 30, 29002]) S T := ((ptC_fr S D rest all f j).wk (by decide)).tr (hT.wk (by decide))
      have en : T.1 0 0 10 = nI nv := (fT.1 0 0 10 rfl).trans e7
      have ew : ptC S D rest all f (j + 1) = pt1 (ptC S D rest all f j) D rest all f j := rfl
      have ih := fun T2 => ih (j + 1) (by omega) T2
      rw [ew, ← nI_1] at ih
      generalize ptC S D rest all f j = A at ih hT
      have t7 : T.1 15 j 7 = A.1 15 j 7 := hT.1 15 j 7 rfl
      have t1 : T.1 15 j 1 = A.1 15 j 1 := hT.1 15 j 1 rfl
      unfold pt1 at ih
      refine V_go pk_98 [132, 176] 80 ?_
      refine And.intro (fun q => ?_) (fun _ => ?_)
      · have q : T.1 0 0 10 ≤ nI j := q
        rw [en] at q
        exact absurd ((nI_leI (by omega) (by omega)).mp q) (by omega)
      · refine And.intro vj ?_
        rw [ej]
        refine ct_isOn (fun g1 g2 => ?_) (fun g1 => ?_)
        · (repeat' first | (refine And.intro (fun q => absurd q (by decide)) (fun _ => ?_)) | (refine And.intro (fun _ => ?_) (fun q => absurd q (by decide))) | fail)
          rw [t7] at g1
          rw [t1] at g2
          have c1 : onB A D j = true := decide_eq_true ⟨g1, g2⟩
          rw [if_pos c1] at ih
          refine And.intro vj ?_
          rw [ej]
          refine ct_C_partWith (d := d) (r := r) (a := a) (e := e) (c := c) ((fT.1 0 0 12 rfl).trans er) r6 (hC.fr fT (by decide)) hvT (fun S1 f1 hv1 => ?_)
          rw [hf] at f1
          exact ih S1 ((pt2.cong hT (by decide)).tr f1) hv1
        · (repeat' first | (refine And.intro (fun q => absurd q (by decide)) (fun _ => ?_)) | (refine And.intro (fun _ => ?_) (fun q => absurd q (by decide))) | fail)
          have c1 : ¬ onB A D j = true := fun q => by
            have q := of_decide_eq_true q
            exact g1 ⟨t7.trans q.1, t1.trans q.2⟩
          rw [if_neg c1] at ih
          exact ih T hT hvT
  exact loop nv 0 (by omega) S Fr.rf hv
