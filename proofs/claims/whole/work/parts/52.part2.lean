/-! end: the class parts with each venture; the model too -/
def pyC (S : xS) (D v : Nat) (due ov : Int32) : xS := xupd (xupd (xupd S 12 D 4 (S.1 12 D 4 - clP due (S.1 12 D 4))) 15 v 5 (S.1 15 v 5 + clP due (S.1 12 D 4))) 15 v 7 ov
def duC (S : xS) (rest : Int32) (all : Int64) (v : Nat) : Int32 := if all = 0 then 0 else (rest.toInt64 * (S.1 15 v 6).toInt64 / all).toInt32
def bkC (S : xS) (f : Int32 → Int32 → Int32) (du : Int32) (v : Nat) : Int32 := clP (f (S.1 15 v 3) (S.1 15 v 4)) (if S.1 15 v 4 < du then S.1 15 v 4 else du)
def pt2 (S : xS) (D : Nat) (f : Int32 → Int32 → Int32) (v : Nat) (du : Int32) : xS := if S.1 15 v 0 = 2 then pyC (xupd S 15 v 4 (S.1 15 v 4 - bkC S f du v)) D v (du - bkC S f du v) (if 0 < S.1 15 v 4 - bkC S f du v then 0 else 1) else pyC S D v (if S.1 15 v 0 = 4 then S.1 15 v 2 else du) (if S.1 15 v 0 = 1 then 0 else 1)
theorem pyC.cong {l : List Nat} {A B : xS} {D v : Nat} {due ov : Int32} (h : Fr (fl l) A B) (hd : [13004, 16005].all (fun q => !l.elem q) = true) : Fr (fl l) (pyC A D v due ov) (pyC B D v due ov) := by
  have e0 : B.1 12 D 4 = A.1 12 D 4 := h.off hd rfl
  have e1 : B.1 15 v 5 = A.1 15 v 5 := h.off hd rfl
  unfold pyC
  rw [e0, e1]
  exact h.cong.cong.cong
theorem ct_C_partWith {d r a e v D : Nat} {c : Nat → Int32} {g b m s rest : Int32} {all : Int64} {S : xS} {Q : xQ} (er : S.1 0 0 12 = nI r) (r6 : r < 6) (hC : CPc r 2 a e c S) (hv : RVc g b m s S) (h : ∀ S', Fr (fl [29, 30, 29002]) (pt2 S D (rvP c e g b m s) v (duC S rest all v)) S' → RVc g b m s S' → Q none S') : CT (d + 3) 0 0 m_C_partWith [C0, .inr (.inr (15, v)), .inr (.inr (12, D)), .inl rest, .inr (.inl all)] S Q := by
  have eR : (nI r).toNatClampNeg = r := nI_clamp (by omega)
  generalize hf : rvP c e g b m s = f at h
  have tail : ∀ T, RVc g b m s T → ∀ due ov, ov = (if T.1 15 v 0 = 1 ∨ (T.1 15 v 0 = 2 ∧ 0 < T.1 15 v 4) then (0 : Int32) else 1) → Fr (fl [29, 30, 29002]) (pt2 S D f v (duC S rest all v)) (pyC T D v due ov) → ∀ o, (o = none ∨ ∃ w : Int32, o = some (.inl w)) → V (d + 3) 0 0 m_C_partWith 115 [some C0, some (.inr (.inr (15, v))), some (.inr (.inr (12, D))), some (.inl rest), some (.inr (.inl all)), none, some (.inl due), o] [] T Q := by
    intro T hT due ov hov hfr o ho
    have h := h _ hfr hT
    unfold pyC at h
    rcases ho with rfl | ⟨w0, rfl⟩
    all_goals (
      refine V_go pk_103 [] 80 ?_
      refine ct_pay ?_
      generalize clP due (T.1 12 D 4) = k at h ⊢
      refine And.intro (fun k1 => ?_) (fun k1 => ?_)
      · have k1 : T.1 15 v 0 = 1 := k1
        rw [if_pos (Or.inl k1)] at hov
        subst hov
        (repeat' first | (refine And.intro (fun q => absurd q (by decide)) (fun _ => ?_)) | (refine And.intro (fun _ => ?_) (fun q => absurd q (by decide))) | fail)
        exact And.intro (Or.inl rfl) h
      · have k1 : ¬ T.1 15 v 0 = 1 := k1
        refine And.intro (fun k2 => ?_) (fun k2 => ?_)
        · have k2 : ¬ T.1 15 v 0 = 2 := k2
          rw [if_neg (fun q => q.elim k1 (fun q => k2 q.1))] at hov
          subst hov
          (repeat' first | (refine And.intro (fun q => absurd q (by decide)) (fun _ => ?_)) | (refine And.intro (fun _ => ?_) (fun q => absurd q (by decide))) | fail)
          exact And.intro (Or.inr rfl) h
        · have k2 : T.1 15 v 0 = 2 := k2
          refine And.intro (fun k3 => ?_) (fun k3 => ?_)
          · have k3 : T.1 15 v 4 ≤ 0 := k3
            rw [if_neg (fun q => q.elim k1 (fun q => absurd k3 (Int32.not_le.mpr q.2)))] at hov
            subst hov
            (repeat' first | (refine And.intro (fun q => absurd q (by decide)) (fun _ => ?_)) | (refine And.intro (fun _ => ?_) (fun q => absurd q (by decide))) | fail)
            exact And.intro (Or.inr rfl) h
          · have k3 : ¬ T.1 15 v 4 ≤ 0 := k3
            rw [if_pos (Or.inr ⟨k2, Int32.not_le.mp k3⟩)] at hov
            subst hov
            (repeat' first | (refine And.intro (fun q => absurd q (by decide)) (fun _ => ?_)) | (refine And.intro (fun _ => ?_) (fun q => absurd q (by decide))) | fail)
            exact And.intro (Or.inl rfl) h)
  have mid : ∀ du, duC S rest all v = du → V (d + 3) 0 0 m_C_partWith 23 [some C0, some (.inr (.inr (15, v))), some (.inr (.inr (12, D))), some (.inl rest), some (.inr (.inl all)), none, none, none] [.inl du] S Q := by
    intro du hdu
    rw [hdu] at tail
    unfold pt2 at tail
    refine V_go pk_103 [115] 80 ?_
    refine And.intro (fun k2 => ?_) (fun k2 => ?_)
    · have k2 : ¬ S.1 15 v 0 = 2 := k2
      rw [if_neg k2] at tail
      refine And.intro (fun k4 => ?_) (fun k4 => ?_)
      · have k4 : ¬ S.1 15 v 0 = 4 := k4
        rw [if_neg k4] at tail
        exact tail S hv du _ (by
          by_cases k1 : S.1 15 v 0 = 1
          · rw [if_pos k1, if_pos (Or.inl k1)]
          · rw [if_neg k1, if_neg (fun q => q.elim k1 (fun q => k2 q.1))]) Fr.rf _ (Or.inl rfl)
      · have k4 : S.1 15 v 0 = 4 := k4
        rw [if_pos k4] at tail
        exact tail S hv _ _ (by
          by_cases k1 : S.1 15 v 0 = 1
          · rw [if_pos k1, if_pos (Or.inl k1)]
          · rw [if_neg k1, if_neg (fun q => q.elim k1 (fun q => k2 q.1))]) Fr.rf _ (Or.inl rfl)
    · have k2 : S.1 15 v 0 = 2 := k2
      rw [if_pos k2] at tail
      refine ct_setOwn ?_
      have f0 : Fr (fl [29]) S (xupd (xupd S 29 0 3 (S.1 15 v 3)) 29 0 4 (S.1 15 v 4)) := (Fr.rf.up rfl).up rfl
      refine And.intro (by rw [show (xupd (xupd S 29 0 3 (S.1 15 v 3)) 29 0 4 (S.1 15 v 4)).1 0 0 12 = S.1 0 0 12 from rfl, er]; exact vi (N := 6) r6) ?_
      rw [show (xupd (xupd S 29 0 3 (S.1 15 v 3)) 29 0 4 (S.1 15 v 4)).1 0 0 12 = S.1 0 0 12 from rfl, er, eR]
      refine ct_rkC (P := 2) (by decide) (hC.fr f0 (by decide)) hv.own rfl rfl (fun S1 f1 => ?_)
      have f2 : Fr (fl [29, 30, 29002]) S S1 := (f0.wk (by decide)).tr (f1.wk (by decide))
      rw [hf]
      have s4 : S1.1 15 v 4 = S.1 15 v 4 := f2.1 15 v 4 rfl
      have s0 : S1.1 15 v 0 = S.1 15 v 0 := f2.1 15 v 0 rfl
      have e : bkC S f du v = clP (f (S.1 15 v 3) (S.1 15 v 4)) (if S1.1 15 v 4 < du then S1.1 15 v 4 else du) := by rw [s4]; rfl
      refine ct_C_clamp ?_
      show V (d + 3) 0 0 m_C_partWith 115 [some C0, some (.inr (.inr (15, v))), some (.inr (.inr (12, D))), some (.inl rest), some (.inr (.inl all)), none, some (.inl (du - clP (f (S.1 15 v 3) (S.1 15 v 4)) (if S1.1 15 v 4 < du then S1.1 15 v 4 else du))), some (.inl (clP (f (S.1 15 v 3) (S.1 15 v 4)) (if S1.1 15 v 4 < du then S1.1 15 v 4 else du)))] [] (xupd S1 15 v 4 (S1.1 15 v 4 - clP (f (S.1 15 v 3) (S.1 15 v 4)) (if S1.1 15 v 4 < du then S1.1 15 v 4 else du))) Q
      rw [← e, s4]
      generalize bkC S f du v = k at tail ⊢
      have hv1 : RVc g b m s S1 := hv.own.fr f1 (by decide)
      refine tail _ (hv1.fr (l := [16004]) (Fr.rf.up rfl) (by decide)) _ (if 0 < S.1 15 v 4 - k then 0 else 1) ?_ (pyC.cong f2.cong (by decide)) _ (Or.inr ⟨_, rfl⟩)
      have x0 : (xupd S1 15 v 4 (S.1 15 v 4 - k)).1 15 v 0 = 2 := s0.trans k2
      have x4 : (xupd S1 15 v 4 (S.1 15 v 4 - k)).1 15 v 4 = S.1 15 v 4 - k := if_pos ⟨rfl, rfl, rfl⟩
      rw [x0, x4]
      by_cases c0 : 0 < S.1 15 v 4 - k
      · rw [if_pos c0, if_pos (Or.inr ⟨rfl, c0⟩)]
      · rw [if_neg c0, if_neg (fun q => q.elim (by decide) (fun q => c0 q.2))]
  refine ct_of (xmok_all (by decide)) rfl (V_go (pc := 0) pk_103 [23] 60 ?_)
  refine And.intro (fun q => ?_) (fun q => ?_)
  · have q : ¬ all = 0 := fun g => q (lg_eq.mpr g)
    refine And.intro q ?_
    exact mid _ (if_neg q)
  · have q : all = 0 := lg_eq.mp q
    exact mid _ (if_pos q)
