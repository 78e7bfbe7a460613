/-! end: the class's call -/
def enA (S : xS) (D nv : Nat) (F : Int32) : xS := pbC (xupd S 12 D 4 (S.1 12 D 4 - clP F (S.1 12 D 4))) D nv
def enR (S : xS) (D : Nat) : Int32 := if 0 < S.1 12 D 4 - S.1 12 D 6 then S.1 12 D 4 - S.1 12 D 6 else 0
def enB (S : xS) (D nv : Nat) (f0 f2 : Int32 → Int32 → Int32) : xS := ptC (wgC S D f0 nv) D (enR S D) (sgP (onB S D) (wtC S f0) nv) f2 nv
theorem pbC1.cong {l : List Nat} {A B : xS} {D v : Nat} (h : Fr (fl l) A B) (hd : [13004, 16000, 16001, 16004, 16005, 16007].all (fun q => !l.elem q) = true) : Fr (fl l) (pbC1 A D v) (pbC1 B D v) := by
  have e0 : B.1 15 v 0 = A.1 15 v 0 := h.off hd rfl
  have e1 : B.1 15 v 1 = A.1 15 v 1 := h.off hd rfl
  have e4 : B.1 15 v 4 = A.1 15 v 4 := h.off hd rfl
  have e5 : B.1 15 v 5 = A.1 15 v 5 := h.off hd rfl
  have e7 : B.1 15 v 7 = A.1 15 v 7 := h.off hd rfl
  have ep : B.1 12 D 4 = A.1 12 D 4 := h.off hd rfl
  unfold pbC1
  rw [e0, e1, e4, e5, e7, ep]
  by_cases c : (A.1 15 v 7 = 0 ∧ A.1 15 v 1 = nI D) ∧ A.1 15 v 0 = 5
  · rw [if_pos c, if_pos c]; exact h.cong.cong.cong
  · rw [if_neg c, if_neg c]; exact h
theorem pbC.cong {l : List Nat} {A B : xS} {D : Nat} (h : Fr (fl l) A B) (hd : [13004, 16000, 16001, 16004, 16005, 16007].all (fun q => !l.elem q) = true) : ∀ m, Fr (fl l) (pbC A D m) (pbC B D m)
  | 0 => h
  | m + 1 => pbC1.cong (pbC.cong h hd m) hd
theorem enB.cong {A B : xS} {D nv : Nat} {f0 f2 : Int32 → Int32 → Int32} (h : Fr (fl [29, 30, 29002]) A B) : enR B D = enR A D ∧ sgP (onB B D) (wtC B f0) nv = sgP (onB A D) (wtC A f0) nv ∧ Fr (fl [29, 30, 29002]) (wgC A D f0 nv) (wgC B D f0 nv) := by
  have e0 : ∀ v, B.1 15 v 0 = A.1 15 v 0 := fun v => h.1 15 v 0 rfl
  have e1 : ∀ v, B.1 15 v 1 = A.1 15 v 1 := fun v => h.1 15 v 1 rfl
  have e3 : ∀ v, B.1 15 v 3 = A.1 15 v 3 := fun v => h.1 15 v 3 rfl
  have e4 : ∀ v, B.1 15 v 4 = A.1 15 v 4 := fun v => h.1 15 v 4 rfl
  have e7 : ∀ v, B.1 15 v 7 = A.1 15 v 7 := fun v => h.1 15 v 7 rfl
  have eo : ∀ v, onB B D v = onB A D v := fun v => by unfold onB; rw [e1, e7]
  have ew : ∀ v, wtC B f0 v = wtC A f0 v := fun v => by unfold wtC; rw [e0, e3, e4]
  refine ⟨by unfold enR; rw [h.1 12 D 4 rfl, h.1 12 D 6 rfl], sgP_c nv (fun v _ => ⟨eo v, ew v⟩), ?_⟩
  have go : ∀ m, Fr (fl [29, 30, 29002]) (wgC A D f0 m) (wgC B D f0 m) := by
    intro m
    induction m with
    | zero => exact h
    | succ m ih =>
      show Fr _ (wg1 A (wgC A D f0 m) D f0 m) (wg1 B (wgC B D f0 m) D f0 m)
      unfold wg1
      rw [eo, ew]
      by_cases c : onB A D m = true
      · rw [if_pos c, if_pos c]; exact ih.cong
      · rw [if_neg c, if_neg c]; exact ih
  exact go nv
theorem ptC.cong {A B : xS} {D : Nat} {rest : Int32} {all : Int64} {f : Int32 → Int32 → Int32} (h : Fr (fl [29, 30, 29002]) A B) : ∀ m, Fr (fl [29, 30, 29002]) (ptC A D rest all f m) (ptC B D rest all f m)
  | 0 => h
  | m + 1 => by
    have ih := ptC.cong (D := D) (rest := rest) (all := all) (f := f) h m
    show Fr _ (pt1 (ptC A D rest all f m) D rest all f m) (pt1 (ptC B D rest all f m) D rest all f m)
    unfold pt1
    have eo : onB (ptC B D rest all f m) D m = onB (ptC A D rest all f m) D m := by unfold onB; rw [ih.1 15 m 7 rfl, ih.1 15 m 1 rfl]
    rw [eo]
    by_cases c : onB (ptC A D rest all f m) D m = true
    · rw [if_pos c, if_pos c]; exact pt2.cong ih (by decide)
    · rw [if_neg c, if_neg c]; exact ih
theorem ct_C_end {d nd nv r a0 e0 a1 e1 a2 e2 : Nat} {c0 c1 c2 : Nat → Int32} {g b m s x : Int32} {S : xS} {Q : xQ} (e3 : S.1 0 0 9 = nI nd) (e7 : S.1 0 0 10 = nI nv) (bd : nd ≤ 4) (b2 : nv ≤ 16) (er : S.1 0 0 12 = nI r) (r6 : r < 6) (hC0 : CPc r 0 a0 e0 c0 S) (hC1 : CPc r 1 a1 e1 c1 S) (hC2 : CPc r 2 a2 e2 c2 S)
    (hg : S.1 12 x.toNatClampNeg 4 - S.1 12 x.toNatClampNeg 6 = g) (hbg : S.1 0 0 13 - S.1 12 x.toNatClampNeg 7 = b) (hm : mnC S x nv = m) (hs : S.1 0 0 13 / 30 - S.1 0 0 13 / 30 / 12 * 12 = s)
    (qb : ¬ inC nd x → Q (some (.inl (-2))) S) (qs : inC nd x → ¬ (cThere S x.toNatClampNeg ∧ ¬ S.1 12 x.toNatClampNeg 6 = -1) → Q (some (.inl (-3))) S)
    (qk : inC nd x → cThere S x.toNatClampNeg → ¬ S.1 12 x.toNatClampNeg 6 = -1 → ∀ S', Fr (fl [29, 30, 29002]) (xupd (enB (enA S x.toNatClampNeg nv (rvP c1 e1 g b m s 0 0)) x.toNatClampNeg nv (rvP c0 e0 g b m s) (rvP c2 e2 g b m s)) 12 x.toNatClampNeg 6 (-1)) S' → Q (some (.inl (S'.1 12 x.toNatClampNeg 4))) S') : CT (d + 5) 0 0 m_C_end [C0, .inl x] S Q := by
  have eR : (nI r).toNatClampNeg = r := nI_clamp (by omega)
  refine ct_of (xmok_all (by decide)) rfl (V_go (pc := 0) pk_98 [18] 60 ?_)
  refine cC_isDhow e3 (by omega) (fun hx => ?_) (fun q => ?_)
  · (repeat' first | (refine And.intro (fun q => absurd q (by decide)) (fun _ => ?_)) | (refine And.intro (fun _ => ?_) (fun q => absurd q (by decide))) | fail)
    refine And.intro (hx.vp bd) ?_
    obtain ⟨D, hD, rfl⟩ := id hx
    have eD : (nI D).toNatClampNeg = D := nI_clamp (by omega)
    show V (d + 5) 0 0 m_C_end 18 [some C0, some (.inl (nI D)), some (.inr (.inr (12, (nI D).toNatClampNeg))), none, none, none, none] [] S Q
    rw [eD] at hg hbg qs qk ⊢
    have key : ∀ S0, Fr (fl [29]) S S0 → RVc g b m s S0 → S0.1 29 0 3 = 0 → S0.1 29 0 4 = 0 → cThere S D → ¬ S.1 12 D 6 = -1 → V (d + 5) 0 0 m_C_end 81 [some C0, some (.inl (nI D)), some (.inr (.inr (12, D))), none, none, none, none] [] S0 Q := by
      intro S0 f0 hv h3 h4 th st
      have qk := qk hx th st
      have q12 : S0.1 0 0 12 = nI r := (f0.1 0 0 12 rfl).trans er
      refine V_go pk_98 [132] 200 ?_
      refine And.intro (by rw [q12]; exact vi (N := 6) r6) ?_
      rw [q12, eR]
      refine ct_rkC (P := 1) (by decide) (hC1.fr f0 (by decide)) hv h3 h4 (fun S1 f1 => ?_)
      generalize rvP c1 e1 g b m s 0 0 = F at qk ⊢
      refine ct_pay ?_
      have f2 : Fr (fl [29, 30, 29002]) S S1 := (f0.wk (by decide)).tr (f1.wk (by decide))
      have hv1 := hv.fr f1 (by decide)
      have g2 : Fr (fl [29, 30, 29002]) (enA S D nv F) (pbC (xupd S1 12 D 4 (S1.1 12 D 4 - clP F (S1.1 12 D 4))) D nv) := by
        unfold enA
        rw [f2.1 12 D 4 rfl]
        exact pbC.cong f2.cong (by decide) nv
      have p1 : Fr (fl [13004, 16005, 16007]) S1 (pbC (xupd S1 12 D 4 (S1.1 12 D 4 - clP F (S1.1 12 D 4))) D nv) := (Fr.up (S := S1) Fr.rf rfl).tr (pbC_fr _ D nv)
      refine ct_C_payBottoms (nv := nv) (by omega) ((f2.1 0 0 10 rfl).trans e7) b2 ?_
      generalize pbC (xupd S1 12 D 4 (S1.1 12 D 4 - clP F (S1.1 12 D 4))) D nv = S2 at g2 p1 ⊢
      have p2 : Fr (fl [29, 30, 29002, 13004, 16005, 16007]) S S2 := (f2.wk (by decide)).tr (p1.wk (by decide))
      have hv2 := hv1.fr p1 (by decide)
      refine ct_C_weighAll (nv := nv) ((p2.1 0 0 10 rfl).trans e7) b2 ((p2.1 0 0 12 rfl).trans er) r6 (hC0.fr p2 (by decide)) hv2 (fun T hT hvT => ?_)
      have p3 : Fr (fl [29, 30, 29002, 13004, 16005, 16007, 16006]) S T := (p2.wk (by decide)).tr (((wgC_fr _ _ _ _).wk (by decide)).tr (hT.wk (by decide)))
      obtain ⟨q1, q2, q3⟩ := enB.cong (D := D) (nv := nv) (f0 := rvP c0 e0 g b m s) (f2 := rvP c2 e2 g b m s) g2
      show V (d + 5) 0 0 m_C_end 132 [some C0, some (.inl (nI D)), some (.inr (.inr (12, D))), some (.inl (enR S2 D)), some (.inr (.inl (sgP (onB S2 D) (wtC S2 (rvP c0 e0 g b m s)) nv))), none, some (.inl (nI 0))] [] T Q
      rw [q1, q2]
      refine end_loop (d := d + 1) (nv := nv) (by omega) ((p3.1 0 0 10 rfl).trans e7) b2 ((p3.1 0 0 12 rfl).trans er) r6 (hC2.fr p3 (by decide)) hvT (fun T2 hT2 => ?_)
      refine V_go pk_98 [] 40 ?_
      refine qk (xupd T2 12 D 6 (-1)) ?_
      unfold enB
      exact (((ptC.cong (q3.tr hT)) nv).tr hT2).cong
    refine V_go pk_98 [81] 200 ?_
    refine ct_inPort (fun p1 p2 => ?_) (fun p => ?_)
    · (repeat' first | (refine And.intro (fun q => absurd q (by decide)) (fun _ => ?_)) | (refine And.intro (fun _ => ?_) (fun q => absurd q (by decide))) | fail)
      refine ct_onVoyage (fun q => ?_) (fun q => ?_)
      · (repeat' first | (refine And.intro (fun q => absurd q (by decide)) (fun _ => ?_)) | (refine And.intro (fun _ => ?_) (fun q => absurd q (by decide))) | fail)
        refine ct_menOf e7 b2 ?_
        refine ct_C_monthOf ?_
        refine ct_setVoyage ?_
        refine ct_setOwn ?_
        exact key _ ((((((Fr.rf.up rfl).up rfl).up rfl).up rfl).up rfl).up rfl) ⟨hg, hbg, hm, hs⟩ rfl rfl ⟨p1, p2⟩ q
      · (repeat' first | (refine And.intro (fun q => absurd q (by decide)) (fun _ => ?_)) | (refine And.intro (fun _ => ?_) (fun q => absurd q (by decide))) | fail)
        exact qs hx (fun g => g.2 q)
    · (repeat' first | (refine And.intro (fun q => absurd q (by decide)) (fun _ => ?_)) | (refine And.intro (fun _ => ?_) (fun q => absurd q (by decide))) | fail)
      exact qs hx (fun g => p g.1)
  · (repeat' first | (refine And.intro (fun q => absurd q (by decide)) (fun _ => ?_)) | (refine And.intro (fun _ => ?_) (fun q => absurd q (by decide))) | fail)
    exact qb q
