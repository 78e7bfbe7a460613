/-! buy, begin, way -/
def okBuy (nd : Nat) (x g k : Int32) : Prop := inC nd x ∧ inC 4 g ∧ inR 1 99 k
def cSum (S : xS) (D : Nat) : Int32 := 0 + S.1 13 D 0 + S.1 13 D 1 + S.1 13 D 2 + S.1 13 D 3
def mSum (S : xS) (D : Nat) : Int32 := S.1 50 0 (4 * D) + S.1 50 0 (4 * D + 1) + S.1 50 0 (4 * D + 2) + S.1 50 0 (4 * D + 3)
def mx0 (x : Int32) : Int32 := if 0 < x then x else 0
theorem ct_C_buy {d nd : Nat} {x g k : Int32} {S : xS} {Q : xQ} (e3 : S.1 0 0 9 = nI nd) (b : nd ≤ 4) (hP : ∀ D, D < nd → ¬ S.1 12 D 0 = -1 → inC 6 (S.1 12 D 0)) (hb : ¬ okBuy nd x g k → Q (some (.inl (-2))) S)
    (hs : okBuy nd x g k → ¬ (cThere S x.toNatClampNeg ∧ cSum S x.toNatClampNeg + k ≤ S.1 12 x.toNatClampNeg 3 ∧ k * (pPrice S (S.1 12 x.toNatClampNeg 0).toNatClampNeg g + 1) ≤ S.1 12 x.toNatClampNeg 4) → Q (some (.inl (-3))) S)
    (hk : okBuy nd x g k → cThere S x.toNatClampNeg → cSum S x.toNatClampNeg + k ≤ S.1 12 x.toNatClampNeg 3 → k * (pPrice S (S.1 12 x.toNatClampNeg 0).toNatClampNeg g + 1) ≤ S.1 12 x.toNatClampNeg 4 → Q (some (.inl (S.1 12 x.toNatClampNeg 4 - k * (pPrice S (S.1 12 x.toNatClampNeg 0).toNatClampNeg g + 1))))
      (xupd (xupd (xupd S 12 x.toNatClampNeg 4 (S.1 12 x.toNatClampNeg 4 - k * (pPrice S (S.1 12 x.toNatClampNeg 0).toNatClampNeg g + 1))) 13 x.toNatClampNeg g.toNatClampNeg (S.1 13 x.toNatClampNeg g.toNatClampNeg + k)) 7 (S.1 12 x.toNatClampNeg 0).toNatClampNeg g.toNatClampNeg (mx0 (S.1 7 (S.1 12 x.toNatClampNeg 0).toNatClampNeg g.toNatClampNeg - k)))) : CT (d + 3) 0 0 m_C_buy [C0, .inl x, .inl g, .inl k] S Q := by
  refine ct_of (xmok_all (by decide)) rfl (V_go (pc := 0) pk_86 [] 100 ?_)
  refine cC_isDhow e3 (by omega) (fun hx => ?_) (fun q => ?_)
  · (repeat' first | (refine And.intro (fun q => absurd q (by decide)) (fun _ => ?_)) | (refine And.intro (fun _ => ?_) (fun q => absurd q (by decide))) | fail)
    refine cC_good (fun hg => ?_) (fun q => ?_)
    · (repeat' first | (refine And.intro (fun q => absurd q (by decide)) (fun _ => ?_)) | (refine And.intro (fun _ => ?_) (fun q => absurd q (by decide))) | fail)
      refine cC_w 1 99 rfl rfl (by decide) (by decide) (fun c3 => ?_) (fun c3 => ?_)
      · (repeat' first | (refine And.intro (fun q => absurd q (by decide)) (fun _ => ?_)) | (refine And.intro (fun _ => ?_) (fun q => absurd q (by decide))) | fail)
        have ok : okBuy nd x g k := ⟨hx, hg, c3⟩
        refine And.intro (hx.vp b) ?_
        refine ct_inPort (fun p1 p2 => ?_) (fun p => ?_)
        · (repeat' first | (refine And.intro (fun q => absurd q (by decide)) (fun _ => ?_)) | (refine And.intro (fun _ => ?_) (fun q => absurd q (by decide))) | fail)
          have hg4 := hg.vp (N := 4) (by decide)
          refine ct_aboard ?_
          refine And.intro (fun c4 => ?_) (fun c4 => ?_)
          · refine And.intro ((hP _ hx.lt p1).vp (by decide)) ?_
            refine ct_Port_priceOf hg4 ?_
            refine And.intro (fun c5 => ?_) (fun c5 => ?_)
            · refine And.intro hg4 ?_
              refine And.intro hg4 ?_
              refine And.intro hg4 ?_
              refine And.intro hg4 ?_
              refine qi (hk ok ⟨p1, p2⟩ c4 c5) ?_ rfl
              show (xupd (xupd (xupd S 12 x.toNatClampNeg 4 _) _ _ _ _) _ _ _ _).1 12 x.toNatClampNeg 4 = _
              simp (decide := true) only [xu, true_and, false_and, and_true, and_false, if_true, if_false]
            · exact hs ok (fun q => c5 q.2.2)
          · exact hs ok (fun q => c4 q.2.1)
        · (repeat' first | (refine And.intro (fun q => absurd q (by decide)) (fun _ => ?_)) | (refine And.intro (fun _ => ?_) (fun q => absurd q (by decide))) | fail)
          exact hs ok (fun q => p q.1)
      · (repeat' first | (refine And.intro (fun q => absurd q (by decide)) (fun _ => ?_)) | (refine And.intro (fun _ => ?_) (fun q => absurd q (by decide))) | fail)
        exact hb (fun q => c3 q.2.2)
    · (repeat' first | (refine And.intro (fun q => absurd q (by decide)) (fun _ => ?_)) | (refine And.intro (fun _ => ?_) (fun q => absurd q (by decide))) | fail)
      exact hb (fun g => q g.2.1)
  · (repeat' first | (refine And.intro (fun q => absurd q (by decide)) (fun _ => ?_)) | (refine And.intro (fun _ => ?_) (fun q => absurd q (by decide))) | fail)
    exact hb (fun g => q g.1)
