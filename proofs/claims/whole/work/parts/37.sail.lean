/-! sail -/
theorem exC_fr (S : xS) (P D : Nat) : Fr (fl [9, 10]) S (exC S P D) := by
  refine ⟨fun k i j hf => exC_off (fun g => ?_), exC_2 S P D⟩
  rcases g.1 with e | e <;> rw [e] at hf <;> cases hf
theorem cpM_2 (S : xS) (t f : Nat) : ∀ g, (cpM S t f g).2 = S.2
  | 0 => rfl
  | g + 1 => cpM_2 S t f g
theorem mh_2 (S : xS) (t f : Nat) : (mh S t f).2 = S.2 := by
  unfold mh
  by_cases c : S.1 51 0 t < S.1 51 0 f
  · rw [if_pos c, cpM_2]; rfl
  · rw [if_neg c]
theorem tkM_2 (S : xS) (P D : Nat) : ∀ m, (tkM S P D m).2 = S.2
  | 0 => rfl
  | m + 1 => by
    show (if (tkM S P D m).1 51 0 (36 + 6 * D + m) < (tkM S P D m).1 51 0 (6 * P + m) then mh (tkM S P D m) (36 + 6 * D + m) (6 * P + m) else mh (tkM S P D m) (6 * P + m) (36 + 6 * D + m)).2 = _
    by_cases c : (tkM S P D m).1 51 0 (36 + 6 * D + m) < (tkM S P D m).1 51 0 (6 * P + m)
    · rw [if_pos c, mh_2]; exact tkM_2 S P D m
    · rw [if_neg c, mh_2]; exact tkM_2 S P D m
theorem tkk_kp (S : xS) (P D m : Nat) : Kp S (tkM (knM S P) P D m) := by
  intro k i j h1 h2
  rw [tkM_kp _ P D m k i j h1 h2]
  show (if k = 52 ∧ j = 28 * P + 3 ∧ i = 0 then _ else if k = 52 ∧ j = 28 * P + 2 ∧ i = 0 then _ else if k = 52 ∧ j = 28 * P + 1 ∧ i = 0 then _ else if k = 52 ∧ j = 28 * P + 0 ∧ i = 0 then _ else if k = 51 ∧ j = 7 * P ∧ i = 0 then _ else S.1 k i j) = _
  rw [if_neg (fun g => h2 g.1), if_neg (fun g => h2 g.1), if_neg (fun g => h2 g.1), if_neg (fun g => h2 g.1), if_neg (fun g => h1 g.1)]
theorem tkk_fr (S : xS) (P D m : Nat) : Fr (fl [51, 52]) S (tkM (knM S P) P D m) := by
  refine ⟨fun k i j hf => tkk_kp S P D m k i j (fun e => ?_) (fun e => ?_), tkM_2 _ P D m⟩ <;> rw [e] at hf <;> cases hf
theorem mix_eq {S T : xS} (h : ∀ k i j, 36 ≤ k → k ≤ 74 → T.1 k i j = S.1 k i j) (h2 : T.2 = S.2) : mix S T = S := by
  unfold mix
  refine Prod.ext ?_ ?_
  · funext k i j
    dsimp only
    cases hb : (Nat.ble 36 k && Nat.ble k 74) with
    | true =>
      have := Bool.and_eq_true_iff.mp hb
      exact h k i j (Nat.le_of_ble_eq_true this.1) (Nat.le_of_ble_eq_true this.2)
    | false => rfl
  · funext k i j
    dsimp only
    cases hb : (Nat.ble 36 k && Nat.ble k 74) with
    | true => rw [h2]; rfl
    | false => rfl
theorem IC.cong {np t : Nat} {S2 E M : xS} (h : IC np t (mix E M)) (e9 : ∀ a q, S2.1 9 a q = E.1 9 a q) (e10 : ∀ a q, S2.1 10 a q = E.1 10 a q) (e51 : ∀ w, S2.1 51 0 w = M.1 51 0 w) (e52 : ∀ w, S2.1 52 0 w = M.1 52 0 w) : IC np t S2 := by
  obtain ⟨h1, h2, h3⟩ := h.to
  have := IC.of (np := np) (t := t) (E := S2) (M := S2) (fun p q a b c => by rw [e51, e9]; exact ⟨(h1 p q a b c).1, fun g hg => by rw [e52, e10]; exact (h1 p q a b c).2 g hg⟩) (fun d q a b => by rw [e51, e9]; exact ⟨(h2 d q a b).1, fun g hg => by rw [e52, e10]; exact (h2 d q a b).2 g hg⟩) (fun a q x y => by rw [e9]; exact ⟨(h3 a q x y).1, fun g hg => by rw [e10]; exact (h3 a q x y).2 g hg⟩)
  rw [mix_self] at this
  exact this
theorem IB.sail {n np nd t D : Nat} {S : xS} (h : IB n np nd t S) (hD : D < nd) (hl : S.1 12 D 2 = 0) {p c : Nat} (hp : p < np) (hc : c ≤ 20000) : IB n np nd t (xupd (xupd (xupd (xupd S 12 D 0 (nI p)) 12 D 1 (nI c)) 43 0 D (nI p)) 44 0 D (nI c)) := by
  intro d hd
  refine ⟨fun q => ?_, fun q => ?_⟩
  · obtain ⟨⟨a1, a2, a3, a4, a5, a6⟩, a7, a8, a9⟩ := (h d hd).1 q
    by_cases e : d = D
    · subst e
      refine ⟨⟨a1, ?_, a3, a4, a5, a6⟩, Or.inl ⟨hl, p, hp, ?_, ?_⟩, Or.inr ⟨c, hc, ?_⟩, a9⟩ <;> simp (decide := true) only [xu, true_and, false_and, and_true, and_false, if_true, if_false]
    · refine ⟨⟨a1, ?_, a3, a4, a5, a6⟩, ?_, ?_, a9⟩
      · simp (decide := true) only [xu, true_and, false_and, and_true, and_false, if_true, if_false, e]; exact a2
      · simp (decide := true) only [xu, true_and, false_and, and_true, and_false, if_true, if_false, e]; exact a7
      · simp (decide := true) only [xu, true_and, false_and, and_true, and_false, if_true, if_false, e]; exact a8
  · have e : ¬ d = D := by omega
    obtain ⟨a1, a2, a3⟩ := (h d hd).2 q
    refine ⟨?_, ?_, a3⟩
    · simp (decide := true) only [xu, true_and, false_and, and_true, and_false, if_true, if_false, e]; exact a1
    · simp (decide := true) only [xu, true_and, false_and, and_true, and_false, if_true, if_false, e]; exact a2
def okSail (np nd : Nat) (S : xS) (x p : Int32) : Prop := inC nd x ∧ inC np p ∧ ¬ (cThere S x.toNatClampNeg ∧ S.1 12 x.toNatClampNeg 0 = p)
theorem cm_sail {dp n np nd nv nt r t : Nat} {S : xS} (hn : n ≤ 600) (hN : IN np nd nv nt r t S) (hA : IA n S) (hB : IB n np nd t S) (hC : IC np t S) {x p : Int32} : CT (dp + 5) 0 0 m_C_sail [C0, .inl x, .inl p] S (fun a S1 => CT (dp + 5) 0 0 m_M_sail [M0, .inl x, .inl p] S1 (fun a' S2 => a' = a ∧ (IB n np nd t S2 ∧ IC np t S2) ∧ Fr (fl [9, 10, 13000, 13001, 51, 52, 43, 44]) S S2)) := by
  obtain ⟨⟨b1, b2, b3, b4, b5, b6⟩, ⟨e1, e2⟩, ⟨e3, e4⟩, e7, e9, e11, e13, e14⟩ := id hN
  have hl : ∀ D, D < nd → IBl n np t D S := fun D hD => (hB D (by omega)).1 hD
  -- the model, from any store like S on its side
  have mm : ∀ {S' : xS} {Q : xQ}, (∀ k i j, 36 ≤ k → k ≤ 74 → S'.1 k i j = S.1 k i j) → (¬ okSail np nd S x p → Q (some (.inl (-2))) S') → (okSail np nd S x p → ¬ cThere S x.toNatClampNeg → Q (some (.inl (-3))) S') → (okSail np nd S x p → cThere S x.toNatClampNeg → mWay S (S.1 12 x.toNatClampNeg 0).toNatClampNeg p.toNatClampNeg (t / 30 % 12) = -1 → Q (some (.inl (-3))) S') → (okSail np nd S x p → cThere S x.toNatClampNeg → ¬ mWay S (S.1 12 x.toNatClampNeg 0).toNatClampNeg p.toNatClampNeg (t / 30 % 12) = -1 → Q (some (.inl (nI t + mWay S (S.1 12 x.toNatClampNeg 0).toNatClampNeg p.toNatClampNeg (t / 30 % 12)))) (xupd (xupd (tkM (knM S' (S.1 12 x.toNatClampNeg 0).toNatClampNeg) (S.1 12 x.toNatClampNeg 0).toNatClampNeg x.toNatClampNeg np) 43 0 x.toNatClampNeg p) 44 0 x.toNatClampNeg (nI t + mWay S (S.1 12 x.toNatClampNeg 0).toNatClampNeg p.toNatClampNeg (t / 30 % 12)))) → CT (dp + 5) 0 0 m_M_sail [M0, .inl x, .inl p] S' Q := by
    intro S' Q hS q1 q2 q3 q4
    have f8 : S'.1 36 0 8 = nI nd := (hS 36 0 8 (by decide) (by decide)).trans e4
    have f1 : S'.1 36 0 1 = nI np := (hS 36 0 1 (by decide) (by decide)).trans e2
    have f0 : S'.1 36 0 0 = nI t := (hS 36 0 0 (by decide) (by decide)).trans e14
    have f49 : ∀ D, S'.1 49 0 D = S.1 49 0 D := fun D => hS 49 0 D (by decide) (by decide)
    have f44 : ∀ D, S'.1 44 0 D = S.1 44 0 D := fun D => hS 44 0 D (by decide) (by decide)
    have f43 : ∀ D, S'.1 43 0 D = S.1 43 0 D := fun D => hS 43 0 D (by decide) (by decide)
    refine ct_of (xmok_all (by decide)) rfl (V_go (pc := 0) pk_137 [48] 40 ?_)
    refine cM_isDhow f8 (by omega) (fun hx => ?_) (fun q => ?_)
    · (repeat' first | (refine And.intro (fun q => absurd q (by decide)) (fun _ => ?_)) | (refine And.intro (fun _ => ?_) (fun q => absurd q (by decide))) | fail)
      refine cM_isPort f1 (by omega) (fun hp => ?_) (fun q => ?_)
      · (repeat' first | (refine And.intro (fun q => absurd q (by decide)) (fun _ => ?_)) | (refine And.intro (fun _ => ?_) (fun q => absurd q (by decide))) | fail)
        have hb := hl _ hx.lt
        have hx4 := hx.vp (N := 4) b2
        have rest : ¬ (cThere S x.toNatClampNeg ∧ S.1 12 x.toNatClampNeg 0 = p) → V (dp + 5) 0 0 m_M_sail 48 [some M0, some (.inl x), some (.inl p), none] [] S' Q := by
          intro nn
          have ok : okSail np nd S x p := ⟨hx, hp, nn⟩
          refine V_go pk_137 [] 60 ?_
          refine cM_isThere (hx.mono b2) (fun p1 p2 => ?_) (fun q => ?_)
          · (repeat' first | (refine And.intro (fun q => absurd q (by decide)) (fun _ => ?_)) | (refine And.intro (fun _ => ?_) (fun q => absurd q (by decide))) | fail)
            have th : cThere S x.toNatClampNeg := (there_eq hb b1).mp ⟨(f49 _).symm.trans p1, (f44 _).symm.trans p2⟩
            obtain ⟨hp12, ep⟩ := hb.P b1 th.1
            have e43 : S'.1 43 0 x.toNatClampNeg = S.1 12 x.toNatClampNeg 0 := (f43 _).trans ep
            obtain ⟨em, hm⟩ := mo_N (t := t) (by omega)
            have ew : mWay S' (S'.1 43 0 x.toNatClampNeg).toNatClampNeg p.toNatClampNeg (mo (S'.1 36 0 0)) = mWay S (S.1 12 x.toNatClampNeg 0).toNatClampNeg p.toNatClampNeg (t / 30 % 12) := by
              rw [e43, f0, em]
              unfold mWay
              simp only [fun j => hS 37 0 j (by decide) (by decide), fun j => hS 38 0 j (by decide) (by decide), fun j => hS 42 0 j (by decide) (by decide)]
            refine And.intro hx4 ?_
            refine ct_wayOf (by rw [e43]; exact hp12) (hp.mono b1) (by rw [f0]; exact hm) ?_
            refine And.intro (fun c => ?_) (fun c => ?_)
            · have c : ¬ mWay S' (S'.1 43 0 x.toNatClampNeg).toNatClampNeg p.toNatClampNeg (mo (S'.1 36 0 0)) = -1 := c
              rw [ew] at c
              refine ct_talk (D := x.toNatClampNeg) (P := (S.1 12 x.toNatClampNeg 0).toNatClampNeg) (np := np) hx.eq (by have := hx.lt; omega) hp12.lt (e43.trans hp12.eq) f1 b1 ?_
              refine And.intro hx4 ?_
              refine And.intro hx4 ?_
              refine And.intro hx4 ?_
              have k0 : (tkM (knM S' (S.1 12 x.toNatClampNeg 0).toNatClampNeg) (S.1 12 x.toNatClampNeg 0).toNatClampNeg x.toNatClampNeg np).1 36 0 0 = nI t := (tkk_kp S' _ _ np 36 0 0 (by decide) (by decide)).trans f0
              refine qi (q4 ok th c) ?_ ?_
              · show (xupd (xupd (tkM (knM S' (S.1 12 x.toNatClampNeg 0).toNatClampNeg) (S.1 12 x.toNatClampNeg 0).toNatClampNeg x.toNatClampNeg np) 43 0 x.toNatClampNeg p) 44 0 x.toNatClampNeg ((tkM (knM S' (S.1 12 x.toNatClampNeg 0).toNatClampNeg) (S.1 12 x.toNatClampNeg 0).toNatClampNeg x.toNatClampNeg np).1 36 0 0 + mWay S' (S'.1 43 0 x.toNatClampNeg).toNatClampNeg p.toNatClampNeg (mo (S'.1 36 0 0)))).1 44 0 x.toNatClampNeg = _
                rw [k0, ew]
                simp (decide := true) only [xu, true_and, false_and, and_true, and_false, if_true, if_false]
              · show xupd (xupd (tkM (knM S' (S.1 12 x.toNatClampNeg 0).toNatClampNeg) (S.1 12 x.toNatClampNeg 0).toNatClampNeg x.toNatClampNeg np) 43 0 x.toNatClampNeg p) 44 0 x.toNatClampNeg ((tkM (knM S' (S.1 12 x.toNatClampNeg 0).toNatClampNeg) (S.1 12 x.toNatClampNeg 0).toNatClampNeg x.toNatClampNeg np).1 36 0 0 + mWay S' (S'.1 43 0 x.toNatClampNeg).toNatClampNeg p.toNatClampNeg (mo (S'.1 36 0 0))) = _
                rw [k0, ew]
            · have c : mWay S' (S'.1 43 0 x.toNatClampNeg).toNatClampNeg p.toNatClampNeg (mo (S'.1 36 0 0)) = -1 := c
              rw [ew] at c
              exact q3 ok th c
          · (repeat' first | (refine And.intro (fun q => absurd q (by decide)) (fun _ => ?_)) | (refine And.intro (fun _ => ?_) (fun q => absurd q (by decide))) | fail)
            refine q2 ok (fun g => q ?_)
            have := (there_eq hb b1).mpr g
            exact ⟨(f49 _).trans this.1, (f44 _).trans this.2⟩
        refine And.intro hx4 ?_
        refine And.intro (fun c => rest (fun g => ?_)) (fun c1 => ?_)
        · have := (there_eq hb b1).mpr g.1
          exact c ((f49 _).trans this.1)
        · refine And.intro hx4 ?_
          refine And.intro (fun c => rest (fun g => ?_)) (fun c2 => ?_)
          · have := (there_eq hb b1).mpr g.1
            exact c ((f44 _).trans this.2)
          · have th : cThere S x.toNatClampNeg := (there_eq hb b1).mp ⟨(f49 _).symm.trans c1, (f44 _).symm.trans c2⟩
            have e43 : S'.1 43 0 x.toNatClampNeg = S.1 12 x.toNatClampNeg 0 := (f43 _).trans (hb.P b1 th.1).2
            refine And.intro hx4 ?_
            refine And.intro (fun c => rest (fun g => ?_)) (fun c3 => ?_)
            · exact c (e43.trans g.2)
            · exact q1 (fun g => g.2.2 ⟨th, e43.symm.trans c3⟩)
      · (repeat' first | (refine And.intro (fun q => absurd q (by decide)) (fun _ => ?_)) | (refine And.intro (fun _ => ?_) (fun q => absurd q (by decide))) | fail)
        exact q1 (fun g => q g.2.1)
    · (repeat' first | (refine And.intro (fun q => absurd q (by decide)) (fun _ => ?_)) | (refine And.intro (fun _ => ?_) (fun q => absurd q (by decide))) | fail)
      exact q1 (fun g => q g.1)
  have keep : IB n np nd t S ∧ IC np t S := ⟨hB, hC⟩
  have rf : ∀ k i j, 36 ≤ k → k ≤ 74 → S.1 k i j = S.1 k i j := fun _ _ _ _ _ => rfl
  refine ct_of (xmok_all (by decide)) rfl (V_go (pc := 0) pk_87 [47] 40 ?_)
  refine cC_isDhow e3 (by omega) (fun hx => ?_) (fun q => ?_)
  · (repeat' first | (refine And.intro (fun q => absurd q (by decide)) (fun _ => ?_)) | (refine And.intro (fun _ => ?_) (fun q => absurd q (by decide))) | fail)
    refine cC_hasPort e1 (by omega) (fun hp => ?_) (fun q => ?_)
    · (repeat' first | (refine And.intro (fun q => absurd q (by decide)) (fun _ => ?_)) | (refine And.intro (fun _ => ?_) (fun q => absurd q (by decide))) | fail)
      have hb := hl _ hx.lt
      refine And.intro (hx.vp b2) ?_
      have rest : ¬ (cThere S x.toNatClampNeg ∧ S.1 12 x.toNatClampNeg 0 = p) → V (dp + 5) 0 0 m_C_sail 47 [some C0, some (.inl x), some (.inl p), some (.inr (.inr (12, x.toNatClampNeg))), none] [] S (fun a S1 => CT (dp + 5) 0 0 m_M_sail [M0, .inl x, .inl p] S1 (fun a' S2 => a' = a ∧ (IB n np nd t S2 ∧ IC np t S2) ∧ Fr (fl [9, 10, 13000, 13001, 51, 52, 43, 44]) S S2)) := by
        intro nn
        have ok : okSail np nd S x p := ⟨hx, hp, nn⟩
        refine V_go pk_87 [] 60 ?_
        refine ct_inPort (fun p1 p2 => ?_) (fun q => ?_)
        · (repeat' first | (refine And.intro (fun q => absurd q (by decide)) (fun _ => ?_)) | (refine And.intro (fun _ => ?_) (fun q => absurd q (by decide))) | fail)
          have th : cThere S x.toNatClampNeg := ⟨p1, p2⟩
          obtain ⟨hp12, ep⟩ := hb.P b1 p1
          obtain ⟨em, hm⟩ := mo_N (t := t) (by omega)
          obtain ⟨P, hP, eP, -⟩ := there_P hb p1
          refine ct_crossing hp12 (hp.mono b1) (by show vp_in (S.1 0 0 13 / 30 - S.1 0 0 13 / 30 / 12 * 12) 12; rw [e13]; exact hm) ?_
          have ex : cCross S (S.1 12 x.toNatClampNeg 0).toNatClampNeg p.toNatClampNeg (mo (S.1 0 0 13)) = cCross S (S.1 12 x.toNatClampNeg 0).toNatClampNeg p.toNatClampNeg (t / 30 % 12) := by rw [e13, em]
          have wq := way_eq hA hp12.lt (hp.mono b1).lt (m := t / 30 % 12) (by omega)
          refine And.intro (fun c => ?_) (fun c => ?_)
          · have c : ¬ cCross S (S.1 12 x.toNatClampNeg 0).toNatClampNeg p.toNatClampNeg (mo (S.1 0 0 13)) = -1 := c
            rw [ex] at c
            obtain ⟨w, w1, w2, w3, w4⟩ := wq.resolve_left (fun g => c g.1)
            have eN : (S.1 12 x.toNatClampNeg 0).toNatClampNeg = P := by rw [eP]; exact nI_clamp (by omega)
            rw [eN] at w3 w4
            refine ct_exch (P := P) (by omega) eP ?_
            have fC := exC_fr S P x.toNatClampNeg
            have hoff : ∀ k i j, ¬ ((k = 9 ∨ k = 10) ∧ (i = P ∨ i = x.toNatClampNeg + 6)) → (exC S P x.toNatClampNeg).1 k i j = S.1 k i j := fun k i j h => exC_off h
            generalize hE : exC S P x.toNatClampNeg = E at fC hoff ⊢
            have k13 : E.1 0 0 13 = nI t := (fC.1 0 0 13 rfl).trans e13
            have eS1 : xupd (xupd E 12 x.toNatClampNeg 0 p) 12 x.toNatClampNeg 1 (E.1 0 0 13 + cCross S (S.1 12 x.toNatClampNeg 0).toNatClampNeg p.toNatClampNeg (mo (S.1 0 0 13))) = xupd (xupd E 12 x.toNatClampNeg 0 p) 12 x.toNatClampNeg 1 (nI (t + w)) := by rw [k13, ex, eN, w3, nI_add]
            show CT (dp + 5) 0 0 m_M_sail [M0, .inl x, .inl p] (xupd (xupd E 12 x.toNatClampNeg 0 p) 12 x.toNatClampNeg 1 (E.1 0 0 13 + cCross S (S.1 12 x.toNatClampNeg 0).toNatClampNeg p.toNatClampNeg (mo (S.1 0 0 13)))) (fun a' S2 => a' = some (.inl ((xupd (xupd E 12 x.toNatClampNeg 0 p) 12 x.toNatClampNeg 1 (E.1 0 0 13 + cCross S (S.1 12 x.toNatClampNeg 0).toNatClampNeg p.toNatClampNeg (mo (S.1 0 0 13)))).1 12 x.toNatClampNeg 1)) ∧ (IB n np nd t S2 ∧ IC np t S2) ∧ Fr (fl [9, 10, 13000, 13001, 51, 52, 43, 44]) S S2)
            rw [eS1]
            have hS1 : ∀ k i j, 36 ≤ k → k ≤ 74 → (xupd (xupd E 12 x.toNatClampNeg 0 p) 12 x.toNatClampNeg 1 (nI (t + w))).1 k i j = S.1 k i j := by
              intro k i j h1 h2
              rw [xu, if_neg (fun g => by have := g.1; omega), xu, if_neg (fun g => by have := g.1; omega)]
              exact hoff _ _ _ (fun g => by rcases g.1 with e | e <;> omega)
            refine mm hS1 (fun g => absurd ok g) (fun _ g => absurd th g) (fun _ _ g => ?_) (fun _ _ _ => ?_)
            · rw [eN, w4] at g
              have := congrArg Int32.toInt g
              rw [nI_toInt (by omega), show (-1 : Int32).toInt = -1 from rfl] at this
              omega
            · rw [eN, w4, nI_add]
              generalize hS1e : xupd (xupd E 12 x.toNatClampNeg 0 p) 12 x.toNatClampNeg 1 (nI (t + w)) = S1 at hS1 ⊢
              have f1 : Fr (fl [9, 10, 13000, 13001]) S S1 := by rw [← hS1e]; exact ((fC.wk (by decide)).up rfl).up rfl
              have f2 := tkk_fr S1 P x.toNatClampNeg np
              have hX4 : x.toNatClampNeg < 4 := by have := hx.lt; omega
              refine ⟨?_, ⟨?_, ?_⟩, ?_⟩
              · rw [← hS1e]
                simp (decide := true) only [xu, true_and, false_and, and_true, and_false, if_true, if_false]
              · have hs := hB.sail hx.lt (hb.2.1.elim (fun g => g.1) (fun g => absurd g.2.1 p1)) (p := p.toNatClampNeg) (c := t + w) hp.lt (by omega)
                rw [← hp.eq] at hs
                have fr : Fr (fl [9, 10, 51, 52]) (xupd (xupd (xupd (xupd S 12 x.toNatClampNeg 0 p) 12 x.toNatClampNeg 1 (nI (t + w))) 43 0 x.toNatClampNeg p) 44 0 x.toNatClampNeg (nI (t + w))) (xupd (xupd (tkM (knM S1 P) P x.toNatClampNeg np) 43 0 x.toNatClampNeg p) 44 0 x.toNatClampNeg (nI (t + w))) := by
                  refine ⟨fun k i j hf => ?_, ?_⟩
                  · rw [xu, xu, xu, xu]
                    by_cases c1 : k = 44 ∧ j = x.toNatClampNeg ∧ i = 0
                    · rw [if_pos c1, if_pos c1]
                    · rw [if_neg c1, if_neg c1]
                      by_cases c2 : k = 43 ∧ j = x.toNatClampNeg ∧ i = 0
                      · rw [if_pos c2, if_pos c2]
                      · rw [if_neg c2, if_neg c2, f2.1 k i j (by
                          cases hb : fl [51, 52] k j with
                          | false => rfl
                          | true =>
                            have hm : fk k j = 51 ∨ fk k j = 52 := by simpa using hb
                            rcases hm with e | e <;> (rw [show fl [9, 10, 51, 52] k j = true by show List.elem (fk k j) [9, 10, 51, 52] = true; rw [e]; rfl] at hf; cases hf)), ← hS1e, xu, xu, xu, xu]
                        by_cases c3 : k = 12 ∧ j = 1 ∧ i = x.toNatClampNeg
                        · rw [if_pos c3, if_pos c3]
                        · rw [if_neg c3, if_neg c3]
                          by_cases c4 : k = 12 ∧ j = 0 ∧ i = x.toNatClampNeg
                          · rw [if_pos c4, if_pos c4]
                          · rw [if_neg c4, if_neg c4]
                            exact hoff _ _ _ (fun g => by
                              rcases g.1 with e | e <;> (rw [e] at hf; cases hf))
                  · show (tkM (knM S1 P) P x.toNatClampNeg np).2 = S.2
                    rw [f2.2, f1.2]
                exact hs.fr fr (by decide)
              · have hmx : mix S S1 = S := mix_eq hS1 f1.2
                have key := IC.exch (S := S) (T := S1) (n := n) (np := np) (t := t) (P := P) (D := x.toNatClampNeg) (by rw [hmx]; exact hA) hn (by rw [hmx]; exact hC) hP b1 hX4 b6 e13 ((hS1 36 0 0 (by decide) (by decide)).trans e14)
                rw [hE] at key
                refine key.cong (fun a q => ?_) (fun a q => ?_) (fun q => rfl) (fun q => rfl)
                · show (tkM (knM S1 P) P x.toNatClampNeg np).1 9 a q = _
                  rw [f2.1 9 a q rfl, ← hS1e]; rfl
                · show (tkM (knM S1 P) P x.toNatClampNeg np).1 10 a q = _
                  rw [f2.1 10 a q rfl, ← hS1e]; rfl
              · exact (((f1.wk (by decide)).tr (f2.wk (by decide))).up rfl).up rfl
          · have c : cCross S (S.1 12 x.toNatClampNeg 0).toNatClampNeg p.toNatClampNeg (mo (S.1 0 0 13)) = -1 := c
            rw [ex] at c
            have w2 := wq.elim (fun g => g.2) (fun ⟨w, w1, w2, w3, w4⟩ => by
              rw [w3] at c
              have := congrArg Int32.toInt c
              rw [nI_toInt (by omega), show (-1 : Int32).toInt = -1 from rfl] at this
              omega)
            exact mm rf (fun g => absurd ok g) (fun _ g => absurd th g) (fun _ _ _ => ⟨rfl, keep, Fr.rf⟩) (fun _ _ g => absurd w2 g)
        · (repeat' first | (refine And.intro (fun q => absurd q (by decide)) (fun _ => ?_)) | (refine And.intro (fun _ => ?_) (fun q => absurd q (by decide))) | fail)
          exact mm rf (fun g => absurd ok g) (fun _ _ => ⟨rfl, keep, Fr.rf⟩) (fun _ g => absurd g q) (fun _ g => absurd g q)
      refine ct_inPort (fun p1 p2 => ?_) (fun q => ?_)
      · (repeat' first | (refine And.intro (fun q => absurd q (by decide)) (fun _ => ?_)) | (refine And.intro (fun _ => ?_) (fun q => absurd q (by decide))) | fail)
        refine And.intro (fun c => rest (fun g => c g.2)) (fun c => ?_)
        exact mm rf (fun _ => ⟨rfl, keep, Fr.rf⟩) (fun g => absurd ⟨⟨p1, p2⟩, c⟩ g.2.2) (fun g => absurd ⟨⟨p1, p2⟩, c⟩ g.2.2) (fun g => absurd ⟨⟨p1, p2⟩, c⟩ g.2.2)
      · (repeat' first | (refine And.intro (fun q => absurd q (by decide)) (fun _ => ?_)) | (refine And.intro (fun _ => ?_) (fun q => absurd q (by decide))) | fail)
        exact rest (fun g => q g.1)
    · (repeat' first | (refine And.intro (fun q => absurd q (by decide)) (fun _ => ?_)) | (refine And.intro (fun _ => ?_) (fun q => absurd q (by decide))) | fail)
      exact mm rf (fun _ => ⟨rfl, keep, Fr.rf⟩) (fun g => absurd g.2.1 q) (fun g => absurd g.2.1 q) (fun g => absurd g.2.1 q)
  · (repeat' first | (refine And.intro (fun q => absurd q (by decide)) (fun _ => ?_)) | (refine And.intro (fun _ => ?_) (fun q => absurd q (by decide))) | fail)
    exact mm rf (fun _ => ⟨rfl, keep, Fr.rf⟩) (fun g => absurd g.1 q) (fun g => absurd g.1 q) (fun g => absurd g.1 q)
