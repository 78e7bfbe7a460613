/-! text: the model's next -/
/-- the model has token i -/
def gTj (K : GT) (P : GP) (i : Nat) (S : xS) : Prop := S.1 36 0 41 = nI (P.1 (i + 1)) ∧ S.1 36 0 42 = nI (P.2 i) ∧ S.1 36 0 43 = gTm (K.1 i) ∧ (K.1 i = 2 → S.1 36 0 44 = nI (K.2 i))
abbrev fNx : List Nat := [37041, 37042, 37043, 37044]
theorem gTm_s {y : Nat} (h : 40 ≤ y ∧ y ≤ 61) : gTm y = nI y := by
  unfold gTm
  rw [if_neg (by omega), if_neg (by omega), if_pos (by omega)]
theorem ct_M_next {D n i : Nat} {b : Nat → Int32} {S : xS} {Q : xQ} (hB : gMb b n S) (hW : gMw S) (h2 : S.1 36 0 41 = nI ((gP b n).1 i)) (h : ∀ S', Fr (fl fNx) S S' → gTj (gK b n) (gP b n) i S' → Q none S') : CT (D + 2) 0 0 m_M_next [M0] S Q := by
  obtain ⟨e1, n160, eb, hr⟩ := id hB
  have hp := gPos_b (b := b) (n := n) i
  have h2 : S.1 36 0 41 = nI (gPos b n i) := h2
  have hk1 : (gK b n).1 i = gKd b n (gSt b n (gPos b n i)) := rfl
  have hk2 : (gK b n).2 i = gVl b n (gSt b n (gPos b n i)) := rfl
  have hp1 : (gP b n).1 (i + 1) = gEn b n (gSt b n (gPos b n i)) := rfl
  have hp2 : (gP b n).2 i = gSt b n (gPos b n i) := rfl
  unfold gTj at h
  rw [hk1, hk2, hp1, hp2] at h
  have hst := gSt_b (b := b) hp
  have rs : gSt b n (gPos b n i) = gRun gBl b (n - gPos b n i) (gPos b n i) := rfl
  generalize gSt b n (gPos b n i) = s at h hst rs
  generalize gPos b n i = p at h2 hp hst rs
  have hen := gEn_b (b := b) hst.2
  have leS := gLe_f hr s
  -- the end: at += n
  have fin : ∀ U c t, Fr (fl fNx) S U → U.1 36 0 41 = nI s → U.1 36 0 42 = nI s → U.1 36 0 43 = gTm (gKd b n s) → (gKd b n s = 2 → U.1 36 0 44 = nI (gVl b n s)) → s + t = gEn b n s → V (D + 2) 0 0 m_M_next 223 [some M0, some (.inl c), some (.inl (nI t))] [] U Q := by
    intro U c t fU u1 u2 u3 u4 ht
    refine V_go pk_162 [] 40 ?_
    refine h (xupd U 36 0 41 (U.1 36 0 41 + nI t)) (fU.up rfl) ⟨?_, u2, u3, u4⟩
    show U.1 36 0 41 + nI t = _
    rw [u1, nI_add, ht]
  have at39 : ∀ T, Fr (fl [37041]) S T → T.1 36 0 41 = nI s → V (D + 2) 0 0 m_M_next 39 [some M0, none, none] [] T Q := by
    intro T f g1
    have f' : Fr (fl fNx) S (xupd T 36 0 42 (T.1 36 0 41)) := (f.wk (by decide)).up rfl
    have x2 : (xupd T 36 0 42 (T.1 36 0 41)).1 36 0 42 = nI s := g1
    have x1 : (xupd T 36 0 42 (T.1 36 0 41)).1 36 0 41 = nI s := g1
    refine V_go pk_162 [47] 80 ?_
    have at47 : ∀ U, Fr (fl fNx) S U → U.1 36 0 41 = nI s → U.1 36 0 42 = nI s → V (D + 2) 0 0 m_M_next 47 [some M0, none, none] [] U Q := by
      intro U fU u1 u2
      have bU := hB.fr fU (by decide)
      have wU := hW.fr fU (by decide)
      refine V_go pk_162 [58, 77, 127, 223] 60 ?_
      show CT (D + 1) 0 0 m_M_letter [M0, .inl (U.1 36 0 41)] U _
      rw [u1]
      refine ct_letter bU (by omega) ?_
      refine V_go pk_162 [77, 127, 223] 60 ?_
      refine And.intro (fun z => ?_) (fun z => ?_)
      · have z : ¬ gLe b n s < 0 := Int32.not_lt.mpr z
        have sn : s < n := Nat.not_le.mp (fun y => z (leS.1.mpr y))
        have c : ¬ n ≤ s := by omega
        refine ct_mLetter (fun d => ?_) (fun d => ?_)
        · have d := (leS.2.2.1.mp d).2
          have ek : gKd b n s = gWk b s (gRun gLt b (n - s) s) 12 := by unfold gKd; rw [if_neg c, if_pos d]
          have ee : gEn b n s = gRun gLt b (n - s) s := by unfold gEn; rw [if_neg c, if_pos d]
          (repeat' first | (refine And.intro (fun q => absurd q (by decide)) (fun _ => ?_)) | (refine And.intro (fun _ => ?_) (fun q => absurd q (by decide))) | fail)
          have loop : ∀ k t, s + t + k = n → gRun gLt b k (s + t) = gRun gLt b (n - s) s → V (D + 2) 0 0 m_M_next 77 [some M0, some (.inl (gLe b n s)), some (.inl (nI t))] [] U Q := by
            intro k
            have done : ∀ t, s + t ≤ n → s + t = gRun gLt b (n - s) s → ¬ (97 ≤ gLe b n (s + t) ∧ gLe b n (s + t) ≤ 122) → V (D + 2) 0 0 m_M_next 77 [some M0, some (.inl (gLe b n s)), some (.inl (nI t))] [] U Q := by
              intro t htn he hn
              refine V_go pk_162 [77, 223] 60 ?_
              show CT (D + 1) 0 0 m_M_letter [M0, .inl (U.1 36 0 41 + nI t)] U _
              rw [u1, nI_add]
              refine ct_letter bU (by omega) ?_
              refine ct_mLetter (fun d => absurd d hn) (fun _ => ?_)
              (repeat' first | (refine And.intro (fun q => absurd q (by decide)) (fun _ => ?_)) | (refine And.intro (fun _ => ?_) (fun q => absurd q (by decide))) | fail)
              show CT (D + 1) 0 0 m_M_wordAt [M0, .inl (U.1 36 0 41), .inl (nI t)] U _
              rw [u1, show t = gRun gLt b (n - s) s - s by omega]
              refine ct_wordAt (n := n) bU wU (by omega) (by omega) (fun q hq => gRun_all (n - s) s q hq) ?_
              refine fin (xupd U 36 0 43 (gTm (gWk b s (gRun gLt b (n - s) s) 12))) _ _ (fU.up rfl) u1 u2 (by rw [ek]; rfl) (fun y => ?_) (by rw [ee]; omega)
              rw [ek] at y
              rcases gWk_b b s (gRun gLt b (n - s) s) 12 (Nat.le_refl _) with q | q <;> omega
            induction k with
            | zero =>
              intro t ht hrn
              exact done t (by omega) hrn (fun y => by have := (((gLe_f hr (s + t)).2.2.1).mp y).1; omega)
            | succ k ih =>
              intro t ht hrn
              have hr2 : (if gLt (b (s + t)) = true then gRun gLt b k (s + t + 1) else s + t) = gRun gLt b (n - s) s := hrn
              by_cases dd : gLt (b (s + t)) = true
              · rw [if_pos dd] at hr2
                have ih := ih (t + 1) (by omega) (by rw [show s + (t + 1) = s + t + 1 by omega]; exact hr2)
                rw [← nI_1] at ih
                refine V_go pk_162 [77, 223] 60 ?_
                show CT (D + 1) 0 0 m_M_letter [M0, .inl (U.1 36 0 41 + nI t)] U _
                rw [u1, nI_add]
                refine ct_letter bU (by omega) ?_
                refine ct_mLetter (fun _ => ?_) (fun q => absurd (((gLe_f hr (s + t)).2.2.1).mpr ⟨by omega, dd⟩) q)
                (repeat' first | (refine And.intro (fun q => absurd q (by decide)) (fun _ => ?_)) | (refine And.intro (fun _ => ?_) (fun q => absurd q (by decide))) | fail)
                exact ih
              · rw [if_neg dd] at hr2
                exact done t (by omega) hr2 (fun y => dd ((((gLe_f hr (s + t)).2.2.1).mp y).2))
          exact loop (n - s) 0 (by omega) rfl
        · have d : ¬ gLt (b s) = true := fun y => d (leS.2.2.1.mpr ⟨sn, y⟩)
          (repeat' first | (refine And.intro (fun q => absurd q (by decide)) (fun _ => ?_)) | (refine And.intro (fun _ => ?_) (fun q => absurd q (by decide))) | fail)
          refine ct_mDigit (fun d2 => ?_) (fun d2 => ?_)
          · have d2 := (leS.2.2.2.mp d2).2
            have ek : gKd b n s = if 4 < gRun gDg b (n - s) s - s then 1 else 2 := by unfold gKd; rw [if_neg c, if_neg d, if_pos d2]
            have ee : gEn b n s = gRun gDg b (n - s) s := by unfold gEn; rw [if_neg c, if_neg d, if_pos d2]
            have ge := gRun_ge gDg b (n - s) s
            (repeat' first | (refine And.intro (fun q => absurd q (by decide)) (fun _ => ?_)) | (refine And.intro (fun _ => ?_) (fun q => absurd q (by decide))) | fail)
            have done : ∀ T t, Fr (fl fNx) S T → T.1 36 0 41 = nI s → T.1 36 0 42 = nI s → T.1 36 0 44 = nI (gNv b s (min 4 t)) → s + t ≤ n → s + t = gRun gDg b (n - s) s → ¬ (48 ≤ gLe b n (s + t) ∧ gLe b n (s + t) ≤ 57) → V (D + 2) 0 0 m_M_next 127 [some M0, some (.inl (gLe b n s)), some (.inl (nI t))] [] T Q := by
              intro T t fT t1 t2 t4 htn he hn
              have bT := hB.fr fT (by decide)
              have fin := fun x (hx : x = gTm (gKd b n s)) => fin (xupd T 36 0 43 x) (gLe b n s) t (fT.up rfl) t1 t2 hx (fun _ => t4.trans (by unfold gVl; rw [← he, show s + t - s = t by omega])) (by rw [ee]; omega)
              rw [ek, ← he, show s + t - s = t by omega] at fin
              refine V_go pk_162 [127, 223] 60 ?_
              show CT (D + 1) 0 0 m_M_letter [M0, .inl (T.1 36 0 41 + nI t)] T _
              rw [t1, nI_add]
              refine ct_letter bT (by omega) ?_
              refine ct_mDigit (fun d => absurd d hn) (fun _ => ?_)
              (repeat' first | (refine And.intro (fun q => absurd q (by decide)) (fun _ => ?_)) | (refine And.intro (fun _ => ?_) (fun q => absurd q (by decide))) | fail)
              refine And.intro (fun y => ?_) (fun y => ?_)
              · have y := (nI_leI (b := 4) (by omega) (by omega)).mp y
                exact fin 200 (by rw [if_neg (by omega)]; rfl)
              · have y : 4 < t := Nat.not_le.mp (fun g => y (nI_le (b := 4) g (by omega)))
                exact fin (-1) (by rw [if_pos y]; rfl)
            have loop : ∀ k t, s + t + k = n → gRun gDg b k (s + t) = gRun gDg b (n - s) s → (∀ q, q < t → gDg (b (s + q)) = true) → ∀ T, Fr (fl fNx) S T → T.1 36 0 41 = nI s → T.1 36 0 42 = nI s → T.1 36 0 44 = nI (gNv b s (min 4 t)) → V (D + 2) 0 0 m_M_next 127 [some M0, some (.inl (gLe b n s)), some (.inl (nI t))] [] T Q := by
              intro k
              induction k with
              | zero =>
                intro t ht hrn _ T fT t1 t2 t4
                exact done T t fT t1 t2 t4 (by omega) hrn (fun y => by have := (((gLe_f hr (s + t)).2.2.2).mp y).1; omega)
              | succ k ih =>
                intro t ht hrn hd T fT t1 t2 t4
                have hr2 : (if gDg (b (s + t)) = true then gRun gDg b k (s + t + 1) else s + t) = gRun gDg b (n - s) s := hrn
                by_cases dd : gDg (b (s + t)) = true
                · rw [if_pos dd] at hr2
                  have hd2 : ∀ q, q < t + 1 → gDg (b (s + q)) = true := fun q hq => by
                    by_cases c : q = t
                    · rw [c]; exact dd
                    · exact hd q (by omega)
                  have ih := fun T a1 a2 a3 a4 => ih (t + 1) (by omega) (by rw [show s + (t + 1) = s + t + 1 by omega]; exact hr2) hd2 T a1 a2 a3 a4
                  rw [← nI_1] at ih
                  have bT := hB.fr fT (by decide)
                  obtain ⟨kk, k1, k2, ek2⟩ := gDg_N dd
                  have lv : gLe b n (s + t) = nI kk := by
                    rw [gLe_p hr (by omega) (by rw [ek2]; exact nI_pos' (by omega)), ek2]
                  have vb := gNv_b (b := b) (s := s) (min 4 t) (fun q hq => hd q (by omega))
                  have vb2 : 10 ^ (min 4 t) ≤ 10 ^ 4 := Nat.pow_le_pow_right (by decide) (by omega)
                  refine V_go pk_162 [127, 223] 80 ?_
                  show CT (D + 1) 0 0 m_M_letter [M0, .inl (T.1 36 0 41 + nI t)] T _
                  rw [t1, nI_add]
                  refine ct_letter bT (by omega) ?_
                  refine ct_mDigit (fun _ => ?_) (fun q => absurd (((gLe_f hr (s + t)).2.2.2).mpr ⟨by omega, dd⟩) q)
                  (repeat' first | (refine And.intro (fun q => absurd q (by decide)) (fun _ => ?_)) | (refine And.intro (fun _ => ?_) (fun q => absurd q (by decide))) | fail)
                  refine And.intro (fun y => ?_) (fun y => ?_)
                  · have y := (nI_leI (a := 4) (by omega) (by omega)).mp y
                    refine ih (xupd T 36 0 44 (T.1 36 0 44)) (fT.up rfl) t1 t2 ?_
                    show T.1 36 0 44 = _
                    rw [t4, show min 4 t = 4 by omega, show min 4 (t + 1) = 4 by omega]
                  · have y : t < 4 := Nat.not_le.mp (fun g => y (nI_le (a := 4) g (by omega)))
                    show CT (D + 1) 0 0 m_M_letter [M0, .inl (T.1 36 0 41 + nI t)] T _
                    rw [t1, nI_add]
                    refine ct_letter bT (by omega) ?_
                    refine ih (xupd T 36 0 44 (10 * T.1 36 0 44 + gLe b n (s + t) - 48)) (fT.up rfl) t1 t2 ?_
                    show nI 10 * T.1 36 0 44 + gLe b n (s + t) - nI 48 = _
                    rw [t4, show min 4 (t + 1) = min 4 t + 1 by omega, lv]
                    show nI 10 * nI (gNv b s (min 4 t)) + nI kk - nI 48 = nI (gNv b s (min 4 t) * 10 + ((b (s + min 4 t)).toNatClampNeg - 48))
                    rw [show s + min 4 t = s + t by omega, ek2, nI_clamp (by omega), nI_mul, nI_add, nI_sb (by omega) (by omega)]
                    congr 1
                    omega
                · rw [if_neg dd] at hr2
                  exact done T t fT t1 t2 t4 (by omega) hr2 (fun y => dd ((((gLe_f hr (s + t)).2.2.2).mp y).2))
            exact loop (n - s) 0 (by omega) rfl (fun q h => absurd h (Nat.not_lt_zero _)) (xupd U 36 0 44 0) (fU.up rfl) u1 u2 rfl
          · have d2 : ¬ gDg (b s) = true := fun y => d2 (leS.2.2.2.mpr ⟨sn, y⟩)
            have ek : gKd b n s = gSg (b s) := by unfold gKd; rw [if_neg c, if_neg d, if_neg d2]
            have ee : gEn b n s = s + 1 := by unfold gEn; rw [if_neg c, if_neg d, if_neg d2]
            obtain ⟨k, ekk⟩ := by_x (hr s sn)
            have sg : gS8 (gLe b n s) ↔ (0 < b s ∧ (b s).toNatClampNeg ∈ sgs) := by
              have e : gLe b n s = b s &&& 255 := if_pos sn
              rw [e, ekk]; exact (by_f k).2.2.2.2.2
            have n2 : gKd b n s = 2 → False := fun y => by
              rw [ek] at y
              rcases gSg_b (b s) with q | q <;> omega
            have fin := fun x (hx : x = gTm (gKd b n s)) => fin (xupd U 36 0 43 x) (gLe b n s) 1 (fU.up rfl) u1 u2 hx (fun y => (n2 y).elim) (by rw [ee])
            rw [ek] at fin
            (repeat' first | (refine And.intro (fun q => absurd q (by decide)) (fun _ => ?_)) | (refine And.intro (fun _ => ?_) (fun q => absurd q (by decide))) | fail)
            refine ct_mSign (fun y => ?_) (fun y => ?_)
            · have y := sg.mp y
              (repeat' first | (refine And.intro (fun q => absurd q (by decide)) (fun _ => ?_)) | (refine And.intro (fun _ => ?_) (fun q => absurd q (by decide))) | fail)
              refine fin (gLe b n s) ?_
              have e1 : gSg (b s) = (b s).toNatClampNeg := if_pos y
              rw [gLe_p hr sn (Int32.le_of_lt y.1), gTm_s ((gSg_b (b s)).resolve_left (fun q => by
                rw [e1] at q
                have := y.2
                rw [q] at this
                exact absurd this (by decide))), e1]
              obtain ⟨m, hm, em⟩ := nI_ex (Int32.le_of_lt y.1)
              rw [em, nI_clamp hm]
            · (repeat' first | (refine And.intro (fun q => absurd q (by decide)) (fun _ => ?_)) | (refine And.intro (fun _ => ?_) (fun q => absurd q (by decide))) | fail)
              refine fin (-1) ?_
              have e1 : gSg (b s) = 1 := if_neg (fun q => y (sg.mpr q))
              rw [e1]; rfl
      · have z : gLe b n s < 0 := Int32.not_le.mp z
        have c := leS.1.mp z
        have ek : gKd b n s = 0 := by unfold gKd; rw [if_pos c]
        have ee : gEn b n s = s := by unfold gEn; rw [if_pos c]
        exact fin (xupd U 36 0 43 0) _ 0 (fU.up rfl) u1 u2 (by rw [ek]; rfl) (fun y => by rw [ek] at y; cases y) (by rw [ee]; omega)
    exact at47 _ f' x1 x2
  have loop : ∀ k q, q + k = n → ∀ T, gRun gBl b k q = s → Fr (fl [37041]) S T → T.1 36 0 41 = nI q → V (D + 2) 0 0 m_M_next 0 [some M0, none, none] [] T Q := by
    intro k
    have done : ∀ T q, q ≤ n → ¬ (gLe b n q = 32 ∨ gLe b n q = 10) → q = s → Fr (fl [37041]) S T → T.1 36 0 41 = nI q → V (D + 2) 0 0 m_M_next 0 [some M0, none, none] [] T Q := by
      intro T q hqn hn hqs f g1
      have bT := hB.fr f (by decide)
      have a39 := at39 T f (by rw [← hqs]; exact g1)
      refine V_go pk_162 [39] 60 ?_
      show CT (D + 1) 0 0 m_M_letter [M0, .inl (T.1 36 0 41)] T _
      rw [g1]
      refine ct_letter bT (by omega) ?_
      refine And.intro (fun y => absurd (Or.inl y) hn) (fun _ => ?_)
      show CT (D + 1) 0 0 m_M_letter [M0, .inl (T.1 36 0 41)] T _
      rw [g1]
      refine ct_letter bT (by omega) ?_
      exact And.intro (fun _ => a39) (fun y => absurd (Or.inr y) hn)
    induction k with
    | zero =>
      intro q hq T hrn f g1
      exact done T q (by omega) (fun y => by have := (((gLe_f hr q).2.1).mp y).1; omega) hrn f g1
    | succ k ih =>
      intro q hq T hrn f g1
      have hr2 : (if gBl (b q) = true then gRun gBl b k (q + 1) else q) = s := hrn
      by_cases dd : gBl (b q) = true
      · rw [if_pos dd] at hr2
        have bT := hB.fr f (by decide)
        have ih := ih (q + 1) (by omega) (xupd T 36 0 41 (T.1 36 0 41 + 1)) hr2 (f.up rfl) (by show T.1 36 0 41 + 1 = _; rw [g1, nI_1])
        have hy := ((gLe_f hr q).2.1).mpr ⟨by omega, dd⟩
        refine V_go pk_162 [0, 39] 60 ?_
        show CT (D + 1) 0 0 m_M_letter [M0, .inl (T.1 36 0 41)] T _
        rw [g1]
        refine ct_letter bT (by omega) ?_
        refine And.intro (fun _ => ih) (fun y => ?_)
        show CT (D + 1) 0 0 m_M_letter [M0, .inl (T.1 36 0 41)] T _
        rw [g1]
        refine ct_letter bT (by omega) ?_
        exact And.intro (fun y2 => (hy.elim y y2).elim) (fun _ => ih)
      · rw [if_neg dd] at hr2
        exact done T q (by omega) (fun y => dd ((((gLe_f hr q).2.1).mp y).2)) hr2 f g1
  refine ct_of (xmok_all (by decide)) rfl ?_
  exact loop (n - p) p (by omega) S rs.symm Fr.rf h2
