/-! text: the class's signs and words -/
theorem sgs_b : ∀ y ∈ sgs, y < 128 := by decide
theorem ct_takeSign {D n s : Nat} {b : Nat → Int32} {S : xS} {Q : xQ} (hS : gStr S) (hB : gBy b n S) (hr : -128 ≤ b s ∧ b s ≤ 127) (hs : s < n) (h2 : S.1 23 0 2 = nI s) (h : ∀ S', Fr (fl [24002, 24003]) S S' → S'.1 23 0 2 = nI (s + 1) → S'.1 23 0 3 = nI (gSg (b s)) → Q none S') : CT (D + 5) 0 0 m_Tokens_takeSign [K0v] S Q := by
  obtain ⟨e1, n160, eb⟩ := id hB
  have eq : (S.1 23 0 2).toNatClampNeg = s := by rw [h2]; exact nI_clamp (by omega)
  have vq : vp_in (S.1 23 0 2) 160 := by rw [h2]; exact vi (N := 160) (by omega)
  have fin : ∀ x : Int32, x = nI (gSg (b s)) → Q none (xupd (xupd S 23 0 3 x) 23 0 2 (S.1 23 0 2 + 1)) := fun x hx => h _ ((Fr.rf.up rfl).up rfl) (by show S.1 23 0 2 + 1 = _; rw [h2, nI_1]) hx
  refine ct_of (xmok_all (by decide)) rfl (V_go (pc := 0) pk_61 [] 60 ?_)
  refine And.intro vq ?_
  rw [eq, eb s hs]
  refine And.intro (fun z => ?_) (fun z => ?_)
  · refine fin 1 ?_
    unfold gSg
    rw [if_neg (fun g => absurd z (Int32.not_le.mpr g.1))]
    rfl
  · have z : 0 < b s := Int32.not_le.mp z
    obtain ⟨k, hk, e⟩ := nI_of2 (M := nI 127) (n := 127) (nI_toInt (by decide)) (fun g => Int32.lt_irrefl (Int32.lt_trans z g)) hr.2
    have ck : (b s).toNatClampNeg = k := by rw [e]; exact nI_clamp (by omega)
    have c4 := (ch_id ⟨k, by omega⟩).2.2.2
    have c4 : ((b s).toUInt32 % 65536).toInt32 = nI k := by rw [e]; exact c4
    show CT (D + 4) 0 0 m_String_indexOf [.inr (.inr (75, 2)), .inl ((b s).toUInt32 % 65536).toInt32] S _
    rw [c4]
    refine ct_indexOf hS (by omega) (fun hm r hr0 => ?_) (fun hm => ?_)
    · refine And.intro (fun y => absurd hr0 (Int32.not_le.mpr y)) (fun _ => ?_)
      refine fin (b s) ?_
      unfold gSg
      rw [ck, if_pos ⟨z, hm⟩, e]
    · (repeat' first | (refine And.intro (fun q => absurd q (by decide)) (fun _ => ?_)) | (refine And.intro (fun _ => ?_) (fun q => absurd q (by decide))) | fail)
      refine fin 1 ?_
      unfold gSg
      rw [ck, if_neg (fun g => hm g.2)]
      rfl
theorem ct_takeWord (hX : CIX) {D n s : Nat} {b : Nat → Int32} {S : xS} {Q : xQ} (hS : gStr S) (hB : gBy b n S) (hs : s < n) (h2 : S.1 23 0 2 = nI s) (h4 : S.1 23 0 4 = nI s) (h : ∀ S', Fr (fl [24002, 24003]) S S' → S'.1 23 0 2 = nI (gRun gLt b (n - s) s) → S'.1 23 0 3 = nI (gWk b s (gRun gLt b (n - s) s) 12) → Q none S') : CT (D + 4) 0 0 m_Tokens_takeWord [K0v] S Q := by
  obtain ⟨e1, n160, eb⟩ := id hB
  obtain ⟨⟨s1, _⟩, ⟨s2, _⟩, s3, _⟩ := id hS
  have ge := gRun_ge gLt b (n - s) s
  -- the words
  have words : ∀ e, e = gRun gLt b (n - s) s → ∀ T, Fr (fl [24002, 24003]) S T → T.1 23 0 2 = nI e → T.1 23 0 3 = 1 → V (D + 4) 0 0 m_Tokens_takeWord 56 [some K0v, some (.inl (nI 0)), some (.inl (nI s)), some (.inl 1), some (.inl (nI 0)), none] [] T Q := by
    intro e he T fT t2 t3
    have hseg : ∀ m w, w + m = 12 → ∀ T, Fr (fl [24002, 24003]) S T → T.1 23 0 2 = nI e → T.1 23 0 3 = nI (gWk b s e w) → ∀ o5 : Option Int32, V (D + 4) 0 0 m_Tokens_takeWord 56 [some K0v, some (.inl (nI w)), some (.inl (nI s)), some (.inl 1), some (.inl (nI (gOw w))), oI o5] [] T Q := by
      intro m
      induction m with
      | zero =>
        intro w hw T fT t2 t3 o5
        obtain rfl : w = 12 := by omega
        have hST := hS.fr fT (by decide)
        rcases o5 with _ | o5
        all_goals (
          refine V_go pk_58 [56] 60 ?_
          refine ct_strlen (D := D + 2) (n := 57) (by decide) hST.1.1 hST.2.1.1 ?_
          refine And.intro (fun _ => h T fT (by rw [← he]; exact t2) (by rw [← he]; exact t3)) (fun q => absurd (Int32.le_refl (nI 57)) q))
      | succ m ih =>
        intro w hw T fT t2 t3 o5
        have ih := ih (w + 1) (by omega)
        obtain ⟨f1, f2, f3, f4⟩ := gW_f ⟨w, by omega⟩
        have f1 : gOw (w + 1) = gOw w + gLw w + 1 := f1
        have f2 : gCw (gOw w + gLw w) = 32 := f2
        have f3 : gLw w ≤ 5 := f3
        have f5 := gW_o ⟨w + 1, by omega⟩
        have f5 : gOw (w + 1) ≤ 57 := f5
        have hST := hS.fr fT (by decide)
        have t4 : T.1 23 0 4 = nI s := (fT.1 23 0 4 rfl).trans h4
        have tb : ∀ j, j < n → T.1 24 0 j = b j := fun j hj => (fT.1 24 0 j rfl).trans (eb j hj)
        have letters : ∀ k t, t + k = gLw w → ∀ o5 : Option Int32, V (D + 4) 0 0 m_Tokens_takeWord 56 [some K0v, some (.inl (nI w)), some (.inl (nI (s + t))), some (.inl (if gPm b s e w t = true then 1 else 0)), some (.inl (nI (gOw w + t))), oI o5] [] T Q := by
          intro k
          induction k with
          | zero =>
            intro t ht o5
            obtain rfl : t = gLw w := by omega
            have cc : T.1 76 1 (gOw w + gLw w) = nI 32 := by rw [hST.2.2.1 _ (by omega)]; exact congrArg nI f2
            have hw1 : gWk b s e (w + 1) = if gMt b s e w = true then 128 + w else gWk b s e w := rfl
            have go : ∀ T2 o5, Fr (fl [24002, 24003]) S T2 → T2.1 23 0 2 = nI e → T2.1 23 0 3 = nI (gWk b s e (w + 1)) → V (D + 4) 0 0 m_Tokens_takeWord 56 [some K0v, some (.inl (nI w + 1)), some (.inl (nI s)), some (.inl 1), some (.inl (nI (gOw w + gLw w) + 1)), oI o5] [] T2 Q := by
              intro T2 o5 q1 q2 q3
              have g := ih T2 q1 q2 q3 o5
              rw [f1, show nI (w + 1) = nI w + 1 from (nI_1 _).symm, show nI (gOw w + gLw w + 1) = nI (gOw w + gLw w) + 1 from (nI_1 _).symm] at g
              exact g
            rcases o5 with _ | o5
            all_goals (
              refine V_go pk_58 [56, 138] 80 ?_
              refine ct_strlen (D := D + 2) (n := 57) (by decide) hST.1.1 hST.2.1.1 ?_
              refine And.intro (fun q => absurd ((nI_leI (a := 57) (by omega) (by omega)).mp q) (by omega)) (fun _ => ?_)
              refine ct_charAt hX (D := D) (n := 57) (k := 32) (by decide) (by omega) (by decide) hST.1.1 hST.2.1.1 cc ?_
              (repeat' first | (refine And.intro (fun q => absurd q (by decide)) (fun _ => ?_)) | (refine And.intro (fun _ => ?_) (fun q => absurd q (by decide))) | fail)
              have at138 : ∀ T2, Fr (fl [24002, 24003]) S T2 → T2.1 23 0 2 = nI e → T2.1 23 0 3 = nI (gWk b s e (w + 1)) → ∀ l3, V (D + 4) 0 0 m_Tokens_takeWord 138 [some K0v, some (.inl (nI w)), some (.inl (nI (s + gLw w))), l3, some (.inl (nI (gOw w + gLw w))), some (.inl (nI 32))] [] T2 Q := by
                intro T2 q1 q2 q3 l3
                have q4 : T2.1 23 0 4 = nI s := (q1.1 23 0 4 rfl).trans h4
                refine V_go pk_58 [56] 80 ?_
                show V (D + 4) 0 0 m_Tokens_takeWord 56 [some K0v, some (.inl (nI w + 1)), some (.inl (T2.1 23 0 4)), some (.inl 1), some (.inl (nI (gOw w + gLw w) + 1)), some (.inl (nI 32))] [] T2 Q
                rw [q4]
                exact go T2 (some (nI 32)) q1 q2 q3
              cases hz : gPm b s e w (gLw w) with
              | false =>
                rw [if_neg (by decide)]
                (repeat' first | (refine And.intro (fun q => absurd q (by decide)) (fun _ => ?_)) | (refine And.intro (fun _ => ?_) (fun q => absurd q (by decide))) | fail)
                refine at138 T fT t2 ?_ _
                rw [hw1, if_neg (by unfold gMt; rw [hz, Bool.false_and]; decide)]
                exact t3
              | true =>
                rw [if_pos rfl]
                (repeat' first | (refine And.intro (fun q => absurd q (by decide)) (fun _ => ?_)) | (refine And.intro (fun _ => ?_) (fun q => absurd q (by decide))) | fail)
                refine And.intro (fun q => ?_) (fun q => ?_)
                · have q : ¬ nI (s + gLw w) = T.1 23 0 2 := q
                  rw [t2] at q
                  refine at138 T fT t2 ?_ _
                  rw [hw1, if_neg (by unfold gMt; rw [hz, decide_eq_false (fun z => q (by rw [z]))]; decide)]
                  exact t3
                · have q : nI (s + gLw w) = T.1 23 0 2 := q
                  rw [t2] at q
                  have q := (nI_eq (by omega) (by omega)).mp q
                  refine at138 (xupd T 23 0 3 (128 + nI w)) (fT.up rfl) t2 ?_ _
                  rw [hw1, if_pos (by unfold gMt; rw [hz, decide_eq_true q]; rfl), ← nI_add]
                  rfl)
          | succ k ihk =>
            intro t ht o5
            have ihk := ihk (t + 1) (by omega)
            have nb : ¬ gCw (gOw w + t) = 32 := gW_l ⟨w, by omega⟩ ⟨t, by omega⟩ (by show t < gLw w; omega)
            have lb : gCw (gOw w + t) < 128 := gW_c ⟨gOw w + t, by omega⟩
            have cc : T.1 76 1 (gOw w + t) = nI (gCw (gOw w + t)) := hST.2.2.1 _ (by omega)
            have hp1 : gPm b s e w (t + 1) = (gPm b s e w t && (decide (s + t < e) && decide (b (s + t) = nI (gCw (gOw w + t))))) := rfl
            rw [hp1, show nI (s + (t + 1)) = nI (s + t) + 1 from (nI_1 _).symm, show nI (gOw w + (t + 1)) = nI (gOw w + t) + 1 from (nI_1 _).symm] at ihk
            rcases o5 with _ | o5
            all_goals (
              refine V_go pk_58 [56] 80 ?_
              refine ct_strlen (D := D + 2) (n := 57) (by decide) hST.1.1 hST.2.1.1 ?_
              refine And.intro (fun q => absurd ((nI_leI (a := 57) (by omega) (by omega)).mp q) (by omega)) (fun _ => ?_)
              refine ct_charAt hX (D := D) (n := 57) (k := gCw (gOw w + t)) (by decide) (by omega) lb hST.1.1 hST.2.1.1 cc ?_
              refine And.intro (fun q => absurd ((nI_eq (b := 32) (by omega) (by omega)).mp q) nb) (fun _ => ?_)
              have ihk := ihk (some (nI (gCw (gOw w + t))))
              cases hz : gPm b s e w t with
              | false =>
                rw [hz] at ihk
                rw [if_neg (by decide)]
                (repeat' first | (refine And.intro (fun q => absurd q (by decide)) (fun _ => ?_)) | (refine And.intro (fun _ => ?_) (fun q => absurd q (by decide))) | fail)
                exact ihk
              | true =>
                rw [hz, Bool.true_and] at ihk
                rw [if_pos rfl]
                (repeat' first | (refine And.intro (fun q => absurd q (by decide)) (fun _ => ?_)) | (refine And.intro (fun _ => ?_) (fun q => absurd q (by decide))) | fail)
                refine And.intro (fun q => ?_) (fun q => ?_)
                · have q : T.1 23 0 2 ≤ nI (s + t) := q
                  rw [t2] at q
                  have q := (nI_leI (by omega) (by omega)).mp q
                  rw [decide_eq_false (show ¬ s + t < e by omega)] at ihk
                  exact ihk
                · have q : ¬ T.1 23 0 2 ≤ nI (s + t) := q
                  rw [t2] at q
                  have q : s + t < e := Nat.not_le.mp (fun y => q (nI_le y (by omega)))
                  rw [decide_eq_true q, Bool.true_and] at ihk
                  refine And.intro (vi (N := 160) (by omega)) ?_
                  rw [nI_clamp (show s + t < 2 ^ 31 by omega), tb _ (by omega)]
                  refine And.intro (fun q2 => ?_) (fun q2 => ?_)
                  · rw [decide_eq_false q2] at ihk
                    exact ihk
                  · rw [decide_eq_true q2] at ihk
                    exact ihk)
        have g := letters (gLw w) 0 (by omega) o5
        exact g
    exact hseg 12 0 (by omega) T fT t2 t3 none
  have at39 : ∀ T e, e = gRun gLt b (n - s) s → Fr (fl [24002]) S T → T.1 23 0 2 = nI e → V (D + 4) 0 0 m_Tokens_takeWord 39 [some K0v, none, none, none, none, none] [] T Q := by
    intro T e he f t2
    have t4 : T.1 23 0 4 = nI s := (f.1 23 0 4 rfl).trans h4
    have g := words e he (xupd T 23 0 3 1) ((f.wk (by decide)).up rfl) t2 rfl
    refine V_go pk_58 [56] 60 ?_
    show V (D + 4) 0 0 m_Tokens_takeWord 56 [some K0v, some (.inl (nI 0)), some (.inl (T.1 23 0 4)), some (.inl 1), some (.inl (nI 0)), none] [] (xupd T 23 0 3 1) Q
    rw [t4]
    exact g
  have loop : ∀ k q, q + k = n → ∀ T, s ≤ q → gRun gLt b k q = gRun gLt b (n - s) s → Fr (fl [24002]) S T → T.1 23 0 2 = nI q → V (D + 4) 0 0 m_Tokens_takeWord 0 [some K0v, none, none, none, none, none] [] T Q := by
    intro k
    induction k with
    | zero =>
      intro q hq T hsq hr f g2
      have hr : q = gRun gLt b (n - s) s := hr
      have t1 : T.1 23 0 1 = nI n := (f.1 23 0 1 rfl).trans e1
      refine V_go pk_58 [39] 60 ?_
      refine And.intro (fun _ => ?_) (fun z => absurd ?_ z)
      · exact at39 T q hr f g2
      · show T.1 23 0 1 ≤ T.1 23 0 2
        rw [t1, g2]; exact nI_le (by omega) (by omega)
    | succ k ih =>
      intro q hq T hsq hr f g2
      have t1 : T.1 23 0 1 = nI n := (f.1 23 0 1 rfl).trans e1
      have tb : T.1 24 0 q = b q := (f.1 24 0 q rfl).trans (eb q (by omega))
      have eq : (T.1 23 0 2).toNatClampNeg = q := by rw [g2]; exact nI_clamp (by omega)
      have vq : vp_in (T.1 23 0 2) 160 := by rw [g2]; exact vi (N := 160) (by omega)
      have hr2 : (if gLt (b q) = true then gRun gLt b k (q + 1) else q) = gRun gLt b (n - s) s := hr
      refine V_go pk_58 [0, 39] 60 ?_
      refine And.intro (fun z => ?_) (fun _ => ?_)
      · have z : T.1 23 0 1 ≤ T.1 23 0 2 := z
        rw [t1, g2] at z
        exact absurd ((nI_leI (by omega) (by omega)).mp z) (by omega)
      refine And.intro vq ?_
      rw [eq, tb]
      refine ct_tLetter (fun d => ?_) (fun d => ?_)
      · rw [if_pos d] at hr2
        (repeat' first | (refine And.intro (fun q => absurd q (by decide)) (fun _ => ?_)) | (refine And.intro (fun _ => ?_) (fun q => absurd q (by decide))) | fail)
        exact ih (q + 1) (by omega) (xupd T 23 0 2 (T.1 23 0 2 + 1)) (by omega) hr2 (f.up rfl) (by show T.1 23 0 2 + 1 = _; rw [g2, nI_1])
      · rw [if_neg d] at hr2
        (repeat' first | (refine And.intro (fun q => absurd q (by decide)) (fun _ => ?_)) | (refine And.intro (fun _ => ?_) (fun q => absurd q (by decide))) | fail)
        exact at39 T q hr2 f g2
  refine ct_of (xmok_all (by decide)) rfl ?_
  exact loop (n - s) s (by omega) S (Nat.le_refl _) rfl Fr.rf h2
