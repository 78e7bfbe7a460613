/-! text: the model's wordAt and next -/
theorem ct_wordAt {D n s e : Nat} {b : Nat → Int32} {S : xS} {Q : xQ} (hB : gMb b n S) (hW : gMw S) (hs : s ≤ e) (he : e ≤ n) (hl : ∀ t, t < e - s → gLt (b (s + t)) = true) (h : Q (some (.inl (gTm (gWk b s e 12)))) S) : CT (D + 1) 0 0 m_M_wordAt [M0, .inl (nI s), .inl (nI (e - s))] S Q := by
  obtain ⟨e1, n160, eb, hr⟩ := id hB
  obtain ⟨w1, w2⟩ := id hW
  have loop : ∀ k m, m + k = 12 → (∀ q, q < m → ¬ gMt b s e (gCm.getD q 0) = true) → ∀ o4 o5 : Option Int32, V (D + 1) 0 0 m_M_wordAt 2 [some M0, some (.inl (nI s)), some (.inl (nI (e - s))), some (.inl (nI m)), oI o4, oI o5] [] S Q := by
    intro k
    induction k with
    | zero =>
      intro m hm hno o4 o5
      obtain rfl : m = 12 := by omega
      have ew : gWk b s e 12 = 1 := gWk_no 12 (fun w hw => by
        have : ∀ w : Fin 12, ∃ q : Fin 12, gCm.getD q.1 0 = w.1 := by decide
        obtain ⟨q, hq⟩ := this ⟨w, hw⟩
        have hq : gCm.getD q.1 0 = w := hq
        rw [← hq]
        exact hno q.1 q.2)
      rw [ew] at h
      refine V_go pk_165 [2] 40 ?_
      refine And.intro (fun _ => h) (fun q => absurd (Int32.le_refl (nI 12)) q)
    | succ k ih =>
      intro m hm hno o4 o5
      have ih := ih (m + 1) (by omega)
      rw [show nI (m + 1) = nI m + 1 from (nI_1 m).symm] at ih
      have em : (nI m).toNatClampNeg = m := nI_clamp (by omega)
      have vm : vp_in (nI m) 12 := vi (by omega)
      obtain ⟨c1, c2, c3⟩ := gM_l ⟨m, by omega⟩
      have c1 : gCm.getD m 0 < 12 := c1
      have c2 : gBg.getD m 0 + gLw (gCm.getD m 0) ≤ 45 := c2
      have c3 : ∀ k : Fin 5, k.1 < gLw (gCm.getD m 0) → gMl.getD (gBg.getD m 0 + k.1) 0 = gCw (gOw (gCm.getD m 0) + k.1) := c3
      obtain ⟨d1, d2⟩ := w1 m (by omega)
      have tm := gTm_w ⟨m, by omega⟩
      have tm : gTm (128 + gCm.getD m 0) = nI (100 + m) := tm
      obtain ⟨_, _, f3, f4⟩ := gW_f ⟨gCm.getD m 0, c1⟩
      have f3 : gLw (gCm.getD m 0) ≤ 5 := f3
      generalize hw9 : gCm.getD m 0 = w at c1 c2 c3 d1 tm f3 f4
      have nx : ¬ gMt b s e w = true → (∀ q, q < m + 1 → ¬ gMt b s e (gCm.getD q 0) = true) := fun hn q hq => by
        by_cases c : q = m
        · rw [c, hw9]; exact hn
        · exact hno q (by omega)
      -- the end of one word
      have fin : ∀ z : Bool, (z = true ↔ gMt b s e w = true) → ∀ o5 : Option Int32, V (D + 1) 0 0 m_M_wordAt 77 [some M0, some (.inl (nI s)), some (.inl (nI (e - s))), some (.inl (nI m)), some (.inl (if z = true then 1 else 0)), oI o5] [] S Q := by
        intro z hz o5
        cases z with
        | true =>
          have g := gWk_of (hz.mp rfl) 12 (Nat.le_refl _) c1
          rw [g, tm] at h
          refine V_go pk_165 [2] 40 ?_
          (repeat' first | (refine And.intro (fun q => absurd q (by decide)) (fun _ => ?_)) | (refine And.intro (fun _ => ?_) (fun q => absurd q (by decide))) | fail)
          refine qi h ?_ rfl
          show nI 100 + nI m = _
          rw [nI_add]
        | false =>
          have g : ¬ gMt b s e w = true := fun q => absurd (hz.mpr q) (by decide)
          refine V_go pk_165 [2] 40 ?_
          (repeat' first | (refine And.intro (fun q => absurd q (by decide)) (fun _ => ?_)) | (refine And.intro (fun _ => ?_) (fun q => absurd q (by decide))) | fail)
          exact ih (nx g) (some 0) o5
      have mono : ∀ t, t ≤ gLw w → gPm b s e w t = false → ¬ gMt b s e w = true := fun t ht hp hm => by
        unfold gMt at hm
        simp only [Bool.and_eq_true, decide_eq_true_eq] at hm
        have all := gPm_at _ hm.1
        have : ∀ t, t ≤ gLw w → gPm b s e w t = true := by
          intro t
          induction t with
          | zero => intro _; rfl
          | succ t iht =>
            intro ht
            show (gPm b s e w t && (decide (s + t < e) && decide (b (s + t) = nI (gCw (gOw w + t))))) = true
            rw [iht (by omega), decide_eq_true (all t (by omega)).1, decide_eq_true (all t (by omega)).2]; rfl
        rw [this t ht] at hp
        cases hp
      have letters : gLw w = e - s → ∀ k t, t + k = e - s → V (D + 1) 0 0 m_M_wordAt 28 [some M0, some (.inl (nI s)), some (.inl (nI (e - s))), some (.inl (nI m)), some (.inl (if gPm b s e w t = true then 1 else 0)), some (.inl (nI t))] [] S Q := by
        intro hlen k
        induction k with
        | zero =>
          intro t ht
          obtain rfl : t = e - s := by omega
          have g := fin (gPm b s e w (e - s)) (by
            unfold gMt
            rw [hlen, decide_eq_true (show s + (e - s) = e by omega), Bool.and_true]) (some (nI (e - s)))
          generalize (if gPm b s e w (e - s) = true then (1 : Int32) else 0) = y at g ⊢
          refine V_go pk_165 [28, 77] 40 ?_
          exact And.intro (fun _ => g) (fun q => absurd (Int32.le_refl _) q)
        | succ k ihk =>
          intro t ht
          have ihk := ihk (t + 1) (by omega)
          have hp1 : gPm b s e w (t + 1) = (gPm b s e w t && (decide (s + t < e) && decide (b (s + t) = nI (gCw (gOw w + t))))) := rfl
          rw [hp1, decide_eq_true (show s + t < e by omega), Bool.true_and, show nI (t + 1) = nI t + 1 from (nI_1 _).symm] at ihk
          have fin := fin (gPm b s e w t)
          have mono := mono t (by omega)
          cases hz : gPm b s e w t with
          | false =>
            rw [hz] at fin
            have g := fin ⟨fun q => (by cases q), fun q => absurd q (mono hz)⟩ (some (nI t))
            rw [if_neg (by decide)] at g ⊢
            refine V_go pk_165 [28, 77] 60 ?_
            refine And.intro (fun _ => g) (fun _ => ?_)
            (repeat' first | (refine And.intro (fun q => absurd q (by decide)) (fun _ => ?_)) | (refine And.intro (fun _ => ?_) (fun q => absurd q (by decide))) | fail)
            exact g
          | true =>
            rw [hz, Bool.true_and] at ihk
            have lt := of_decide_eq_true (hl t (by omega))
            have bp := gLe_p hr (p := s + t) (by omega) (Int32.le_trans (by decide) lt.1)
            have cl := c3 ⟨t, by omega⟩ (by show t < gLw w; omega)
            have cl : gMl.getD (gBg.getD m 0 + t) 0 = gCw (gOw w + t) := cl
            rw [if_pos rfl]
            refine V_go pk_165 [28, 77] 60 ?_
            refine And.intro (fun q => ?_) (fun _ => ?_)
            · exact absurd ((nI_leI (by omega) (by omega)).mp (show nI (e - s) ≤ nI t from q)) (by omega)
            (repeat' first | (refine And.intro (fun q => absurd q (by decide)) (fun _ => ?_)) | (refine And.intro (fun _ => ?_) (fun q => absurd q (by decide))) | fail)
            show CT D 0 0 m_M_letter [M0, .inl (nI s + nI t)] S _
            rw [nI_add]
            refine ct_letter hB (by omega) ?_
            rw [bp]
            refine And.intro vm ?_
            rw [em, d2]
            have ix : nI (gBg.getD m 0) + nI t = nI (gBg.getD m 0 + t) := nI_add _ _
            refine And.intro (show vp_in (nI (gBg.getD m 0) + nI t) 45 by rw [ix]; exact vi (N := 45) (by omega)) ?_
            rw [ix, nI_clamp (show gBg.getD m 0 + t < 2 ^ 31 by omega), w2 _ (by omega), cl]
            refine And.intro (fun q => ?_) (fun q => ?_)
            · rw [decide_eq_false q] at ihk
              exact ihk
            · rw [decide_eq_true q] at ihk
              exact ihk
      rcases o4 with _ | o4 <;> rcases o5 with _ | o5
      all_goals (
        refine V_go pk_165 [2, 28] 60 ?_
        refine And.intro (fun q => absurd ((nI_leI (a := 12) (by omega) (by omega)).mp q) (by omega)) (fun _ => ?_)
        refine And.intro vm ?_
        rw [em, d1]
        refine And.intro (fun q => ?_) (fun q => ?_)
        · have q : ¬ gLw w = e - s := fun z => q (by rw [z])
          have g := fin false ⟨fun z => (by cases z), fun z => by
            unfold gMt at z
            simp only [Bool.and_eq_true, decide_eq_true_eq] at z
            omega⟩ (some 0)
          refine V_go pk_165 [77] 60 ?_
          refine And.intro (fun _ => g) (fun _ => ?_)
          (repeat' first | (refine And.intro (fun q => absurd q (by decide)) (fun _ => ?_)) | (refine And.intro (fun _ => ?_) (fun q => absurd q (by decide))) | fail)
          exact g
        · have q : gLw w = e - s := (nI_eq (by omega) (by omega)).mp q
          exact letters q (e - s) 0 (by omega))
  refine ct_of (xmok_all (by decide)) rfl (V_go (pc := 0) pk_165 [2] 20 ?_)
  exact loop 12 0 (by omega) (fun q h => absurd h (Nat.not_lt_zero _)) none none
