/-! text: one round of the reading machine -/
theorem tk_f : ∀ k : Fin 140, (k.1 ≤ 2 ∨ (40 ≤ k.1 ∧ k.1 ≤ 61) ∨ 128 ≤ k.1) → (gTm k.1 = 40 ↔ k.1 = 40) ∧ (gTm k.1 = 45 ↔ k.1 = 45) ∧ (gTm k.1 = 111 ↔ k.1 = 133) ∧ (gTm k.1 = 200 ↔ k.1 = 2) ∧ ((100 ≤ gTm k.1 ∧ gTm k.1 < 106) ↔ (134 ≤ k.1 ∧ k.1 ≤ 139)) ∧ (gTm k.1 = 41 ↔ k.1 = 41) ∧ (gTm k.1 = 59 ↔ k.1 = 59) ∧ rkI (gTm k.1) = nI (gRk k.1) ∧ (gTm k.1 = 0 ↔ k.1 = 0) ∧ (gTm k.1 = 106 ↔ k.1 = 128) ∧ (gTm k.1 = 107 ↔ k.1 = 129) ∧ (gTm k.1 = 108 ↔ k.1 = 130) ∧ (134 ≤ k.1 → gTm k.1 = encM (-(nI k.1)) ∧ ¬ 0 ≤ -(nI k.1)) ∧ (¬ gRk k.1 = 0 → ¬ k.1 = 133 → gTm k.1 = gWm k.1 ∧ k.1 ∈ gOps) ∧ gRk k.1 ≤ 7 := by decide +kernel
theorem tk_g {b : Nat → Int32} {n : Nat} (i : Nat) : ((gK b n).1 i ≤ 2 ∨ (40 ≤ (gK b n).1 i ∧ (gK b n).1 i ≤ 61) ∨ 128 ≤ (gK b n).1 i) ∧ (gK b n).1 i < 140 := by
  have := gKd_b b n (gSt b n (gPos b n i))
  show (gKd b n (gSt b n (gPos b n i)) ≤ 2 ∨ _) ∧ _
  have e : (gK b n).1 i = gKd b n (gSt b n (gPos b n i)) := rfl
  rw [e]
  omega
/-- the model stands before token i -/
def gHd (b : Nat → Int32) (n row i : Nat) (W : List Nat) (o : List Int32) (T : xS) : Prop := T.1 36 0 41 = nI ((gP b n).1 i) ∧ gMs W T ∧ gOu row o T ∧ gMb b n T ∧ gMw T ∧ W.length + o.length ≤ i ∧ i ≤ (gP b n).1 i
theorem gRf.mb {b : Nat → Int32} {n row : Nat} {S S2 : xS} (f : gRf row S S2) (h : gMb b n S) : gMb b n S2 := by
  obtain ⟨h1, h2, h3, h4⟩ := h
  exact ⟨(f.1 36 0 32 rfl (by omega) (by omega) (by decide)).trans h1, h2, fun j hj => (f.1 61 0 j rfl (by omega) (by omega) (by decide)).trans (h3 j hj), h4⟩
theorem gRf.mw {row : Nat} {S S2 : xS} (f : gRf row S S2) (h : gMw S) : gMw S2 := by
  obtain ⟨h1, h2⟩ := h
  refine ⟨fun m hm => ⟨(f.1 67 0 m rfl (by omega) (by omega) (by decide)).trans (h1 m hm).1, (f.1 66 0 m rfl (by omega) (by omega) (by decide)).trans (h1 m hm).2⟩, fun j hj => (f.1 65 0 j rfl (by omega) (by omega) (by decide)).trans (h2 j hj)⟩
theorem gRf.nx {row : Nat} {S S2 : xS} (f : Fr (fl fNx) S S2) : gRf row S S2 := ⟨fun k i j a _ _ _ => (f.wk (l' := fMr) (by decide)).1 k i j a, f.2⟩
theorem gStl_len (r : Nat) : ∀ (W : List Nat) (o : List Int32), (gStl r W o).1.length + (gStl r W o).2.length = W.length + o.length
  | [], _ => rfl
  | w :: W, o => by
    rw [gStl_o]
    by_cases c : r ≤ gRk w
    · rw [if_pos c, gStl_len r W, List.length_append, List.length_singleton, List.length_cons]; omega
    · rw [if_neg c]
theorem gPar_hd {S : xS} : ∀ (W : List Nat) (o : List Int32), gWr W S → gPar W = true → ∃ W2 o2, gStl 1 W o = (40 :: W2, o2)
  | [], _, _, h => by cases h
  | w :: W, o, hW, h => by
    rw [gStl_o]
    by_cases c : 1 ≤ gRk w
    · rw [if_pos c]
      refine gPar_hd W _ hW.2 ?_
      have h : (if w = 40 then true else gPar W) = true := h
      rw [if_neg (fun e => by rw [e] at c; exact absurd c (by decide))] at h
      exact h
    · rw [if_neg c]
      have : ∀ w ∈ gOps, ¬ 1 ≤ gRk w → w = 40 := by decide
      have e := this w hW.1.2 c
      subst e
      exact ⟨W, o, rfl⟩
theorem ct_isR1 {D n row i : Nat} {b : Nat → Int32} {W : List Nat} {o : List Int32} {wants m : Bool} {S : xS} {Q : xQ} (hr : row < 18) (hH : gHd b n row i W o S)
    (hC : ∀ w2 m2 i2 W2 o2, gStep (gK b n) (wants, m, i, W, o) = .inl (w2, m2, i2, W2, o2) → ∀ T (o4 : Option Int32), gHd b n row i2 W2 o2 T → gRf row S T → V (D + 3) 0 0 m_M_isRead 16 [some M0, some (.inl (nI row)), some (.inl (if w2 = true then 1 else 0)), some (.inl (if m2 = true then 1 else 0)), oI o4] [] T Q)
    (hD : ∀ i2 e, gStep (gK b n) (wants, m, i, W, o) = .inr (.inl (i2, e)) → ∀ T, gOu row e T → T.1 36 0 41 = nI ((gP b n).1 i2) → gRf row S T → i2 ≤ (gP b n).1 i2 → e.length ≤ i2 → Q (some (.inl 1)) T)
    (hB : ∀ j, gStep (gK b n) (wants, m, i, W, o) = .inr (.inr j) → ∀ T, T.1 36 0 42 = nI ((gP b n).2 j) → gRf row S T → Q (some (.inl 0)) T) (o4 : Option Int32) : V (D + 3) 0 0 m_M_isRead 16 [some M0, some (.inl (nI row)), some (.inl (if wants = true then 1 else 0)), some (.inl (if m = true then 1 else 0)), oI o4] [] S Q := by
  obtain ⟨h41, hM, hO, hb, hw, hlen, hi⟩ := hH
  have hT := gTs_of b hb.2.1
  have p160 := (hT.1 i).1
  have n160 := hb.2.1
  obtain ⟨ks, k140⟩ := tk_g (b := b) (n := n) i
  have tf := tk_f ⟨(gK b n).1 i, k140⟩ ks
  have tf : (gTm ((gK b n).1 i) = 40 ↔ (gK b n).1 i = 40) ∧ (gTm ((gK b n).1 i) = 45 ↔ (gK b n).1 i = 45) ∧ (gTm ((gK b n).1 i) = 111 ↔ (gK b n).1 i = 133) ∧ (gTm ((gK b n).1 i) = 200 ↔ (gK b n).1 i = 2) ∧ ((100 ≤ gTm ((gK b n).1 i) ∧ gTm ((gK b n).1 i) < 106) ↔ (134 ≤ (gK b n).1 i ∧ (gK b n).1 i ≤ 139)) ∧ (gTm ((gK b n).1 i) = 41 ↔ (gK b n).1 i = 41) ∧ (gTm ((gK b n).1 i) = 59 ↔ (gK b n).1 i = 59) ∧ rkI (gTm ((gK b n).1 i)) = nI (gRk ((gK b n).1 i)) ∧ (gTm ((gK b n).1 i) = 0 ↔ (gK b n).1 i = 0) ∧ (gTm ((gK b n).1 i) = 106 ↔ (gK b n).1 i = 128) ∧ (gTm ((gK b n).1 i) = 107 ↔ (gK b n).1 i = 129) ∧ (gTm ((gK b n).1 i) = 108 ↔ (gK b n).1 i = 130) ∧ (134 ≤ (gK b n).1 i → gTm ((gK b n).1 i) = encM (-(nI ((gK b n).1 i))) ∧ ¬ 0 ≤ -(nI ((gK b n).1 i))) ∧ (¬ gRk ((gK b n).1 i) = 0 → ¬ (gK b n).1 i = 133 → gTm ((gK b n).1 i) = gWm ((gK b n).1 i) ∧ (gK b n).1 i ∈ gOps) ∧ gRk ((gK b n).1 i) ≤ 7 := tf
  have after : ∀ T (o4 : Option Int32), Fr (fl fNx) S T → gTj (gK b n) (gP b n) i T → V (D + 3) 0 0 m_M_isRead 20 [some M0, some (.inl (nI row)), some (.inl (if wants = true then 1 else 0)), some (.inl (if m = true then 1 else 0)), oI o4] [] T Q := by
    intro T o4 f g
    obtain ⟨g1, g2, g3, g4⟩ := g
    have fR : gRf row S T := gRf.nx f
    have M1 : gMs W T := ⟨(f.1 36 0 46 rfl).trans hM.1, gWr.kp W (fun j _ => f.1 68 0 j rfl) hM.2⟩
    have O1 : gOu row o T := ⟨(f.1 62 0 row rfl).trans hO.1, fun j hj => ⟨(f.1 63 0 _ rfl).trans (hO.2 j hj).1, fun z => (f.1 64 0 _ rfl).trans ((hO.2 j hj).2 z)⟩⟩
    have b1 := fR.mb hb
    have w1 := fR.mw hw
    have nxt : ¬ (gK b n).1 i = 0 → i + 1 ≤ (gP b n).1 (i + 1) := fun z => by
      have := hT.2.1 i z
      omega
    have bad : gStep (gK b n) (wants, m, i, W, o) = .inr (.inr i) → ∀ U, U.1 36 0 42 = T.1 36 0 42 → gRf row T U → Q (some (.inl 0)) U := fun e U h1 h2 => hB i e U (h1.trans g2) (fR.tr h2)
    generalize hk : (gK b n).1 i = k at g3 g4 tf nxt k140
    obtain ⟨t1, t2, t3, t4, t5, t6, t7, t8, t9, _, _, _, t13, t14, t15⟩ := tf
    have e46 := M1.1
    have Wl : W.length ≤ 160 := by omega
    have c46 : (T.1 36 0 46).toNatClampNeg = W.length := by rw [e46]; exact nI_clamp (by omega)
    have v46 : vp_in (T.1 36 0 46) 200 := by rw [e46]; exact vi (N := 200) (by omega)
    cases wants with
    | true =>
      have push : ∀ w' x, x = gWm w' → w' ∈ gOps → ¬ k = 0 → gHd b n row (i + 1) (w' :: W) o (xupd (xupd T 68 0 W.length x) 36 0 46 (T.1 36 0 46 + 1)) ∧ gRf row T (xupd (xupd T 68 0 W.length x) 36 0 46 (T.1 36 0 46 + 1)) := by
        intro w' x hx hw' hk0
        have fU : gRf row T (xupd (xupd T 68 0 W.length x) 36 0 46 (T.1 36 0 46 + 1)) := by
          refine ⟨fun k i j a b c d => (if_neg (fun q => ?_)).trans (if_neg (fun q => d q.1)), rfl⟩
          obtain ⟨q1, q2, _⟩ := q; subst q1; subst q2; exact absurd a (by decide)
        refine ⟨⟨g1, ⟨?_, ⟨?_, hw'⟩, ?_⟩, O1, fU.mb b1, fU.mw w1, ?_, nxt hk0⟩, fU⟩
        · show T.1 36 0 46 + 1 = _
          rw [e46, nI_1, List.length_cons]
        · exact (if_pos ⟨rfl, rfl, rfl⟩).trans hx
        · refine gWr.kp (S := T) W (fun j hj => if_neg (fun q => ?_)) M1.2
          have := q.2.1; omega
        · rw [List.length_cons]; omega
      have op1 : ∀ l4 : Int32, gOpn k m = true → V (D + 3) 0 0 m_M_isRead 62 [some M0, some (.inl (nI row)), some (.inl 1), some (.inl (if m = true then 1 else 0)), some (.inl 1)] [] T Q := by
        intro l4 ho
        have k0 : ¬ k = 0 := fun z => by rw [z] at ho; unfold gOpn at ho; simp at ho
        refine V_go pk_168 [16] 80 ?_
        (repeat' first | (refine And.intro (fun q => absurd q (by decide)) (fun _ => ?_)) | (refine And.intro (fun _ => ?_) (fun q => absurd q (by decide))) | fail)
        refine ct_openMany Wl M1 ?_
        refine And.intro (fun q => ?_) (fun q => ?_)
        · have q : nI 5 ≤ nI (gCnt W) := q
          (repeat' first | (refine And.intro (fun q => absurd q (by decide)) (fun _ => ?_)) | (refine And.intro (fun _ => ?_) (fun q => absurd q (by decide))) | fail)
          refine And.intro (Or.inl rfl) (bad (gStep_f (by rw [hk]; exact ho) (fun z => ?_)) T rfl gRf.rf)
          exact absurd (show nI (gCnt W) < nI 5 from nI_lt z (by decide)) (Int32.not_lt.mpr q)
        · have q : ¬ nI 5 ≤ nI (gCnt W) := q
          have c5 : gCnt W < 5 := by
            apply Nat.not_le.mp
            intro z
            have cl : gCnt W ≤ W.length := by
              have : ∀ W : List Nat, gCnt W ≤ W.length := by
                intro W
                induction W with
                | nil => exact Nat.le_refl _
                | cons w W ih =>
                  show gCnt W + (if w = 40 ∨ w = 133 ∨ w = 3 then 1 else 0) ≤ (w :: W).length
                  rw [List.length_cons]
                  split <;> omega
              exact this W
            exact q (nI_le z (by omega))
          have st := gStep_o (K := gK b n) (i := i) (W := W) (o := o) (m := m) (by rw [hk]; exact ho) c5
          rw [hk] at st
          refine And.intro (fun q2 => ?_) (fun q2 => ?_)
          · have q2 : ¬ T.1 36 0 43 = 45 := q2
            rw [g3] at q2
            have n45 : ¬ k = 45 := fun z => q2 (t2.mpr z)
            have k3 : k = 40 ∨ k = 133 := by
              unfold gOpn at ho
              simp only [Bool.or_eq_true, Bool.and_eq_true, decide_eq_true_eq] at ho
              rcases ho with z | z | z
              · exact Or.inl z
              · exact absurd z n45
              · exact Or.inr z.1
            have gw : gTm k = gWm k ∧ k ∈ gOps := by rcases k3 with z | z <;> (rw [z]; decide)
            rw [decide_eq_false n45, if_neg n45] at st
            refine And.intro v46 ?_
            rw [c46]
            refine And.intro (fun q3 => absurd (show T.1 36 0 43 = 45 from q3) (by rw [g3]; exact q2)) (fun _ => ?_)
            show V (D + 3) 0 0 m_M_isRead 16 [some M0, some (.inl (nI row)), some (.inl 1), some (.inl 1), some (.inl 1)] [] (xupd (xupd T 68 0 W.length (T.1 36 0 43)) 36 0 46 (T.1 36 0 46 + 1)) Q
            rw [g3]
            have pu := push k (gTm k) gw.1 gw.2 k0
            exact hC true true (i + 1) (k :: W) o st _ (some 1) pu.1 (fR.tr pu.2)
          · have q2 : T.1 36 0 43 = 45 := q2
            rw [g3] at q2
            have e45 : k = 45 := t2.mp q2
            rw [decide_eq_true e45, if_pos e45] at st
            refine And.intro v46 ?_
            rw [c46]
            refine And.intro (fun _ => ?_) (fun q3 => absurd (show T.1 36 0 43 = 45 by rw [g3]; exact q2) q3)
            have pu := push 3 300 rfl (by decide) k0
            exact hC true false (i + 1) (3 :: W) o st _ (some 1) pu.1 (fR.tr pu.2)
      have op0 : ¬ gOpn k m = true → V (D + 3) 0 0 m_M_isRead 62 [some M0, some (.inl (nI row)), some (.inl 1), some (.inl (if m = true then 1 else 0)), some (.inl 0)] [] T Q := by
        intro ho
        have n40 : ¬ k = 40 := fun z => ho (by rw [z]; rfl)
        have n45 : ¬ k = 45 := fun z => ho (by rw [z]; rfl)
        have nm : ¬ (k = 133 ∧ m = true) := fun z => ho (by rw [z.1, z.2]; rfl)
        have at164 : (k = 2 ∨ (134 ≤ k ∧ k ≤ 139)) → V (D + 3) 0 0 m_M_isRead 164 [some M0, some (.inl (nI row)), some (.inl 1), some (.inl (if m = true then 1 else 0)), some (.inl 0)] [] T Q := by
          intro hit
          have st := gStep_i (K := gK b n) (i := i) (W := W) (o := o) (m := m) (by rw [hk]; exact hit)
          have k0 : ¬ k = 0 := by omega
          have i160 : i + 1 ≤ 160 := by have := nxt k0; have := (hT.1 (i + 1)).1; omega
          have ex : gTm k = encM (gItm (gK b n) i) := by
            unfold gItm
            rw [hk]
            by_cases c2 : k = 2
            · rw [if_pos c2, c2]
              have h9 := (hT.1 i).2.2.2
              unfold encM
              rw [if_pos (nI_pos' (by omega))]; rfl
            · rw [if_neg c2]
              exact (t13 (hit.resolve_left c2).1).1
          have tail : ∀ S', gOu row (o ++ [gItm (gK b n) i]) S' → gRf row T S' → (∀ j, S'.1 68 0 j = T.1 68 0 j) → (∀ j, S'.1 36 0 j = T.1 36 0 j) → V (D + 3) 0 0 m_M_isRead 191 [some M0, some (.inl (nI row)), some (.inl 1), some (.inl (if m = true then 1 else 0)), some (.inl 0)] [] S' Q := by
            intro S' a1 a2 a3 a4
            have M2 : gMs W S' := ⟨(a4 46).trans M1.1, gWr.kp (S := T) W (fun j _ => a3 j) M1.2⟩
            refine V_go pk_168 [16] 80 ?_
            refine ct_settle (D := D + 1) (r := 7) hr (by decide) W (o ++ [gItm (gK b n) i]) S' (by rw [List.length_append, List.length_singleton]; omega) M2 a1 (fun S2 s1 s2 s3 s4 => ?_)
            have f2 := a2.tr s3
            refine hC false m (i + 1) _ _ st S2 (some 0) ⟨((s4 41 (by decide)).trans (a4 41)).trans g1, s1, s2, f2.mb b1, f2.mw w1, ?_, nxt k0⟩ (fR.tr f2)
            rw [gStl_len, List.length_append, List.length_singleton]; omega
          refine V_go pk_168 [16, 191] 80 ?_
          refine And.intro (fun q => ?_) (fun q => ?_)
          · have q : ¬ T.1 36 0 43 = 200 := q
            rw [g3] at q
            have n2 : ¬ k = 2 := fun z => q (t4.mpr z)
            show CT (D + 2) 0 0 m_M_add [M0, .inl (nI row), .inl (T.1 36 0 43), .inl 0] T _
            rw [g3]
            refine ct_M_add (c := gItm (gK b n) i) hr (by omega) O1 ex (fun z => ?_) (fun S' a1 a2 a3 a4 => tail S' a1 a2 a3 a4)
            have e : gItm (gK b n) i = -(nI k) := by unfold gItm; rw [hk, if_neg n2]
            rw [e] at z
            exact absurd z (t13 (hit.resolve_left n2).1).2
          · have q : T.1 36 0 43 = 200 := q
            rw [g3] at q
            have e2 : k = 2 := t4.mp q
            show CT (D + 2) 0 0 m_M_add [M0, .inl (nI row), .inl (T.1 36 0 43), .inl (T.1 36 0 44)] T _
            rw [g3, g4 e2]
            refine ct_M_add (c := gItm (gK b n) i) hr (by omega) O1 ex (fun _ => ?_) (fun S' a1 a2 a3 a4 => tail S' a1 a2 a3 a4)
            unfold gItm
            rw [hk, if_pos e2]
        refine V_go pk_168 [164] 80 ?_
        (repeat' first | (refine And.intro (fun q => absurd q (by decide)) (fun _ => ?_)) | (refine And.intro (fun _ => ?_) (fun q => absurd q (by decide))) | fail)
        refine And.intro (fun q => ?_) (fun q => ?_)
        · have q : T.1 36 0 43 = 200 := q
          rw [g3] at q
          exact at164 (Or.inl (t4.mp q))
        · have q : ¬ T.1 36 0 43 = 200 := q
          rw [g3] at q
          have n2 : ¬ k = 2 := fun z => q (t4.mpr z)
          have fin : ¬ (134 ≤ k ∧ k ≤ 139) → (0 = (0 : Int32) ∨ (0 : Int32) = 1) ∧ Q (some (.inl 0)) T := fun z => And.intro (Or.inl rfl) (bad (gStep_b (by rw [hk]; exact fun y => y.elim n2 z) (by rw [hk]; exact n40) (by rw [hk]; exact n45) (by rw [hk]; exact nm)) T rfl gRf.rf)
          refine And.intro (fun q2 => ?_) (fun q2 => ?_)
          · have q2 : T.1 36 0 43 < 100 := q2
            rw [g3] at q2
            exact fin (fun z => absurd (t5.mpr z).1 (Int32.not_le.mpr q2))
          · have q2 : ¬ T.1 36 0 43 < 100 := q2
            rw [g3] at q2
            refine And.intro (fun q3 => ?_) (fun q3 => ?_)
            · have q3 : 106 ≤ T.1 36 0 43 := q3
              rw [g3] at q3
              exact fin (fun z => absurd (t5.mpr z).2 (Int32.not_lt.mpr q3))
            · have q3 : ¬ 106 ≤ T.1 36 0 43 := q3
              rw [g3] at q3
              exact at164 (Or.inr (t5.mp ⟨Int32.not_lt.mp q2, Int32.not_le.mp q3⟩))
      have g40 : k = 40 → gOpn k m = true := gOpn_40
      have g45 : k = 45 → gOpn k m = true := gOpn_45
      refine V_go pk_168 [62] 80 ?_
      (repeat' first | (refine And.intro (fun q => absurd q (by decide)) (fun _ => ?_)) | (refine And.intro (fun _ => ?_) (fun q => absurd q (by decide))) | fail)
      refine And.intro (fun q => ?_) (fun q1 => ?_)
      · have q : T.1 36 0 43 = 40 := q
        rw [g3] at q
        exact op1 1 (g40 (t1.mp q))
      have q1 : ¬ T.1 36 0 43 = 40 := q1
      rw [g3] at q1
      refine And.intro (fun q => ?_) (fun q2 => ?_)
      · have q : T.1 36 0 43 = 45 := q
        rw [g3] at q
        exact op1 1 (g45 (t2.mp q))
      have q2 : ¬ T.1 36 0 43 = 45 := q2
      rw [g3] at q2
      have n40 : ¬ k = 40 := fun z => q1 (t1.mpr z)
      have n45 : ¬ k = 45 := fun z => q2 (t2.mpr z)
      refine And.intro (fun q3 => ?_) (fun q3 => ?_)
      · have q3 : ¬ T.1 36 0 43 = 111 := q3
        rw [g3] at q3
        refine op0 (fun z => ?_)
        unfold gOpn at z
        simp only [Bool.or_eq_true, Bool.and_eq_true, decide_eq_true_eq] at z
        rcases z with z | z | z
        · exact n40 z
        · exact n45 z
        · exact q3 (t3.mpr z.1)
      · have q3 : T.1 36 0 43 = 111 := q3
        rw [g3] at q3
        have e133 : k = 133 := t3.mp q3
        cases hm : m with
        | true =>
          rw [hm] at op1
          have op1 := op1 1 (by rw [e133]; rfl)
          rw [show (if true = true then (1 : Int32) else 0) = 1 from rfl] at op1
          (repeat' first | (refine And.intro (fun q => absurd q (by decide)) (fun _ => ?_)) | (refine And.intro (fun _ => ?_) (fun q => absurd q (by decide))) | fail)
          exact op1
        | false =>
          rw [hm] at op0
          have op0 := op0 (by rw [e133]; decide)
          rw [show (if false = true then (1 : Int32) else 0) = 0 from rfl] at op0
          (repeat' first | (refine And.intro (fun q => absurd q (by decide)) (fun _ => ?_)) | (refine And.intro (fun _ => ?_) (fun q => absurd q (by decide))) | fail)
          exact op0
    | false =>
      have hW1 := M1.2
      have at320 : ∀ r, r = gRk k → ¬ gRk k = 0 → ¬ k = 133 → (gRk k = 4 → gCmp W = false) → ∀ l4, l4 = nI r → V (D + 3) 0 0 m_M_isRead 320 [some M0, some (.inl (nI row)), some (.inl 0), some (.inl (if m = true then 1 else 0)), some (.inl l4)] [] T Q := by
        intro r er h0 h133 hcm l4 hl4
        subst hl4
        subst er
        have st := gStep_2 (K := gK b n) (m := m) (i := i) (W := W) (o := o) (by rw [hk]; exact h0) (by rw [hk]; exact h133) (by rw [hk]; exact hcm)
        rw [hk] at st
        obtain ⟨gw1, gw2⟩ := t14 h0 h133
        have k0 : ¬ k = 0 := fun z => h0 (by rw [z]; rfl)
        have i160 : i + 1 ≤ 160 := by have := nxt k0; have := (hT.1 (i + 1)).1; omega
        have sl := gStl_len (gRk k) W o
        refine V_go pk_168 [16, 327] 80 ?_
        refine ct_settle (D := D + 1) (r := gRk k) hr t15 W o T (by omega) M1 O1 (fun S2 s1 s2 s3 s4 => ?_)
        have c46 : (S2.1 36 0 46).toNatClampNeg = (gStl (gRk k) W o).1.length := by rw [s1.1]; exact nI_clamp (by omega)
        have v46 : vp_in (S2.1 36 0 46) 200 := by rw [s1.1]; exact vi (N := 200) (by omega)
        have x43 : S2.1 36 0 43 = gTm k := (s4 43 (by decide)).trans g3
        have fU : gRf row S2 (xupd (xupd S2 68 0 (gStl (gRk k) W o).1.length (gTm k)) 36 0 46 (S2.1 36 0 46 + 1)) := by
          refine ⟨fun k i j a b c d => (if_neg (fun q => ?_)).trans (if_neg (fun q => d q.1)), rfl⟩
          obtain ⟨q1, q2, _⟩ := q; subst q1; subst q2; exact absurd a (by decide)
        have f3 := s3.tr fU
        have hd2 : gHd b n row (i + 1) (k :: (gStl (gRk k) W o).1) (gStl (gRk k) W o).2 (xupd (xupd S2 68 0 (gStl (gRk k) W o).1.length (gTm k)) 36 0 46 (S2.1 36 0 46 + 1)) := by
          refine ⟨(s4 41 (by decide)).trans g1, ⟨?_, ⟨?_, gw2⟩, ?_⟩, s2, f3.mb b1, f3.mw w1, ?_, nxt k0⟩
          · show S2.1 36 0 46 + 1 = _
            rw [s1.1, nI_1, List.length_cons]
          · exact (if_pos ⟨rfl, rfl, rfl⟩).trans gw1
          · refine gWr.kp (S := S2) _ (fun j hj => if_neg (fun q => ?_)) s1.2
            have := q.2.1; omega
          · rw [List.length_cons]; omega
        have cont := fun m2 (hm2 : m2 = decide (gRk k < 3)) => hC true m2 (i + 1) _ _ (by rw [hm2]; exact st) _ (some (nI (gRk k))) hd2 (fR.tr f3)
        show V (D + 3) 0 0 m_M_isRead 327 [some M0, some (.inl (nI row)), some (.inl 0), some (.inl (if m = true then 1 else 0)), some (.inl (nI (gRk k)))] [] S2 Q
        refine V_go pk_168 [16] 80 ?_
        refine And.intro v46 ?_
        rw [c46]
        refine And.intro (fun q => ?_) (fun q => ?_)
        · have q := (nI_leI (a := 3) (by omega) (by omega)).mp q
          have g := cont false (decide_eq_false (by omega)).symm
          show V (D + 3) 0 0 m_M_isRead 16 [some M0, some (.inl (nI row)), some (.inl 1), some (.inl 0), some (.inl (nI (gRk k)))] [] (xupd (xupd S2 68 0 (gStl (gRk k) W o).1.length (S2.1 36 0 43)) 36 0 46 (S2.1 36 0 46 + 1)) Q
          rw [x43]
          exact g
        · have q : gRk k < 3 := Nat.not_le.mp (fun z => q (nI_le (a := 3) z (by omega)))
          have g := cont true (decide_eq_true q).symm
          show V (D + 3) 0 0 m_M_isRead 16 [some M0, some (.inl (nI row)), some (.inl 1), some (.inl 1), some (.inl (nI (gRk k)))] [] (xupd (xupd S2 68 0 (gStl (gRk k) W o).1.length (S2.1 36 0 43)) 36 0 46 (S2.1 36 0 46 + 1)) Q
          rw [x43]
          exact g
      have badx : ((k = 133 ∨ gRk k = 0) ∨ (gRk k = 4 ∧ gCmp W = true)) → ¬ (k = 41 ∧ gPar W = true) → ¬ (k = 59 ∧ gPar W = false) → gStep (gK b n) (false, m, i, W, o) = .inr (.inr i) := by
        intro z z41 z59
        show (if (gK b n).1 i = 41 ∧ gPar W = true then _ else if (gK b n).1 i = 59 ∧ gPar W = false then _ else if ((gK b n).1 i = 133 ∨ gRk ((gK b n).1 i) = 0) ∨ (gRk ((gK b n).1 i) = 4 ∧ gCmp W = true) then _ else _) = _
        rw [hk, if_neg z41, if_neg z59, if_pos z]
      have at278 : ¬ (k = 41 ∧ gPar W = true) → ¬ (k = 59 ∧ gPar W = false) → ∀ o4 : Option Int32, V (D + 3) 0 0 m_M_isRead 278 [some M0, some (.inl (nI row)), some (.inl 0), some (.inl (if m = true then 1 else 0)), oI o4] [] T Q := by
        intro z41 z59 o4
        have no : ((k = 133 ∨ gRk k = 0) ∨ (gRk k = 4 ∧ gCmp W = true)) → (0 = (0 : Int32) ∨ (0 : Int32) = 1) ∧ Q (some (.inl 0)) T := fun z => And.intro (Or.inl rfl) (bad (badx z z41 z59) T rfl gRf.rf)
        rcases o4 with _ | o4
        all_goals (
          refine V_go pk_168 [16, 320] 80 ?_
          refine And.intro (fun q => ?_) (fun q => ?_)
          · have q : ¬ T.1 36 0 43 = 111 := q
            rw [g3] at q
            have n133 : ¬ k = 133 := fun z => q (t3.mpr z)
            show CT (D + 2) 0 0 m_M_rankOf [.inl (T.1 36 0 43)] T _
            rw [g3]
            refine ct_rankOf ?_
            rw [t8]
            refine And.intro (fun q2 => ?_) (fun q2 => ?_)
            · exact no (Or.inl (Or.inr ((nI_eq (b := 0) (by omega) (by decide)).mp q2)))
            · have r0 : ¬ gRk k = 0 := fun z => q2 (by rw [z]; rfl)
              refine And.intro (fun q3 => ?_) (fun q3 => ?_)
              · have r4 : ¬ gRk k = 4 := fun z => q3 (by rw [z]; rfl)
                exact at320 _ rfl r0 n133 (fun z => absurd z r4) _ rfl
              · have r4 : gRk k = 4 := (nI_eq (b := 4) (by omega) (by decide)).mp q3
                refine ct_hasCompared (D := D + 1) Wl M1 ?_
                cases hc : gCmp W with
                | true =>
                  (repeat' first | (refine And.intro (fun q => absurd q (by decide)) (fun _ => ?_)) | (refine And.intro (fun _ => ?_) (fun q => absurd q (by decide))) | fail)
                  exact no (Or.inr ⟨r4, hc⟩)
                | false =>
                  (repeat' first | (refine And.intro (fun q => absurd q (by decide)) (fun _ => ?_)) | (refine And.intro (fun _ => ?_) (fun q => absurd q (by decide))) | fail)
                  exact at320 _ rfl r0 n133 (fun _ => hc) _ rfl
          · have q : T.1 36 0 43 = 111 := q
            rw [g3] at q
            have e133 : k = 133 := t3.mp q
            (repeat' first | (refine And.intro (fun q => absurd q (by decide)) (fun _ => ?_)) | (refine And.intro (fun _ => ?_) (fun q => absurd q (by decide))) | fail)
            exact no (Or.inl (Or.inl e133)))
      have at252 : ¬ (k = 41 ∧ gPar W = true) → ∀ o4 : Option Int32, V (D + 3) 0 0 m_M_isRead 252 [some M0, some (.inl (nI row)), some (.inl 0), some (.inl (if m = true then 1 else 0)), oI o4] [] T Q := by
        intro z41 o4
        have g278 := fun z => at278 z41 z o4
        rcases o4 with _ | o4
        all_goals (
          refine V_go pk_168 [16, 278] 80 ?_
          refine And.intro (fun q => ?_) (fun q => ?_)
          · have q : ¬ T.1 36 0 43 = 59 := q
            rw [g3] at q
            exact g278 (fun z => q (t7.mpr z.1))
          · have q : T.1 36 0 43 = 59 := q
            rw [g3] at q
            have e59 : k = 59 := t7.mp q
            refine ct_waitsFor (D := D + 2) Wl M1 ?_
            cases hp : gPar W with
            | true =>
              (repeat' first | (refine And.intro (fun q => absurd q (by decide)) (fun _ => ?_)) | (refine And.intro (fun _ => ?_) (fun q => absurd q (by decide))) | fail)
              exact g278 (fun z => by rw [hp] at z; exact absurd z.2 (by decide))
            | false =>
              (repeat' first | (refine And.intro (fun q => absurd q (by decide)) (fun _ => ?_)) | (refine And.intro (fun _ => ?_) (fun q => absurd q (by decide))) | fail)
              have st : gStep (gK b n) (false, m, i, W, o) = .inr (.inl (i + 1, (gStl 1 W o).2)) := by
                show (if (gK b n).1 i = 41 ∧ gPar W = true then _ else if (gK b n).1 i = 59 ∧ gPar W = false then _ else _) = _
                rw [hk, if_neg z41, if_pos ⟨e59, hp⟩]
              have sl := gStl_len 1 W o
              refine ct_settle (D := D + 1) (r := 1) hr (by decide) W o T (by omega) M1 O1 (fun S2 s1 s2 s3 s4 => ?_)
              exact And.intro (Or.inr rfl) (hD (i + 1) _ st S2 s2 ((s4 41 (by decide)).trans g1) (fR.tr s3) (nxt (by omega)) (by omega)))
      rcases o4 with _ | o4
      all_goals (
        refine V_go pk_168 [16, 252] 80 ?_
        (repeat' first | (refine And.intro (fun q => absurd q (by decide)) (fun _ => ?_)) | (refine And.intro (fun _ => ?_) (fun q => absurd q (by decide))) | fail)
        refine And.intro (fun q => ?_) (fun q => ?_)
        · have q : ¬ T.1 36 0 43 = 41 := q
          rw [g3] at q
          first
            | exact at252 (fun z => q (t6.mpr z.1)) none
            | exact at252 (fun z => q (t6.mpr z.1)) (some o4)
        · have q : T.1 36 0 43 = 41 := q
          rw [g3] at q
          have e41 : k = 41 := t6.mp q
          refine ct_waitsFor (D := D + 2) Wl M1 ?_
          cases hp : gPar W with
          | false =>
            (repeat' first | (refine And.intro (fun q => absurd q (by decide)) (fun _ => ?_)) | (refine And.intro (fun _ => ?_) (fun q => absurd q (by decide))) | fail)
            first
              | exact at252 (fun z => by rw [hp] at z; exact absurd z.2 (by decide)) none
              | exact at252 (fun z => by rw [hp] at z; exact absurd z.2 (by decide)) (some o4)
          | true =>
            (repeat' first | (refine And.intro (fun q => absurd q (by decide)) (fun _ => ?_)) | (refine And.intro (fun _ => ?_) (fun q => absurd q (by decide))) | fail)
            obtain ⟨W2, o2, hs⟩ := gPar_hd W o hW1 hp
            have st := gStep_p (K := gK b n) (m := m) (i := i) (W := W) (o := o) (by rw [hk]; exact e41) hs
            have sl := gStl_len 1 W o
            rw [hs] at sl
            have sl : (40 :: W2).length + o2.length = W.length + o.length := sl
            rw [List.length_cons] at sl
            refine ct_settle (D := D + 1) (r := 1) hr (by decide) W o T (by omega) M1 O1 (fun S2 s1 s2 s3 s4 => ?_)
            rw [hs] at s1 s2
            have s1 : gMs (40 :: W2) S2 := s1
            have s2 : gOu row o2 S2 := s2
            have y46 : S2.1 36 0 46 = nI (W2.length + 1) := s1.1
            have M3 : gMs W2 (xupd S2 36 0 46 (S2.1 36 0 46 - 1)) := ⟨by show S2.1 36 0 46 - 1 = _; rw [y46, nI_pred], gWr.kp (S := S2) W2 (fun j hj => rfl) s1.2.2⟩
            have O3 : gOu row o2 (xupd S2 36 0 46 (S2.1 36 0 46 - 1)) := s2
            have fU : gRf row S2 (xupd S2 36 0 46 (S2.1 36 0 46 - 1)) := by
              refine ⟨fun k i j a b c d => if_neg (fun q => ?_), rfl⟩
              obtain ⟨q1, q2, _⟩ := q; subst q1; subst q2; exact absurd a (by decide)
            have x41 : (xupd S2 36 0 46 (S2.1 36 0 46 - 1)).1 36 0 41 = nI ((gP b n).1 (i + 1)) := (s4 41 (by decide)).trans g1
            refine ct_settle (D := D + 1) (r := 7) hr (by decide) W2 o2 (xupd S2 36 0 46 (S2.1 36 0 46 - 1)) (by omega) M3 O3 (fun S3 u1 u2 u3 u4 => ?_)
            have f3 := (s3.tr fU).tr u3
            first
              | exact hC false m (i + 1) _ _ st S3 none ⟨(u4 41 (by decide)).trans x41, u1, u2, f3.mb b1, f3.mw w1, by rw [gStl_len]; omega, nxt (by omega)⟩ (fR.tr f3)
              | exact hC false m (i + 1) _ _ st S3 (some o4) ⟨(u4 41 (by decide)).trans x41, u1, u2, f3.mb b1, f3.mw w1, by rw [gStl_len]; omega, nxt (by omega)⟩ (fR.tr f3))
  rcases o4 with _ | o4
  all_goals (
    refine V_go pk_168 [20] 60 ?_
    refine ct_M_next (D := D) hb hw h41 (fun T f g => ?_)
    first
      | exact after T none f g
      | exact after T (some o4) f g)
