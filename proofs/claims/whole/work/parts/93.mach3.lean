/-! text: one round of the reading machine -/
theorem tk_f : ∀ k : Fin 140, (k.1 ≤ 2 ∨ (40 ≤ k.1 ∧ k.1 ≤ 61) ∨ 128 ≤ k.1) → (gTm k.1 = 40 ↔ k.1 = 40) ∧ (gTm k.1 = 45 ↔ k.1 = 45) ∧ (gTm k.1 = 111 ↔ k.1 = 133) ∧ (gTm k.1 = 200 ↔ k.1 = 2) ∧ ((100 ≤ gTm k.1 ∧ gTm k.1 < 106) ↔ (134 ≤ k.1 ∧ k.1 ≤ 139)) ∧ (gTm k.1 = 41 ↔ k.1 = 41) ∧ (gTm k.1 = 59 ↔ k.1 = 59) ∧ rkI (gTm k.1) = nI (gRk k.1) ∧ (gTm k.1 = 0 ↔ k.1 = 0) ∧ (gTm k.1 = 106 ↔ k.1 = 128) ∧ (gTm k.1 = 107 ↔ k.1 = 129) ∧ (gTm k.1 = 108 ↔ k.1 = 130) ∧ (134 ≤ k.1 → gTm k.1 = encM (-(nI k.1)) ∧ ¬ 0 ≤ -(nI k.1)) ∧ (¬ gRk k.1 = 0 → ¬ k.1 = 133 → gTm k.1 = gWm k.1 ∧ k.1 ∈ gOps) ∧ gRk k.1 ≤ 7 := by decide +kernel
theorem tk_g {b : Nat → Int32} {n : Nat} (i : Nat) : ((gK b n).1 i ≤ 2 ∨ (40 ≤ (gK b n).1 i ∧ (gK b n).1 i ≤ 61) ∨ 128 ≤ (gK b n).1 i) ∧ (gK b n).1 i < 140 := by
  have := gKd_b b n (gSt b n (gPos b n i))
  show (gKd b n (gSt b n (gPos b n i)) ≤ 2 ∨ _) ∧ _
  have e : (gK b n).1 i = gKd b n (gSt b n (gPos b n i)) := rfl
  rw [e]
  omega
/-- the model stands before token i -/
def gHd (b : Nat → Int32) (n row i : Nat) (W : List Nat) (o : List Int32) (T : xS) : Prop := T.1 36 0 41 = nI ((gP b n).1 i) ∧ gMs W T ∧ gOu row o T ∧ gMb b n T ∧ gMw T ∧ W.length + o.length ≤ i ∧ i ≤ (gP b n).1 i
theorem gRf.mb {b : Nat → Int32} {n row : Nat} {S S2 : xS} (f : gRf row S S2) (h : gMb b n S) : gMb b n S2 := by
  obtain ⟨h1, h2, h3, h4⟩ := h
  exact ⟨(f.1 36 0 32 rfl (by omega) (by omega) (by decide)).trans h1, h2, fun j hj => (f.1 61 0 j rfl (by omega) (by omega) (by decide)).trans (h3 j hj), h4⟩
theorem gRf.mw {row : Nat} {S S2 : xS} (f : gRf row S S2) (h : gMw S) : gMw S2 := by
  obtain ⟨h1, h2⟩ := h
  refine ⟨fun m hm => ⟨(f.1 67 0 m rfl (by omega) (by omega) (by decide)).trans (h1 m hm).1, (f.1 66 0 m rfl (by omega) (by omega) (by decide)).trans (h1 m hm).2⟩, fun j hj => (f.1 65 0 j rfl (by omega) (by omega) (by decide)).trans (h2 j hj)⟩
theorem gRf.nx {row : Nat} {S S2 : xS} (f : Fr (fl fNx) S S2) : gRf row S S2 := ⟨fun k i j a _ _ _ => (f.wk (l' := fMr) (by decide)).1 k i j a, f.2⟩
theorem ct_isR1 {D n row i : Nat} {b : Nat → Int32} {W : List Nat} {o : List Int32} {wants m : Bool} {S : xS} {Q : xQ} (hr : row < 18) (hH : gHd b n row i W o S)
    (hC : ∀ w2 m2 i2 W2 o2, gStep (gK b n) (wants, m, i, W, o) = .inl (w2, m2, i2, W2, o2) → ∀ T (o4 : Option Int32), gHd b n row i2 W2 o2 T → gRf row S T → V (D + 3) 0 0 m_M_isRead 16 [some M0, some (.inl (nI row)), some (.inl (if w2 = true then 1 else 0)), some (.inl (if m2 = true then 1 else 0)), oI o4] [] T Q)
    (hD : ∀ i2 e, gStep (gK b n) (wants, m, i, W, o) = .inr (.inl (i2, e)) → ∀ T, gOu row e T → T.1 36 0 41 = nI ((gP b n).1 i2) → gRf row S T → i2 ≤ (gP b n).1 i2 → e.length ≤ i2 → Q (some (.inl 1)) T)
    (hB : ∀ j, gStep (gK b n) (wants, m, i, W, o) = .inr (.inr j) → ∀ T, T.1 36 0 42 = nI ((gP b n).2 j) → gRf row S T → Q (some (.inl 0)) T) (o4 : Option Int32) : V (D + 3) 0 0 m_M_isRead 16 [some M0, some (.inl (nI row)), some (.inl (if wants = true then 1 else 0)), some (.inl (if m = true then 1 else 0)), oI o4] [] S Q := by
  obtain ⟨h41, hM, hO, hb, hw, hlen, hi⟩ := hH
  have hT := gTs_of b hb.2.1
  have p160 := (hT.1 i).1
  have n160 := hb.2.1
  obtain ⟨ks, k140⟩ := tk_g (b := b) (n := n) i
  have tf := tk_f ⟨(gK b n).1 i, k140⟩ ks
  have tf : (gTm ((gK b n).1 i) = 40 ↔ (gK b n).1 i = 40) ∧ (gTm ((gK b n).1 i) = 45 ↔ (gK b n).1 i = 45) ∧ (gTm ((gK b n).1 i) = 111 ↔ (gK b n).1 i = 133) ∧ (gTm ((gK b n).1 i) = 200 ↔ (gK b n).1 i = 2) ∧ ((100 ≤ gTm ((gK b n).1 i) ∧ gTm ((gK b n).1 i) < 106) ↔ (134 ≤ (gK b n).1 i ∧ (gK b n).1 i ≤ 139)) ∧ (gTm ((gK b n).1 i) = 41 ↔ (gK b n).1 i = 41) ∧ (gTm ((gK b n).1 i) = 59 ↔ (gK b n).1 i = 59) ∧ rkI (gTm ((gK b n).1 i)) = nI (gRk ((gK b n).1 i)) ∧ (gTm ((gK b n).1 i) = 0 ↔ (gK b n).1 i = 0) ∧ (gTm ((gK b n).1 i) = 106 ↔ (gK b n).1 i = 128) ∧ (gTm ((gK b n).1 i) = 107 ↔ (gK b n).1 i = 129) ∧ (gTm ((gK b n).1 i) = 108 ↔ (gK b n).1 i = 130) ∧ (134 ≤ (gK b n).1 i → gTm ((gK b n).1 i) = encM (-(nI ((gK b n).1 i))) ∧ ¬ 0 ≤ -(nI ((gK b n).1 i))) ∧ (¬ gRk ((gK b n).1 i) = 0 → ¬ (gK b n).1 i = 133 → gTm ((gK b n).1 i) = gWm ((gK b n).1 i) ∧ (gK b n).1 i ∈ gOps) ∧ gRk ((gK b n).1 i) ≤ 7 := tf
  have after : ∀ T (o4 : Option Int32), Fr (fl fNx) S T → gTj (gK b n) (gP b n) i T → V (D + 3) 0 0 m_M_isRead 20 [some M0, some (.inl (nI row)), some (.inl (if wants = true then 1 else 0)), some (.inl (if m = true then 1 else 0)), oI o4] [] T Q := by
    intro T o4 f g
    obtain ⟨g1, g2, g3, g4⟩ := g
    have fR : gRf row S T := gRf.nx f
    have M1 : gMs W T := ⟨(f.1 36 0 46 rfl).trans hM.1, gWr.kp W (fun j _ => f.1 68 0 j rfl) hM.2⟩
    have O1 : gOu row o T := ⟨(f.1 62 0 row rfl).trans hO.1, fun j hj => ⟨(f.1 63 0 _ rfl).trans (hO.2 j hj).1, fun z => (f.1 64 0 _ rfl).trans ((hO.2 j hj).2 z)⟩⟩
    have b1 := fR.mb hb
    have w1 := fR.mw hw
    have nxt : ¬ (gK b n).1 i = 0 → i + 1 ≤ (gP b n).1 (i + 1) := fun z => by
      have := hT.2.1 i z
      omega
    have bad : gStep (gK b n) (wants, m, i, W, o) = .inr (.inr i) → ∀ U, U.1 36 0 42 = T.1 36 0 42 → gRf row T U → Q (some (.inl 0)) U := fun e U h1 h2 => hB i e U (h1.trans g2) (fR.tr h2)
    generalize hk : (gK b n).1 i = k at g3 g4 tf nxt k140
    obtain ⟨t1, t2, t3, t4, t5, t6, t7, t8, t9, _, _, _, t13, t14, t15⟩ := tf
    cases wants with
    | true =>
      have op1 : ∀ l4 : Int32, gOpn k m = true → V (D + 3) 0 0 m_M_isRead 62 [some M0, some (.inl (nI row)), some (.inl 1), some (.inl (if m = true then 1 else 0)), some (.inl 1)] [] T Q := by
        intro l4 ho
        sorry
      have op0 : ¬ gOpn k m = true → V (D + 3) 0 0 m_M_isRead 62 [some M0, some (.inl (nI row)), some (.inl 1), some (.inl (if m = true then 1 else 0)), some (.inl 0)] [] T Q := by
        intro ho
        sorry
      sorry
    | false =>
      sorry
  rcases o4 with _ | o4
  all_goals (
    refine V_go pk_168 [20] 60 ?_
    refine ct_M_next (D := D) hb hw h41 (fun T f g => ?_)
    first
      | exact after T none f g
      | exact after T (some o4) f g)
