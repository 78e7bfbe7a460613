/-! text: the model reads -/
theorem gGo_mono {K : GT} {x : (Nat × List Int32) ⊕ Nat} : ∀ (n k : Nat) {s : GS}, gGo K n s = .inr x → gGo K (n + k) s = .inr x
  | 0, _, _, h => by cases h
  | n + 1, k, s, h => by
    have h : (match gStep K s with | .inl s2 => gGo K n s2 | .inr x => .inr x) = .inr x := h
    rw [show n + 1 + k = (n + k) + 1 by omega]
    show (match gStep K s with | .inl s2 => gGo K (n + k) s2 | .inr x => .inr x) = .inr x
    cases e : gStep K s with
    | inl s2 => rw [e] at h; exact gGo_mono n k h
    | inr y => rw [e] at h; exact h
theorem gTo.uniq {K : GT} {s : GS} {x y : (Nat × List Int32) ⊕ Nat} (h : gTo K s (.inr x)) (h2 : gTo K s (.inr y)) : x = y := by
  obtain ⟨n, hn⟩ := h
  obtain ⟨m, hm⟩ := h2
  have a := gGo_mono n m hn
  have b := gGo_mono m n hm
  rw [Nat.add_comm m n] at b
  rw [a] at b
  cases b
  rfl
theorem gStep_i1 {K : GT} {w m : Bool} {i : Nat} {W : List Nat} {o : List Int32} {s2 : GS} (h : gStep K (w, m, i, W, o) = .inl s2) : s2.2.2.1 = i + 1 := by
  cases w with
  | true =>
    have h : (if gOpn (K.1 i) m = true then (if gCnt W < 5 then (.inl (true, !decide (K.1 i = 45), i + 1, (if K.1 i = 45 then 3 else K.1 i) :: W, o) : GO) else .inr (.inr i)) else if K.1 i = 2 ∨ (134 ≤ K.1 i ∧ K.1 i ≤ 139) then .inl (false, m, i + 1, (gStl 7 W (o ++ [gItm K i])).1, (gStl 7 W (o ++ [gItm K i])).2) else .inr (.inr i)) = .inl s2 := h
    split at h
    · split at h
      · cases h; rfl
      · cases h
    · split at h
      · cases h; rfl
      · cases h
  | false =>
    have h : (if K.1 i = 41 ∧ gPar W = true then (.inl (false, m, i + 1, (gStl 7 (gStl 1 W o).1.tail (gStl 1 W o).2).1, (gStl 7 (gStl 1 W o).1.tail (gStl 1 W o).2).2) : GO) else if K.1 i = 59 ∧ gPar W = false then .inr (.inl (i + 1, (gStl 1 W o).2)) else if (K.1 i = 133 ∨ gRk (K.1 i) = 0) ∨ (gRk (K.1 i) = 4 ∧ gCmp W = true) then .inr (.inr i) else .inl (true, decide (gRk (K.1 i) < 3), i + 1, K.1 i :: (gStl (gRk (K.1 i)) W o).1, (gStl (gRk (K.1 i)) W o).2)) = .inl s2 := h
    split at h
    · cases h; rfl
    · split at h
      · cases h
      · split at h
        · cases h
        · cases h; rfl
theorem ct_isRead {D n row i : Nat} {b : Nat → Int32} {S : xS} {Q : xQ} (hr : row < 18) (h41 : S.1 36 0 41 = nI ((gP b n).1 i)) (hb : gMb b n S) (hw : gMw S) (hi : i ≤ (gP b n).1 i)
    (hok : ∀ i2 e, gTo (gK b n) (true, true, i, [], []) (.inr (.inl (i2, e))) → ∀ T, gOu row e T → T.1 36 0 41 = nI ((gP b n).1 i2) → gRf row S T → i2 ≤ (gP b n).1 i2 → e.length ≤ i2 → Q (some (.inl 1)) T)
    (hno : ∀ j, gTo (gK b n) (true, true, i, [], []) (.inr (.inr j)) → ∀ T, T.1 36 0 42 = nI ((gP b n).2 j) → gRf row S T → Q (some (.inl 0)) T) : CT (D + 3) 0 0 m_M_isRead [M0, .inl (nI row)] S Q := by
  have er : (nI row).toNatClampNeg = row := nI_clamp (by omega)
  have hT := gTs_of b hb.2.1
  have loop : ∀ k q, 160 ≤ q + k → ∀ w m W o T (o4 : Option Int32), gHd b n row q W o T → gTo (gK b n) (true, true, i, [], []) (.inl (w, m, q, W, o)) → gRf row S T → V (D + 3) 0 0 m_M_isRead 16 [some M0, some (.inl (nI row)), some (.inl (if w = true then 1 else 0)), some (.inl (if m = true then 1 else 0)), oI o4] [] T Q := by
    intro k
    induction k with
    | zero =>
      intro q hq w m W o T o4 hH hg hf
      refine ct_isR1 hr hH (fun w2 m2 i2 W2 o2 e T2 o42 h2 f2 => ?_) (fun i2 e st T2 a1 a2 a3 a4 a5 => hok i2 e (hg.tr (gTo.en st)) T2 a1 a2 (hf.tr a3) a4 a5) (fun j st T2 a1 a2 => hno j (hg.tr (gTo.en st)) T2 a1 (hf.tr a2)) o4
      have e1 : i2 = q + 1 := gStep_i1 e
      have := h2.2.2.2.2.2.2
      have := (hT.1 i2).1
      omega
    | succ k ih =>
      intro q hq w m W o T o4 hH hg hf
      refine ct_isR1 hr hH (fun w2 m2 i2 W2 o2 e T2 o42 h2 f2 => ?_) (fun i2 e st T2 a1 a2 a3 a4 a5 => hok i2 e (hg.tr (gTo.en st)) T2 a1 a2 (hf.tr a3) a4 a5) (fun j st T2 a1 a2 => hno j (hg.tr (gTo.en st)) T2 a1 (hf.tr a2)) o4
      have e1 : i2 = q + 1 := gStep_i1 e
      exact ih i2 (by omega) w2 m2 W2 o2 T2 o42 h2 (hg.tr (gTo.st e gTo.rf)) (hf.tr f2)
  have fU : gRf row S (xupd (xupd S 62 0 row 0) 36 0 46 0) := by
    refine ⟨fun k i j a b c d => (if_neg (fun q => ?_)).trans (if_neg (fun q => b ⟨q.1, q.2.1⟩)), rfl⟩
    obtain ⟨q1, q2, _⟩ := q; subst q1; subst q2; exact absurd a (by decide)
  refine ct_of (xmok_all (by decide)) rfl (V_go (pc := 0) pk_168 [16] 60 ?_)
  refine And.intro (vi (N := 18) hr) ?_
  rw [er]
  exact loop 160 i (by omega) true true [] [] (xupd (xupd S 62 0 row 0) 36 0 46 0) none ⟨h41, ⟨rfl, trivial⟩, ⟨if_pos ⟨rfl, rfl, rfl⟩, fun j h => absurd h (Nat.not_lt_zero _)⟩, fU.mb hb, fU.mw hw, Nat.zero_le _, hi⟩ gTo.rf fU
/-- what reading a text may change, nt texts being kept -/
def gRg (nt : Nat) (S S' : xS) : Prop := (∀ k i j, fl fMr k j = false → ¬ (k = 62 ∧ 3 * nt ≤ j) → ¬ ((k = 63 ∨ k = 64) ∧ 480 * nt ≤ j) → ¬ k = 68 → S'.1 k i j = S.1 k i j) ∧ S'.2 = S.2
theorem gRg.tr {nt : Nat} {S S1 S2 : xS} (h : gRg nt S S1) (h2 : gRg nt S1 S2) : gRg nt S S2 := ⟨fun k i j a b c d => (h2.1 k i j a b c d).trans (h.1 k i j a b c d), h2.2.trans h.2⟩
theorem gRf.rg {nt p : Nat} {S S2 : xS} (h : gRf (3 * nt + p) S S2) : gRg nt S S2 := ⟨fun k i j a b c d => h.1 k i j a (fun q => b ⟨q.1, by omega⟩) (fun q => c ⟨q.1, by omega⟩) d, h.2⟩
theorem gRg.mb {b : Nat → Int32} {n nt : Nat} {S S2 : xS} (f : gRg nt S S2) (h : gMb b n S) : gMb b n S2 := by
  obtain ⟨h1, h2, h3, h4⟩ := h
  exact ⟨(f.1 36 0 32 rfl (by omega) (by omega) (by decide)).trans h1, h2, fun j hj => (f.1 61 0 j rfl (by omega) (by omega) (by decide)).trans (h3 j hj), h4⟩
theorem gRg.mw {nt : Nat} {S S2 : xS} (f : gRg nt S S2) (h : gMw S) : gMw S2 := by
  obtain ⟨h1, h2⟩ := h
  refine ⟨fun m hm => ⟨(f.1 67 0 m rfl (by omega) (by omega) (by decide)).trans (h1 m hm).1, (f.1 66 0 m rfl (by omega) (by omega) (by decide)).trans (h1 m hm).2⟩, fun j hj => (f.1 65 0 j rfl (by omega) (by omega) (by decide)).trans (h2 j hj)⟩
theorem gRg.nx {nt : Nat} {S S2 : xS} (f : Fr (fl fNx) S S2) : gRg nt S S2 := ⟨fun k i j a _ _ _ => (f.wk (l' := fMr) (by decide)).1 k i j a, f.2⟩
theorem gOu.kp {row r2 : Nat} {o : List Int32} {S S2 : xS} (hl : o.length ≤ 160) (hne : ¬ row = r2) (f : gRf r2 S S2) (h : gOu row o S) : gOu row o S2 := by
  obtain ⟨h1, h2⟩ := h
  refine ⟨(f.1 62 0 row rfl (fun q => hne q.2) (by omega) (by decide)).trans h1, fun j hj => ⟨(f.1 63 0 _ rfl (by omega) (by omega) (by decide)).trans (h2 j hj).1, fun z => (f.1 64 0 _ rfl (by omega) (by omega) (by decide)).trans ((h2 j hj).2 z)⟩⟩
theorem gOu.nx {row : Nat} {o : List Int32} {S S2 : xS} (f : Fr (fl fNx) S S2) (h : gOu row o S) : gOu row o S2 := ⟨(f.1 62 0 row rfl).trans h.1, fun j hj => ⟨(f.1 63 0 _ rfl).trans (h.2 j hj).1, fun z => (f.1 64 0 _ rfl).trans ((h.2 j hj).2 z)⟩⟩
