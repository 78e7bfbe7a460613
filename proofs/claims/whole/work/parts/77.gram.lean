/-! text: the waiting operators -/
def gRk (w : Nat) : Nat := if w = 131 then 1 else if w = 132 then 2 else if w = 133 then 3 else if w = 60 then 4 else if w = 61 then 4 else if w = 43 then 5 else if w = 45 then 5 else if w = 42 then 6 else if w = 3 then 7 else 0
def gStl (r : Nat) : List Nat → List Int32 → List Nat × List Int32
  | [], o => ([], o)
  | w :: W, o => if r ≤ gRk w then gStl r W (o ++ [-(nI w)]) else (w :: W, o)
def gCnt : List Nat → Nat
  | [] => 0
  | w :: W => gCnt W + (if w = 40 ∨ w = 133 ∨ w = 3 then 1 else 0)
def gPar : List Nat → Bool
  | [] => false
  | w :: W => (if w = 40 then true else gPar W)
def gCmp : List Nat → Bool
  | [] => false
  | w :: W => if 4 < gRk w then gCmp W else decide (gRk w = 4)
/-- wants one, may be not, the token, what waits, what is out -/
abbrev GS : Type := Bool × Bool × Nat × List Nat × List Int32
abbrev GO : Type := GS ⊕ ((Nat × List Int32) ⊕ Nat)
abbrev GT : Type := (Nat → Nat) × (Nat → Nat)
def gOpn (t : Nat) (m : Bool) : Bool := decide (t = 40) || (decide (t = 45) || (decide (t = 133) && m))
def gItm (K : GT) (i : Nat) : Int32 := if K.1 i = 2 then nI (K.2 i) else -(nI (K.1 i))
def gStep (K : GT) (s : GS) : GO := match s with
  | (true, m, i, W, o) => if gOpn (K.1 i) m = true then (if gCnt W < 5 then .inl (true, !decide (K.1 i = 45), i + 1, (if K.1 i = 45 then 3 else K.1 i) :: W, o) else .inr (.inr i)) else if K.1 i = 2 ∨ (134 ≤ K.1 i ∧ K.1 i ≤ 139) then .inl (false, m, i + 1, (gStl 7 W (o ++ [gItm K i])).1, (gStl 7 W (o ++ [gItm K i])).2) else .inr (.inr i)
  | (false, m, i, W, o) => if K.1 i = 41 ∧ gPar W = true then .inl (false, m, i + 1, (gStl 7 (gStl 1 W o).1.tail (gStl 1 W o).2).1, (gStl 7 (gStl 1 W o).1.tail (gStl 1 W o).2).2) else if K.1 i = 59 ∧ gPar W = false then .inr (.inl (i + 1, (gStl 1 W o).2)) else if (K.1 i = 133 ∨ gRk (K.1 i) = 0) ∨ (gRk (K.1 i) = 4 ∧ gCmp W = true) then .inr (.inr i) else .inl (true, decide (gRk (K.1 i) < 3), i + 1, K.1 i :: (gStl (gRk (K.1 i)) W o).1, (gStl (gRk (K.1 i)) W o).2)
def gGo (K : GT) : Nat → GS → GO
  | 0, s => .inl s
  | n + 1, s => match gStep K s with
    | .inl s2 => gGo K n s2
    | .inr x => .inr x
def gTo (K : GT) (s : GS) (x : GO) : Prop := ∃ n, gGo K n s = x
theorem gTo.rf {K : GT} {s : GS} : gTo K s (.inl s) := ⟨0, rfl⟩
theorem gTo.st {K : GT} {s s2 : GS} {x : GO} (h : gStep K s = .inl s2) (h2 : gTo K s2 x) : gTo K s x := by
  obtain ⟨n, hn⟩ := h2
  refine ⟨n + 1, ?_⟩
  show (match gStep K s with | .inl s2 => gGo K n s2 | .inr x => .inr x) = x
  rw [h]; exact hn
theorem gTo.en {K : GT} {s : GS} {y : (Nat × List Int32) ⊕ Nat} (h : gStep K s = .inr y) : gTo K s (.inr y) := by
  refine ⟨1, ?_⟩
  show (match gStep K s with | .inl s2 => gGo K 0 s2 | .inr x => .inr x) = _
  rw [h]
theorem gTo.tr {K : GT} {s s2 : GS} {x : GO} (h : gTo K s (.inl s2)) (h2 : gTo K s2 x) : gTo K s x := by
  obtain ⟨n, hn⟩ := h
  induction n generalizing s with
  | zero => cases hn; exact h2
  | succ n ih =>
    have hn : (match gStep K s with | .inl s2 => gGo K n s2 | .inr x => .inr x) = .inl s2 := hn
    cases e : gStep K s with
    | inl s3 =>
      rw [e] at hn
      exact gTo.st e (ih hn)
    | inr y => rw [e] at hn; cases hn
theorem gStl_stl {r r2 : Nat} (h : r2 ≤ r) : ∀ (W : List Nat) (o : List Int32), gStl r2 (gStl r W o).1 (gStl r W o).2 = gStl r2 W o
  | [], _ => rfl
  | w :: W, o => by
    by_cases c : r ≤ gRk w
    · have e : gStl r (w :: W) o = gStl r W (o ++ [-(nI w)]) := if_pos c
      have e2 : gStl r2 (w :: W) o = gStl r2 W (o ++ [-(nI w)]) := if_pos (Nat.le_trans h c)
      rw [e, e2]
      exact gStl_stl h W _
    · have e : gStl r (w :: W) o = (w :: W, o) := if_neg c
      rw [e]
/-- the head waits below rank r -/
def gLow (r : Nat) (W : List Nat) : Prop := match W with
  | [] => True
  | w :: _ => gRk w < r
theorem gLow.stl {r : Nat} {W : List Nat} (h : gLow r W) (o : List Int32) : gStl r W o = (W, o) := by
  cases W with
  | nil => rfl
  | cons w W =>
    unfold gStl
    exact if_neg (by have h : gRk w < r := h; omega)
theorem gLow.up {r r2 : Nat} {W : List Nat} (h : gLow r W) (hr : r ≤ r2) : gLow r2 W := by
  cases W with
  | nil => trivial
  | cons w W => have h : gRk w < r := h; show gRk w < r2; omega
def gEq (r : Nat) (W2 : List Nat) (o2 : List Int32) (W : List Nat) (o : List Int32) : Prop := ∀ q, 1 ≤ q → q ≤ r → gStl q W2 o2 = gStl q W o
theorem gEq.op {r w : Nat} {W2 W : List Nat} {o2 o : List Int32} (h : gEq r W2 o2 (w :: W) o) {r2 : Nat} (h1 : r2 ≤ r) (h2 : r2 ≤ gRk w) : gEq r2 W2 o2 W (o ++ [-(nI w)]) := by
  intro q q1 q2
  rw [h q q1 (by omega)]
  show gStl q (w :: W) o = _
  rw [gStl, if_pos (by omega)]
theorem gEq.dn {r r2 : Nat} {W2 W : List Nat} {o2 o : List Int32} (h : gEq r W2 o2 W o) (h1 : r2 ≤ r) : gEq r2 W2 o2 W o := fun q q1 q2 => h q q1 (by omega)
theorem gPar_stl : ∀ (W : List Nat) (o : List Int32), gPar (gStl 1 W o).1 = gPar W
  | [], _ => rfl
  | w :: W, o => by
    unfold gStl
    by_cases c : 1 ≤ gRk w
    · rw [if_pos c, gPar_stl W]
      show _ = (if w = 40 then true else gPar W)
      rw [if_neg]
      intro e; subst e; exact absurd c (by decide)
    · rw [if_neg c]
theorem gCmp_stl : ∀ (W : List Nat) (o : List Int32), gCmp (gStl 5 W o).1 = gCmp W
  | [], _ => rfl
  | w :: W, o => by
    unfold gStl
    by_cases c : 5 ≤ gRk w
    · rw [if_pos c, gCmp_stl W]
      show _ = (if 4 < gRk w then gCmp W else decide (gRk w = 4))
      rw [if_pos (by omega)]
    · rw [if_neg c]
theorem gLow.cmp {W : List Nat} (h : gLow 4 W) : gCmp W = false := by
  cases W with
  | nil => rfl
  | cons w W =>
    have h : gRk w < 4 := h
    show (if 4 < gRk w then gCmp W else decide (gRk w = 4)) = false
    rw [if_neg (by omega)]
    exact decide_eq_false (by omega)
/-- where reading of a level ends: what the token there is not; level 1 Or .. 7 One -/
def gEx (lv t : Nat) (W : List Nat) : Prop := (lv ≤ 1 → t ≠ 131) ∧ (lv ≤ 2 → t ≠ 132) ∧ (lv ≤ 4 → (t = 60 ∨ t = 61) → gCmp W = true) ∧ (lv ≤ 5 → t ≠ 43 ∧ t ≠ 45) ∧ (lv ≤ 6 → t ≠ 42)
/-- what may wait where a level is read from -/
def gPr (lv : Nat) (t : Nat) (m : Bool) (W : List Nat) : Prop := (lv ≤ 3 → m = true) ∧ (4 ≤ lv → ¬ (t = 133 ∧ m = true)) ∧ (lv = 1 → gLow 1 W) ∧ (lv = 2 → gLow 2 W) ∧ (lv = 3 → gLow 4 W) ∧ (lv = 4 → gLow 4 W) ∧ (lv = 5 → gLow 5 W) ∧ (lv = 6 → gLow 6 W)
def gRk' (lv : Nat) : Nat := lv
def gOk (K : GT) (lv i op i2 : Nat) (e : List Int32) : Prop := ∀ m W o, gCnt W = op → gPr lv (K.1 i) m W → ∃ m2 W2 o2, gTo K (true, m, i, W, o) (.inl (false, m2, i2, W2, o2)) ∧ gEq lv W2 o2 W (o ++ e) ∧ gEx lv (K.1 i2) W2
def gNo (K : GT) (lv i op j : Nat) : Prop := ∀ m W o, gCnt W = op → gPr lv (K.1 i) m W → gTo K (true, m, i, W, o) (.inr (.inr j))
theorem gEq.ap {r : Nat} {W2 W : List Nat} {o2 o e : List Int32} {x : Int32} (h : gEq r W2 o2 W ((o ++ e) ++ [x])) : gEq r W2 o2 W (o ++ (e ++ [x])) := by rw [← List.append_assoc]; exact h
theorem gStl_o (r w : Nat) (W : List Nat) (o : List Int32) : gStl r (w :: W) o = if r ≤ gRk w then gStl r W (o ++ [-(nI w)]) else (w :: W, o) := rfl
theorem gCnt_op {t : Nat} {W : List Nat} (h : ¬ (t = 40 ∨ t = 133 ∨ t = 3)) : gCnt (t :: W) = gCnt W := by
  show gCnt W + (if t = 40 ∨ t = 133 ∨ t = 3 then 1 else 0) = gCnt W
  rw [if_neg h, Nat.add_zero]
theorem gCnt_up {t : Nat} {W : List Nat} (h : t = 40 ∨ t = 133 ∨ t = 3) : gCnt (t :: W) = gCnt W + 1 := by
  show gCnt W + (if t = 40 ∨ t = 133 ∨ t = 3 then 1 else 0) = gCnt W + 1
  rw [if_pos h]
theorem gStep_o {K : GT} {m : Bool} {i : Nat} {W : List Nat} {o : List Int32} (h : gOpn (K.1 i) m = true) (hc : gCnt W < 5) : gStep K (true, m, i, W, o) = .inl (true, !decide (K.1 i = 45), i + 1, (if K.1 i = 45 then 3 else K.1 i) :: W, o) := by
  show (if gOpn (K.1 i) m = true then _ else _) = _
  rw [if_pos h, if_pos hc]
theorem gStep_f {K : GT} {m : Bool} {i : Nat} {W : List Nat} {o : List Int32} (h : gOpn (K.1 i) m = true) (hc : ¬ gCnt W < 5) : gStep K (true, m, i, W, o) = .inr (.inr i) := by
  show (if gOpn (K.1 i) m = true then _ else _) = _
  rw [if_pos h, if_neg hc]
theorem gStep_i {K : GT} {m : Bool} {i : Nat} {W : List Nat} {o : List Int32} (h : K.1 i = 2 ∨ (134 ≤ K.1 i ∧ K.1 i ≤ 139)) : gStep K (true, m, i, W, o) = .inl (false, m, i + 1, (gStl 7 W (o ++ [gItm K i])).1, (gStl 7 W (o ++ [gItm K i])).2) := by
  have n : ¬ gOpn (K.1 i) m = true := by
    unfold gOpn
    rw [decide_eq_false (by omega), decide_eq_false (by omega), decide_eq_false (by omega)]
    cases m <;> decide
  show (if gOpn (K.1 i) m = true then _ else _) = _
  rw [if_neg n, if_pos h]
theorem gStep_b {K : GT} {m : Bool} {i : Nat} {W : List Nat} {o : List Int32} (h : ¬ (K.1 i = 2 ∨ (134 ≤ K.1 i ∧ K.1 i ≤ 139))) (h40 : ¬ K.1 i = 40) (h45 : ¬ K.1 i = 45) (hm : ¬ (K.1 i = 133 ∧ m = true)) : gStep K (true, m, i, W, o) = .inr (.inr i) := by
  have n : ¬ gOpn (K.1 i) m = true := by
    unfold gOpn
    rw [decide_eq_false h40, decide_eq_false h45]
    by_cases c : K.1 i = 133
    · rw [decide_eq_true c]
      cases m with
      | true => exact absurd ⟨c, rfl⟩ hm
      | false => decide
    · rw [decide_eq_false c]; simp
  show (if gOpn (K.1 i) m = true then _ else _) = _
  rw [if_neg n, if_neg h]
/-- a binary operator -/
theorem gStep_2 {K : GT} {m : Bool} {i : Nat} {W : List Nat} {o : List Int32} (h0 : ¬ gRk (K.1 i) = 0) (h133 : ¬ K.1 i = 133) (hc : gRk (K.1 i) = 4 → gCmp W = false) : gStep K (false, m, i, W, o) = .inl (true, decide (gRk (K.1 i) < 3), i + 1, K.1 i :: (gStl (gRk (K.1 i)) W o).1, (gStl (gRk (K.1 i)) W o).2) := by
  have n41 : ¬ K.1 i = 41 := fun e => h0 (by rw [e]; rfl)
  have n59 : ¬ K.1 i = 59 := fun e => h0 (by rw [e]; rfl)
  show (if K.1 i = 41 ∧ gPar W = true then _ else if K.1 i = 59 ∧ gPar W = false then _ else if (K.1 i = 133 ∨ gRk (K.1 i) = 0) ∨ (gRk (K.1 i) = 4 ∧ gCmp W = true) then _ else _) = _
  rw [if_neg (fun q => n41 q.1), if_neg (fun q => n59 q.1), if_neg]
  rintro (q | q)
  · exact q.elim h133 h0
  · rw [hc q.1] at q; exact absurd q.2 (by decide)
theorem gStep_p {K : GT} {m : Bool} {i : Nat} {W W2 : List Nat} {o o2 : List Int32} (h : K.1 i = 41) (hs : gStl 1 W o = (40 :: W2, o2)) : gStep K (false, m, i, W, o) = .inl (false, m, i + 1, (gStl 7 W2 o2).1, (gStl 7 W2 o2).2) := by
  have hp : gPar W = true := by
    rw [← gPar_stl W o, hs]; rfl
  show (if K.1 i = 41 ∧ gPar W = true then _ else _) = _
  rw [if_pos ⟨h, hp⟩, hs]
  rfl
/-- no operator and no end: the fault -/
theorem gStep_x {K : GT} {m : Bool} {i : Nat} {W : List Nat} {o : List Int32} (hx : gEx 1 (K.1 i) W) (h3 : ¬ K.1 i = 3) (h41 : ¬ (K.1 i = 41 ∧ gPar W = true)) (h59 : ¬ (K.1 i = 59 ∧ gPar W = false)) : gStep K (false, m, i, W, o) = .inr (.inr i) := by
  obtain ⟨x1, x2, x3, x4, x5⟩ := hx
  have x1 := x1 (by decide)
  have x2 := x2 (by decide)
  have x3 := x3 (by decide)
  have x4 := x4 (by decide)
  have x5 := x5 (by decide)
  show (if K.1 i = 41 ∧ gPar W = true then _ else if K.1 i = 59 ∧ gPar W = false then _ else if (K.1 i = 133 ∨ gRk (K.1 i) = 0) ∨ (gRk (K.1 i) = 4 ∧ gCmp W = true) then _ else _) = _
  rw [if_neg h41, if_neg h59, if_pos]
  by_cases c : K.1 i = 60 ∨ K.1 i = 61
  · refine Or.inr ⟨?_, x3 c⟩
    rcases c with e | e <;> (rw [e]; rfl)
  · by_cases c2 : K.1 i = 133
    · exact Or.inl (Or.inl c2)
    · refine Or.inl (Or.inr ?_)
      unfold gRk
      rw [if_neg x1, if_neg x2, if_neg c2, if_neg (fun e => c (Or.inl e)), if_neg (fun e => c (Or.inr e)), if_neg x4.1, if_neg x4.2, if_neg x5, if_neg h3]
-- One
theorem gOk.item {K : GT} {i op : Nat} (h : K.1 i = 2 ∨ (134 ≤ K.1 i ∧ K.1 i ≤ 139)) : gOk K 7 i op (i + 1) [gItm K i] := fun m W o _ _ => by
  refine ⟨m, _, _, gTo.st (gStep_i h) gTo.rf, fun q q1 q2 => gStl_stl q2 W _, fun h => absurd h (by decide), fun h => absurd h (by decide), fun h => absurd h (by decide), fun h => absurd h (by decide), fun h => absurd h (by decide)⟩
theorem gNo.item {K : GT} {i op : Nat} (h : ¬ (K.1 i = 2 ∨ (134 ≤ K.1 i ∧ K.1 i ≤ 139))) (h40 : ¬ K.1 i = 40) (h45 : ¬ K.1 i = 45) : gNo K 7 i op i := fun m W o _ hp => gTo.en (gStep_b h h40 h45 (hp.2.1 (by decide)))
theorem gOpn_45 {t : Nat} {m : Bool} (h : t = 45) : gOpn t m = true := by subst h; rfl
theorem gOpn_40 {t : Nat} {m : Bool} (h : t = 40) : gOpn t m = true := by subst h; rfl
theorem gOpn_133 {t : Nat} (h : t = 133) : gOpn t true = true := by subst h; rfl
theorem gNo.full {K : GT} {i op : Nat} (h : K.1 i = 45 ∨ K.1 i = 40) (ho : ¬ op < 5) : gNo K 7 i op i := fun m W o hc _ => gTo.en (gStep_f (h.elim gOpn_45 gOpn_40) (by omega))
theorem gPr.neg {K : GT} {i : Nat} {W : List Nat} : gPr 7 (K.1 i) false W := ⟨fun h => absurd h (by decide), fun _ q => absurd q.2 (by decide), fun h => absurd h (by decide), fun h => absurd h (by decide), fun h => absurd h (by decide), fun h => absurd h (by decide), fun h => absurd h (by decide), fun h => absurd h (by decide)⟩
theorem gOpen45 {K : GT} {m : Bool} {i op : Nat} {W : List Nat} {o : List Int32} (h : K.1 i = 45) (hc : gCnt W = op) (ho : op < 5) : gStep K (true, m, i, W, o) = .inl (true, false, i + 1, 3 :: W, o) := by
  rw [gStep_o (gOpn_45 h) (by omega), decide_eq_true h, if_pos h]; rfl
theorem gOpen40 {K : GT} {m : Bool} {i op : Nat} {W : List Nat} {o : List Int32} (h : K.1 i = 40) (hc : gCnt W = op) (ho : op < 5) : gStep K (true, m, i, W, o) = .inl (true, true, i + 1, 40 :: W, o) := by
  rw [gStep_o (gOpn_40 h) (by omega), decide_eq_false (by omega), if_neg (by omega), h]; rfl
theorem gOpen133 {K : GT} {i op : Nat} {W : List Nat} {o : List Int32} (h : K.1 i = 133) (hc : gCnt W = op) (ho : op < 5) : gStep K (true, true, i, W, o) = .inl (true, true, i + 1, 133 :: W, o) := by
  rw [gStep_o (gOpn_133 h) (by omega), decide_eq_false (by omega), if_neg (by omega), h]; rfl
theorem gEx.seven {t : Nat} {W : List Nat} : gEx 7 t W := ⟨fun h => absurd h (by decide), fun h => absurd h (by decide), fun h => absurd h (by decide), fun h => absurd h (by decide), fun h => absurd h (by decide)⟩
theorem gOk.neg {K : GT} {i op i2 : Nat} {e : List Int32} (h : K.1 i = 45) (ho : op < 5) (hi : gOk K 7 (i + 1) (op + 1) i2 e) : gOk K 7 i op i2 (e ++ [-(nI 3)]) := fun m W o hc _ => by
  obtain ⟨m2, W2, o2, h1, h2, h3⟩ := hi false (3 :: W) o (by rw [gCnt_up (Or.inr (Or.inr rfl)), hc]) gPr.neg
  exact ⟨m2, W2, o2, gTo.st (gOpen45 h hc ho) h1, (h2.op (Nat.le_refl _) (by decide)).ap, h3⟩
theorem gNo.neg {K : GT} {i op j : Nat} (h : K.1 i = 45) (ho : op < 5) (hi : gNo K 7 (i + 1) (op + 1) j) : gNo K 7 i op j := fun m W o hc _ => gTo.st (gOpen45 h hc ho) (hi false (3 :: W) o (by rw [gCnt_up (Or.inr (Or.inr rfl)), hc]) gPr.neg)
theorem gPr.or {t : Nat} {W : List Nat} (h : gLow 1 W) : gPr 1 t true W := ⟨fun _ => rfl, fun h => absurd h (by decide), fun _ => h, fun h => absurd h (by decide), fun h => absurd h (by decide), fun h => absurd h (by decide), fun h => absurd h (by decide), fun h => absurd h (by decide)⟩
theorem gOk.par {K : GT} {i op i2 : Nat} {e : List Int32} (h : K.1 i = 40) (ho : op < 5) (hi : gOk K 1 (i + 1) (op + 1) i2 e) (h2 : K.1 i2 = 41) : gOk K 7 i op (i2 + 1) e := fun m W o hc _ => by
  obtain ⟨m2, W2, o2, g1, g2, g3⟩ := hi true (40 :: W) o (by rw [gCnt_up (Or.inl rfl), hc]) (gPr.or (show gRk 40 < 1 by decide))
  have e1 : gStl 1 W2 o2 = (40 :: W, o ++ e) := (g2 1 (by decide) (by decide)).trans (gLow.stl (W := 40 :: W) (show gRk 40 < 1 by decide) _)
  exact ⟨m2, _, _, gTo.st (gOpen40 h hc ho) (gTo.tr g1 (gTo.st (gStep_p h2 e1) gTo.rf)), fun q q1 q2 => gStl_stl q2 W _, gEx.seven⟩
theorem gNo.par {K : GT} {i op j : Nat} (h : K.1 i = 40) (ho : op < 5) (hi : gNo K 1 (i + 1) (op + 1) j) : gNo K 7 i op j := fun m W o hc _ => gTo.st (gOpen40 h hc ho) (hi true (40 :: W) o (by rw [gCnt_up (Or.inl rfl), hc]) (gPr.or (show gRk 40 < 1 by decide)))
theorem gNo.par2 {K : GT} {i op i2 : Nat} {e : List Int32} (h3 : ∀ i, ¬ K.1 i = 3) (h : K.1 i = 40) (ho : op < 5) (hi : gOk K 1 (i + 1) (op + 1) i2 e) (h2 : ¬ K.1 i2 = 41) : gNo K 7 i op i2 := fun m W o hc _ => by
  obtain ⟨m2, W2, o2, g1, g2, g3⟩ := hi true (40 :: W) o (by rw [gCnt_up (Or.inl rfl), hc]) (gPr.or (show gRk 40 < 1 by decide))
  have e1 : gStl 1 W2 o2 = (40 :: W, o ++ e) := (g2 1 (by decide) (by decide)).trans (gLow.stl (W := 40 :: W) (show gRk 40 < 1 by decide) _)
  have hp : gPar W2 = true := by rw [← gPar_stl W2 o2, e1]; rfl
  exact gTo.st (gOpen40 h hc ho) (gTo.tr g1 (gTo.en (gStep_x g3 (h3 i2) (fun q => h2 q.1) (fun q => by rw [hp] at q; exact absurd q.2 (by decide)))))
-- binary levels
def gSo (K : GT) (lv i op i2 : Nat) (e : List Int32) : Prop := ∀ m W o, gCnt W = op → gPr lv (K.1 i) m W → ∃ m2 W2 o2, gTo K (true, m, i, W, o) (.inl (false, m2, i2, W2, o2)) ∧ gEq lv W2 o2 W (o ++ e) ∧ gEx (lv + 1) (K.1 i2) W2
theorem gPr.sub {lv t : Nat} {m : Bool} {W : List Nat} (hl : lv = 1 ∨ lv = 2 ∨ lv = 5 ∨ lv = 6) (h : gPr lv t m W) : gPr (lv + 1) t m W := by
  obtain ⟨p1, p2, p3, p4, p5, p6, p7, p8⟩ := h
  rcases hl with e | e | e | e <;> subst e
  · exact ⟨fun _ => p1 (by decide), fun h => absurd h (by decide), fun h => absurd h (by decide), fun _ => (p3 rfl).up (by decide), fun h => absurd h (by decide), fun h => absurd h (by decide), fun h => absurd h (by decide), fun h => absurd h (by decide)⟩
  · exact ⟨fun _ => p1 (by decide), fun h => absurd h (by decide), fun h => absurd h (by decide), fun h => absurd h (by decide), fun _ => (p4 rfl).up (by decide), fun h => absurd h (by decide), fun h => absurd h (by decide), fun h => absurd h (by decide)⟩
  · exact ⟨fun h => absurd h (by decide), fun _ => p2 (by decide), fun h => absurd h (by decide), fun h => absurd h (by decide), fun h => absurd h (by decide), fun h => absurd h (by decide), fun h => absurd h (by decide), fun _ => (p7 rfl).up (by decide)⟩
  · exact ⟨fun h => absurd h (by decide), fun _ => p2 (by decide), fun h => absurd h (by decide), fun h => absurd h (by decide), fun h => absurd h (by decide), fun h => absurd h (by decide), fun h => absurd h (by decide), fun h => absurd h (by decide)⟩
theorem gPr.low {lv t : Nat} {m : Bool} {W : List Nat} (hl : lv = 1 ∨ lv = 2 ∨ lv = 5 ∨ lv = 6) (h : gPr lv t m W) : gLow lv W := by
  obtain ⟨p1, p2, p3, p4, p5, p6, p7, p8⟩ := h
  rcases hl with e | e | e | e <;> subst e
  · exact p3 rfl
  · exact p4 rfl
  · exact p7 rfl
  · exact p8 rfl
theorem gPr.nxt {lv t w : Nat} {W : List Nat} (hl : lv = 1 ∨ lv = 2 ∨ lv = 5 ∨ lv = 6) (hw : gRk w = lv) : gPr (lv + 1) t (decide (gRk w < 3)) (w :: W) := by
  rcases hl with e | e | e | e <;> subst e
  · exact ⟨fun _ => decide_eq_true (by omega), fun h => absurd h (by decide), fun h => absurd h (by decide), fun _ => (show gRk w < 2 by omega), fun h => absurd h (by decide), fun h => absurd h (by decide), fun h => absurd h (by decide), fun h => absurd h (by decide)⟩
  · exact ⟨fun _ => decide_eq_true (by omega), fun h => absurd h (by decide), fun h => absurd h (by decide), fun h => absurd h (by decide), fun _ => (show gRk w < 4 by omega), fun h => absurd h (by decide), fun h => absurd h (by decide), fun h => absurd h (by decide)⟩
  · exact ⟨fun h => absurd h (by decide), fun _ q => by rw [decide_eq_false (by omega)] at q; exact absurd q.2 (by decide), fun h => absurd h (by decide), fun h => absurd h (by decide), fun h => absurd h (by decide), fun h => absurd h (by decide), fun h => absurd h (by decide), fun _ => (show gRk w < 6 by omega)⟩
  · exact ⟨fun h => absurd h (by decide), fun _ q => by rw [decide_eq_false (by omega)] at q; exact absurd q.2 (by decide), fun h => absurd h (by decide), fun h => absurd h (by decide), fun h => absurd h (by decide), fun h => absurd h (by decide), fun h => absurd h (by decide), fun h => absurd h (by decide)⟩
theorem gOk.so {K : GT} {lv i op i2 : Nat} {e : List Int32} (hl : lv = 1 ∨ lv = 2 ∨ lv = 5 ∨ lv = 6) (h : gOk K (lv + 1) i op i2 e) : gSo K lv i op i2 e := fun m W o hc hp => by
  obtain ⟨m2, W2, o2, g1, g2, g3⟩ := h m W o hc (hp.sub hl)
  exact ⟨m2, W2, o2, g1, g2.dn (by omega), g3⟩
theorem gNo.so {K : GT} {lv i op j : Nat} (hl : lv = 1 ∨ lv = 2 ∨ lv = 5 ∨ lv = 6) (h : gNo K (lv + 1) i op j) : gNo K lv i op j := fun m W o hc hp => h m W o hc (hp.sub hl)
theorem gSo.go {K : GT} {lv i op i1 : Nat} {e1 : List Int32} (hl : lv = 1 ∨ lv = 2 ∨ lv = 5 ∨ lv = 6) (h : gSo K lv i op i1 e1) (hw : gRk (K.1 i1) = lv) {m : Bool} {W : List Nat} {o : List Int32} (hc : gCnt W = op) (hp : gPr lv (K.1 i) m W) : gTo K (true, m, i, W, o) (.inl (true, decide (gRk (K.1 i1) < 3), i1 + 1, K.1 i1 :: W, o ++ e1)) := by
  obtain ⟨m2, W2, o2, g1, g2, g3⟩ := h m W o hc hp
  have n133 : ¬ K.1 i1 = 133 := fun e => by rw [e] at hw; have : gRk 133 = 3 := rfl; omega
  have es : gStl (gRk (K.1 i1)) W2 o2 = (W, o ++ e1) := by
    rw [hw]
    exact (g2 lv (by omega) (Nat.le_refl _)).trans ((hp.low hl).stl _)
  have st := gStep_2 (K := K) (m := m2) (i := i1) (W := W2) (o := o2) (by omega) n133 (fun q => by omega)
  rw [es] at st
  exact gTo.tr g1 (gTo.st st gTo.rf)
theorem gCnt_2 {lv t : Nat} {W : List Nat} (hl : lv = 1 ∨ lv = 2 ∨ lv = 5 ∨ lv = 6) (hw : gRk t = lv) : gCnt (t :: W) = gCnt W := gCnt_op (by
  rintro (e | e | e)
  · rw [e] at hw; have : gRk 40 = 0 := rfl; omega
  · rw [e] at hw; have : gRk 133 = 3 := rfl; omega
  · rw [e] at hw; have : gRk 3 = 7 := rfl; omega)
theorem gSo.op {K : GT} {lv i op i1 i2 : Nat} {e1 e2 : List Int32} (hl : lv = 1 ∨ lv = 2 ∨ lv = 5 ∨ lv = 6) (h : gSo K lv i op i1 e1) (hw : gRk (K.1 i1) = lv) (h2 : gOk K (lv + 1) (i1 + 1) op i2 e2) : gSo K lv i op i2 ((e1 ++ e2) ++ [-(nI (K.1 i1))]) := fun m W o hc hp => by
  obtain ⟨m2, W2, o2, g1, g2, g3⟩ := h2 (decide (gRk (K.1 i1) < 3)) (K.1 i1 :: W) (o ++ e1) ((gCnt_2 hl hw).trans hc) (gPr.nxt hl hw)
  refine ⟨m2, W2, o2, gTo.tr (h.go hl hw hc hp) g1, ?_, g3⟩
  have := g2.op (r2 := lv) (by omega) (by omega)
  rw [← List.append_assoc, ← List.append_assoc]
  exact this
theorem gSo.no {K : GT} {lv i op i1 j : Nat} {e1 : List Int32} (hl : lv = 1 ∨ lv = 2 ∨ lv = 5 ∨ lv = 6) (h : gSo K lv i op i1 e1) (hw : gRk (K.1 i1) = lv) (h2 : gNo K (lv + 1) (i1 + 1) op j) : gNo K lv i op j := fun m W o hc hp => gTo.tr (h.go hl hw hc hp) (h2 _ _ _ ((gCnt_2 hl hw).trans hc) (gPr.nxt hl hw))
theorem gSo.fi {K : GT} {lv i op i2 : Nat} {e : List Int32} (hl : lv = 1 ∨ lv = 2 ∨ lv = 5 ∨ lv = 6) (h : gSo K lv i op i2 e) (hw : ¬ gRk (K.1 i2) = lv) : gOk K lv i op i2 e := fun m W o hc hp => by
  have z1 : lv ≤ 1 → lv = 1 := by omega
  have z2 : lv ≤ 2 → lv + 1 ≤ 2 ∨ lv = 2 := by omega
  have z3 : lv ≤ 4 → lv + 1 ≤ 4 := by omega
  have z4 : lv ≤ 5 → lv + 1 ≤ 5 ∨ lv = 5 := by omega
  have z5 : lv ≤ 6 → lv + 1 ≤ 6 ∨ lv = 6 := by omega
  obtain ⟨m2, W2, o2, g1, g2, x1, x2, x3, x4, x5⟩ := h m W o hc hp
  refine ⟨m2, W2, o2, g1, g2, ⟨fun z q => hw ?_, fun z q => ?_, fun z => x3 (z3 z), fun z => ?_, fun z q => ?_⟩⟩
  · rw [q, z1 z]; rfl
  · rcases z2 z with y | y
    · exact x2 y q
    · exact hw (by rw [q, y]; rfl)
  · rcases z4 z with y | y
    · exact x4 y
    · exact ⟨fun q => hw (by rw [q, y]; rfl), fun q => hw (by rw [q, y]; rfl)⟩
  · rcases z5 z with y | y
    · exact x5 y q
    · exact hw (by rw [q, y]; rfl)
-- Not
theorem gPr.n4 {t : Nat} {m : Bool} {W : List Nat} (h : gPr 3 t m W) (ht : ¬ t = 133) : gPr 4 t m W := ⟨fun h => absurd h (by decide), fun _ q => ht q.1, fun h => absurd h (by decide), fun h => absurd h (by decide), fun h => absurd h (by decide), fun _ => h.2.2.2.2.1 rfl, fun h => absurd h (by decide), fun h => absurd h (by decide)⟩
theorem gOk.not0 {K : GT} {i op i2 : Nat} {e : List Int32} (h : ¬ K.1 i = 133) (hi : gOk K 4 i op i2 e) : gOk K 3 i op i2 e := fun m W o hc hp => by
  obtain ⟨m2, W2, o2, g1, g2, x1, x2, x3, x4, x5⟩ := hi m W o hc (hp.n4 h)
  exact ⟨m2, W2, o2, g1, g2.dn (by decide), fun z => absurd z (by decide), fun z => absurd z (by decide), fun _ => x3 (by decide), fun _ => x4 (by decide), fun _ => x5 (by decide)⟩
theorem gNo.not0 {K : GT} {i op j : Nat} (h : ¬ K.1 i = 133) (hi : gNo K 4 i op j) : gNo K 3 i op j := fun m W o hc hp => hi m W o hc (hp.n4 h)
theorem gPr.n3 {t : Nat} {W : List Nat} : gPr 3 t true (133 :: W) := ⟨fun _ => rfl, fun h => absurd h (by decide), fun h => absurd h (by decide), fun h => absurd h (by decide), fun _ => (show gRk 133 < 4 by decide), fun h => absurd h (by decide), fun h => absurd h (by decide), fun h => absurd h (by decide)⟩
theorem gOk.not1 {K : GT} {i op i2 : Nat} {e : List Int32} (h : K.1 i = 133) (ho : op < 5) (hi : gOk K 3 (i + 1) (op + 1) i2 e) : gOk K 3 i op i2 (e ++ [-(nI 133)]) := fun m W o hc hp => by
  obtain rfl : m = true := hp.1 (by decide)
  obtain ⟨m2, W2, o2, g1, g2, g3⟩ := hi true (133 :: W) o (by rw [gCnt_up (Or.inr (Or.inl rfl)), hc]) gPr.n3
  exact ⟨m2, W2, o2, gTo.st (gOpen133 h hc ho) g1, (g2.op (Nat.le_refl _) (by decide)).ap, g3⟩
theorem gNo.not1 {K : GT} {i op j : Nat} (h : K.1 i = 133) (ho : op < 5) (hi : gNo K 3 (i + 1) (op + 1) j) : gNo K 3 i op j := fun m W o hc hp => by
  obtain rfl : m = true := hp.1 (by decide)
  exact gTo.st (gOpen133 h hc ho) (hi true (133 :: W) o (by rw [gCnt_up (Or.inr (Or.inl rfl)), hc]) gPr.n3)
theorem gNo.not2 {K : GT} {i op : Nat} (h : K.1 i = 133) (ho : ¬ op < 5) : gNo K 3 i op i := fun m W o hc hp => by
  obtain rfl : m = true := hp.1 (by decide)
  exact gTo.en (gStep_f (gOpn_133 h) (by omega))
-- Cmp
theorem gPr.n5 {t : Nat} {m : Bool} {W : List Nat} (h : gPr 4 t m W) : gPr 5 t m W := ⟨fun h => absurd h (by decide), fun _ => h.2.1 (by decide), fun h => absurd h (by decide), fun h => absurd h (by decide), fun h => absurd h (by decide), fun h => absurd h (by decide), fun _ => (h.2.2.2.2.2.1 rfl).up (by decide), fun h => absurd h (by decide)⟩
theorem gPr.c5 {t w : Nat} {W : List Nat} (hw : gRk w = 4) : gPr 5 t false (w :: W) := ⟨fun h => absurd h (by decide), fun _ q => absurd q.2 (by decide), fun h => absurd h (by decide), fun h => absurd h (by decide), fun h => absurd h (by decide), fun h => absurd h (by decide), fun _ => (show gRk w < 5 by omega), fun h => absurd h (by decide)⟩
theorem gOk.cmp0 {K : GT} {i op i2 : Nat} {e : List Int32} (hi : gOk K 5 i op i2 e) (h : ¬ (K.1 i2 = 60 ∨ K.1 i2 = 61)) : gOk K 4 i op i2 e := fun m W o hc hp => by
  obtain ⟨m2, W2, o2, g1, g2, x1, x2, x3, x4, x5⟩ := hi m W o hc hp.n5
  exact ⟨m2, W2, o2, g1, g2.dn (by decide), fun z => absurd z (by decide), fun z => absurd z (by decide), fun _ q => absurd q h, fun _ => x4 (by decide), fun _ => x5 (by decide)⟩
theorem gNo.cmp0 {K : GT} {i op j : Nat} (hi : gNo K 5 i op j) : gNo K 4 i op j := fun m W o hc hp => hi m W o hc hp.n5
theorem gCmp_go {K : GT} {i op i1 : Nat} {e1 : List Int32} (hi : gOk K 5 i op i1 e1) (h : K.1 i1 = 60 ∨ K.1 i1 = 61) {m : Bool} {W : List Nat} {o : List Int32} (hc : gCnt W = op) (hp : gPr 4 (K.1 i) m W) : gTo K (true, m, i, W, o) (.inl (true, false, i1 + 1, K.1 i1 :: W, o ++ e1)) := by
  obtain ⟨m2, W2, o2, g1, g2, _⟩ := hi m W o hc hp.n5
  have r4 : gRk (K.1 i1) = 4 := by rcases h with e | e <;> (rw [e]; rfl)
  have l4 : gLow 4 W := hp.2.2.2.2.2.1 rfl
  have n133 : ¬ K.1 i1 = 133 := by omega
  have ec : gCmp W2 = false := by
    rw [← gCmp_stl W2 o2, g2 5 (by decide) (by decide), gCmp_stl]
    exact l4.cmp
  have es : gStl (gRk (K.1 i1)) W2 o2 = (W, o ++ e1) := by
    rw [r4]
    exact (g2 4 (by decide) (by decide)).trans (l4.stl _)
  have st := gStep_2 (K := K) (m := m2) (i := i1) (W := W2) (o := o2) (by omega) n133 (fun _ => ec)
  rw [es, r4] at st
  exact gTo.tr g1 (gTo.st st gTo.rf)
theorem gCnt_4 {t : Nat} {W : List Nat} (h : t = 60 ∨ t = 61) : gCnt (t :: W) = gCnt W := gCnt_op (by omega)
theorem gOk.cmp1 {K : GT} {i op i1 i2 : Nat} {e1 e2 : List Int32} (hi : gOk K 5 i op i1 e1) (h : K.1 i1 = 60 ∨ K.1 i1 = 61) (h2 : gOk K 5 (i1 + 1) op i2 e2) : gOk K 4 i op i2 ((e1 ++ e2) ++ [-(nI (K.1 i1))]) := fun m W o hc hp => by
  have r4 : gRk (K.1 i1) = 4 := by rcases h with e | e <;> (rw [e]; rfl)
  obtain ⟨m2, W2, o2, g1, g2, x1, x2, x3, x4, x5⟩ := h2 false (K.1 i1 :: W) (o ++ e1) ((gCnt_4 h).trans hc) (gPr.c5 r4)
  refine ⟨m2, W2, o2, gTo.tr (gCmp_go hi h hc hp) g1, ?_, fun z => absurd z (by decide), fun z => absurd z (by decide), fun _ _ => ?_, fun _ => x4 (by decide), fun _ => x5 (by decide)⟩
  · have := g2.op (r2 := 4) (by decide) (by omega)
    rw [← List.append_assoc, ← List.append_assoc]
    exact this
  · rw [← gCmp_stl W2 o2, g2 5 (by decide) (by decide), gCmp_stl]
    show (if 4 < gRk (K.1 i1) then gCmp W else decide (gRk (K.1 i1) = 4)) = true
    rw [if_neg (by omega)]
    exact decide_eq_true r4
theorem gNo.cmp1 {K : GT} {i op i1 j : Nat} {e1 : List Int32} (hi : gOk K 5 i op i1 e1) (h : K.1 i1 = 60 ∨ K.1 i1 = 61) (h2 : gNo K 5 (i1 + 1) op j) : gNo K 4 i op j := fun m W o hc hp => by
  have r4 : gRk (K.1 i1) = 4 := by rcases h with e | e <;> (rw [e]; rfl)
  exact gTo.tr (gCmp_go hi h hc hp) (h2 _ _ _ ((gCnt_4 h).trans hc) (gPr.c5 r4))
-- a part
theorem gOk.fin {K : GT} {i i2 : Nat} {e : List Int32} (h : gOk K 1 i 0 i2 e) (h2 : K.1 i2 = 59) : gTo K (true, true, i, [], []) (.inr (.inl (i2 + 1, e))) := by
  obtain ⟨m2, W2, o2, g1, g2, g3⟩ := h true [] [] rfl (gPr.or trivial)
  have e1 : gStl 1 W2 o2 = ([], e) := g2 1 (by decide) (by decide)
  have hp : gPar W2 = false := by rw [← gPar_stl W2 o2, e1]; rfl
  refine gTo.tr g1 (gTo.en ?_)
  show (if K.1 i2 = 41 ∧ gPar W2 = true then _ else if K.1 i2 = 59 ∧ gPar W2 = false then _ else _) = _
  rw [if_neg (by omega), if_pos ⟨h2, hp⟩, e1]
theorem gOk.bad {K : GT} {i i2 : Nat} {e : List Int32} (h3 : ∀ i, ¬ K.1 i = 3) (h : gOk K 1 i 0 i2 e) (h2 : ¬ K.1 i2 = 59) : gTo K (true, true, i, [], []) (.inr (.inr i2)) := by
  obtain ⟨m2, W2, o2, g1, g2, g3⟩ := h true [] [] rfl (gPr.or trivial)
  have e1 : gStl 1 W2 o2 = ([], e) := g2 1 (by decide) (by decide)
  have hp : gPar W2 = false := by rw [← gPar_stl W2 o2, e1]; rfl
  exact gTo.tr g1 (gTo.en (gStep_x g3 (h3 i2) (fun q => by rw [hp] at q; exact absurd q.2 (by decide)) (fun q => h2 q.1)))
theorem gNo.fin {K : GT} {i j : Nat} (h : gNo K 1 i 0 j) : gTo K (true, true, i, [], []) (.inr (.inr j)) := h true [] [] rfl (gPr.or trivial)
